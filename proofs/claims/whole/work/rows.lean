section
-- ===== PART A: goes FIRST, ahead of the names: the tables' words, and 'selects' of the private methods out of them =====
/-- a private method of a class that the tables say can be made, by its rows of tables_1 -/
def lw_okq (q : MethodName × Nat) : Prop := (q.1.cls ≠ "java/lang/invoke/MethodHandle" ∧ q.1.cls ≠ "java/lang/invoke/VarHandle") ∧ Cond.instantiable q.1.cls q.2 ∈ tables_1 ∧ Cond.privateMethod q.1 ∈ tables_1 ∧ Cond.instanceMethod q.1 ∈ tables_1
theorem lw_p0 : lw_okq (⟨"ArcCache", "request", "(I)V"⟩, 12) := ⟨⟨by decide +kernel, by decide +kernel⟩, List.mem_of_getElem? (i := 8) (by decide +kernel), List.mem_of_getElem? (i := 89) (by decide +kernel), List.mem_of_getElem? (i := 90) (by decide +kernel)⟩
theorem lw_p1 : lw_okq (⟨"ArcCache", "listNumbered", "(I)LArcCache$AddressList;"⟩, 12) := ⟨⟨by decide +kernel, by decide +kernel⟩, List.mem_of_getElem? (i := 8) (by decide +kernel), List.mem_of_getElem? (i := 97) (by decide +kernel), List.mem_of_getElem? (i := 98) (by decide +kernel)⟩
theorem lw_p2 : lw_okq (⟨"ArcCache$AddressList", "placeOf", "(I)I"⟩, 2) := ⟨⟨by decide +kernel, by decide +kernel⟩, List.mem_of_getElem? (i := 16) (by decide +kernel), List.mem_of_getElem? (i := 105) (by decide +kernel), List.mem_of_getElem? (i := 106) (by decide +kernel)⟩
theorem lw_p3 : lw_okq (⟨"ArcCache", "moveToCameAgain", "(II)V"⟩, 12) := ⟨⟨by decide +kernel, by decide +kernel⟩, List.mem_of_getElem? (i := 8) (by decide +kernel), List.mem_of_getElem? (i := 109) (by decide +kernel), List.mem_of_getElem? (i := 110) (by decide +kernel)⟩
theorem lw_p4 : lw_okq (⟨"ArcCache", "makeRoomForUnknown", "(I)V"⟩, 12) := ⟨⟨by decide +kernel, by decide +kernel⟩, List.mem_of_getElem? (i := 8) (by decide +kernel), List.mem_of_getElem? (i := 125) (by decide +kernel), List.mem_of_getElem? (i := 126) (by decide +kernel)⟩
theorem lw_p5 : lw_okq (⟨"ArcCache", "pageGoes", "(I)V"⟩, 12) := ⟨⟨by decide +kernel, by decide +kernel⟩, List.mem_of_getElem? (i := 8) (by decide +kernel), List.mem_of_getElem? (i := 141) (by decide +kernel), List.mem_of_getElem? (i := 142) (by decide +kernel)⟩
theorem lw_p6 : lw_okq (⟨"ArcCache", "writeBack", "(I)V"⟩, 12) := ⟨⟨by decide +kernel, by decide +kernel⟩, List.mem_of_getElem? (i := 8) (by decide +kernel), List.mem_of_getElem? (i := 145) (by decide +kernel), List.mem_of_getElem? (i := 146) (by decide +kernel)⟩
theorem lw_p7 : lw_okq (⟨"ArcCache", "makeRoom", "(I)V"⟩, 12) := ⟨⟨by decide +kernel, by decide +kernel⟩, List.mem_of_getElem? (i := 8) (by decide +kernel), List.mem_of_getElem? (i := 155) (by decide +kernel), List.mem_of_getElem? (i := 156) (by decide +kernel)⟩
theorem lw_p8 : lw_okq (⟨"ArcCache", "oldestGoes", "(LArcCache$AddressList;LArcCache$AddressList;)V"⟩, 12) := ⟨⟨by decide +kernel, by decide +kernel⟩, List.mem_of_getElem? (i := 8) (by decide +kernel), List.mem_of_getElem? (i := 159) (by decide +kernel), List.mem_of_getElem? (i := 160) (by decide +kernel)⟩
theorem lw_p9 : lw_okq (⟨"ArcCache", "moveTarget", "(I)V"⟩, 12) := ⟨⟨by decide +kernel, by decide +kernel⟩, List.mem_of_getElem? (i := 8) (by decide +kernel), List.mem_of_getElem? (i := 163) (by decide +kernel), List.mem_of_getElem? (i := 164) (by decide +kernel)⟩
theorem lw_p10 : lw_okq (⟨"ArcCache", "bringPage", "(I)V"⟩, 12) := ⟨⟨by decide +kernel, by decide +kernel⟩, List.mem_of_getElem? (i := 8) (by decide +kernel), List.mem_of_getElem? (i := 176) (by decide +kernel), List.mem_of_getElem? (i := 177) (by decide +kernel)⟩
theorem lw_p11 : lw_okq (⟨"ArcCacheModel", "request", "(I)V"⟩, 10) := ⟨⟨by decide +kernel, by decide +kernel⟩, List.mem_of_getElem? (i := 228) (by decide +kernel), List.mem_of_getElem? (i := 280) (by decide +kernel), List.mem_of_getElem? (i := 281) (by decide +kernel)⟩
theorem lw_p12 : lw_okq (⟨"ArcCacheModel", "come", "(II)V"⟩, 10) := ⟨⟨by decide +kernel, by decide +kernel⟩, List.mem_of_getElem? (i := 228) (by decide +kernel), List.mem_of_getElem? (i := 285) (by decide +kernel), List.mem_of_getElem? (i := 286) (by decide +kernel)⟩
theorem lw_p13 : lw_okq (⟨"ArcCacheModel", "leave", "(I)V"⟩, 10) := ⟨⟨by decide +kernel, by decide +kernel⟩, List.mem_of_getElem? (i := 228) (by decide +kernel), List.mem_of_getElem? (i := 289) (by decide +kernel), List.mem_of_getElem? (i := 290) (by decide +kernel)⟩
theorem lw_p14 : lw_okq (⟨"ArcCacheModel", "comeNew", "(I)V"⟩, 10) := ⟨⟨by decide +kernel, by decide +kernel⟩, List.mem_of_getElem? (i := 228) (by decide +kernel), List.mem_of_getElem? (i := 293) (by decide +kernel), List.mem_of_getElem? (i := 294) (by decide +kernel)⟩
theorem lw_p15 : lw_okq (⟨"ArcCacheModel", "old", "(I)I"⟩, 10) := ⟨⟨by decide +kernel, by decide +kernel⟩, List.mem_of_getElem? (i := 228) (by decide +kernel), List.mem_of_getElem? (i := 297) (by decide +kernel), List.mem_of_getElem? (i := 298) (by decide +kernel)⟩
def lw_privs_1 : List (MethodName × Nat) := [(⟨"ArcCache", "request", "(I)V"⟩, 12), (⟨"ArcCache", "listNumbered", "(I)LArcCache$AddressList;"⟩, 12), (⟨"ArcCache$AddressList", "placeOf", "(I)I"⟩, 2), (⟨"ArcCache", "moveToCameAgain", "(II)V"⟩, 12), (⟨"ArcCache", "makeRoomForUnknown", "(I)V"⟩, 12), (⟨"ArcCache", "pageGoes", "(I)V"⟩, 12), (⟨"ArcCache", "writeBack", "(I)V"⟩, 12), (⟨"ArcCache", "makeRoom", "(I)V"⟩, 12), (⟨"ArcCache", "oldestGoes", "(LArcCache$AddressList;LArcCache$AddressList;)V"⟩, 12), (⟨"ArcCache", "moveTarget", "(I)V"⟩, 12), (⟨"ArcCache", "bringPage", "(I)V"⟩, 12), (⟨"ArcCacheModel", "request", "(I)V"⟩, 10), (⟨"ArcCacheModel", "come", "(II)V"⟩, 10), (⟨"ArcCacheModel", "leave", "(I)V"⟩, 10), (⟨"ArcCacheModel", "comeNew", "(I)V"⟩, 10), (⟨"ArcCacheModel", "old", "(I)I"⟩, 10)]
theorem lw_r1 : ∀ q ∈ lw_privs_1, lw_okq q := List.forall_mem_cons.mpr ⟨lw_p0, List.forall_mem_cons.mpr ⟨lw_p1, List.forall_mem_cons.mpr ⟨lw_p2, List.forall_mem_cons.mpr ⟨lw_p3, List.forall_mem_cons.mpr ⟨lw_p4, List.forall_mem_cons.mpr ⟨lw_p5, List.forall_mem_cons.mpr ⟨lw_p6, List.forall_mem_cons.mpr ⟨lw_p7, List.forall_mem_cons.mpr ⟨lw_p8, List.forall_mem_cons.mpr ⟨lw_p9, List.forall_mem_cons.mpr ⟨lw_p10, List.forall_mem_cons.mpr ⟨lw_p11, List.forall_mem_cons.mpr ⟨lw_p12, List.forall_mem_cons.mpr ⟨lw_p13, List.forall_mem_cons.mpr ⟨lw_p14, List.forall_mem_cons.mpr ⟨lw_p15, fun _ h => absurd h List.not_mem_nil⟩⟩⟩⟩⟩⟩⟩⟩⟩⟩⟩⟩⟩⟩⟩⟩
theorem lw_p16 : lw_okq (⟨"ArcCacheModel", "makeRoom", "(I)V"⟩, 10) := ⟨⟨by decide +kernel, by decide +kernel⟩, List.mem_of_getElem? (i := 228) (by decide +kernel), List.mem_of_getElem? (i := 301) (by decide +kernel), List.mem_of_getElem? (i := 302) (by decide +kernel)⟩
theorem lw_p17 : lw_okq (⟨"ArcCacheModel", "go", "(I)V"⟩, 10) := ⟨⟨by decide +kernel, by decide +kernel⟩, List.mem_of_getElem? (i := 228) (by decide +kernel), List.mem_of_getElem? (i := 305) (by decide +kernel), List.mem_of_getElem? (i := 306) (by decide +kernel)⟩
theorem lw_p18 : lw_okq (⟨"ArcCacheModel", "clean", "(I)V"⟩, 10) := ⟨⟨by decide +kernel, by decide +kernel⟩, List.mem_of_getElem? (i := 228) (by decide +kernel), List.mem_of_getElem? (i := 309) (by decide +kernel), List.mem_of_getElem? (i := 310) (by decide +kernel)⟩
def lw_privs_2 : List (MethodName × Nat) := [(⟨"ArcCacheModel", "makeRoom", "(I)V"⟩, 10), (⟨"ArcCacheModel", "go", "(I)V"⟩, 10), (⟨"ArcCacheModel", "clean", "(I)V"⟩, 10)]
theorem lw_r2 : ∀ q ∈ lw_privs_2, lw_okq q := List.forall_mem_cons.mpr ⟨lw_p16, List.forall_mem_cons.mpr ⟨lw_p17, List.forall_mem_cons.mpr ⟨lw_p18, fun _ h => absurd h List.not_mem_nil⟩⟩⟩
def lw_privs : List (MethodName × Nat) := lw_privs_1 ++ (lw_privs_2)
def lw_tbl : List Cond := k2_sels lw_privs ++ tables_1
theorem lw_privs_ok : ∀ q ∈ lw_privs, lw_okq q := by
  show ∀ q ∈ lw_privs_1 ++ (lw_privs_2), lw_okq q
  exact List.forall_mem_append.mpr ⟨lw_r1, lw_r2⟩
-- ===== end of PART A; then your names; then what follows =====
end
section
/-! ===== BEGIN words of one list among another's, by their places ===== -/
theorem goodIn_r {big : List Cond} (ws : List Cond) (ps : List Nat) (hp : ws = ps.filterMap (fun i => big[i]?)) (h : ws.all goodWord = true) : GoodIn big ws := by
  intro w hw
  have h1 := List.all_eq_true.mp h w hw
  rw [hp] at hw
  obtain ⟨i, -, hi⟩ := List.mem_filterMap.mp hw
  have hm : w ∈ big := by first | exact List.mem_of_getElem? hi | exact List.getElem?_mem hi
  exact ⟨hm, good_of_word h1⟩
theorem goodIn_app {big a b : List Cond} (ha : GoodIn big a) (hb : GoodIn big b) : GoodIn big (a ++ b) := fun w h => (List.mem_append.mp h).elim (ha w) (hb w)
theorem goodIn_ca {big a b : List Cond} {c : Cond} (ha : GoodIn big (c :: a)) (hb : GoodIn big b) : GoodIn big (c :: (a ++ b)) := fun w h => (List.mem_cons.mp h).elim (fun e => ha w (List.mem_cons.mpr (Or.inl e))) (fun h => (List.mem_append.mp h).elim (fun h => ha w (List.mem_cons.mpr (Or.inr h))) (hb w))
theorem goodIn_sub {big ws : List Cond} (hm : ∀ w ∈ ws, w ∈ big) (h : ws.all goodWord = true) : GoodIn big ws := fun w hw => ⟨hm w hw, good_of_word (List.all_eq_true.mp h w hw)⟩
/-! ===== END ===== -/

/-! ===== BEGIN printed: names, fields, word lists, decode rows ===== -/
def RX0 : String := "ArcCache$AddressList"
def TX0 : u_T := fun k => match k with
  | 0 => ("ArcCache$AddressList", "oldestFirst", "[I", true)
  | _ => ("ArcCache$AddressList", "count", "I", false)
def tyX0 : Nat → FieldType := fun k => match k with
  | 0 => .array .int
  | _ => .int
abbrev wsX00 : List Cond := u_ws RX0 TX0 2
theorem nmX0 : ∀ a, a < 2 → ∀ b, b < 2 → a ≠ b → (TX0 a).2.1 ≠ (TX0 b).2.1 := by decide +kernel
theorem tyX0_ok : ∀ k, k < 2 → parseFieldDescriptor (TX0 k).2.2.1 = some (tyX0 k) := by decide +kernel
abbrev cX0_init : ByteArray := prog_2_method_1_code
def yX0_init : MethodName := ⟨RX0, "<init>", "()V"⟩
abbrev cX0_size : ByteArray := prog_2_method_2_code
def yX0_size : MethodName := ⟨RX0, "size", "()I"⟩
abbrev cX0_empty : ByteArray := prog_2_method_3_code
def yX0_empty : MethodName := ⟨RX0, "empty", "()V"⟩
abbrev cX0_has : ByteArray := prog_2_method_4_code
def yX0_has : MethodName := ⟨RX0, "has", "(I)Z"⟩
abbrev cX0_fromNewest : ByteArray := prog_2_method_5_code
def yX0_fromNewest : MethodName := ⟨RX0, "fromNewest", "(I)I"⟩
abbrev cX0_addNewest : ByteArray := prog_2_method_6_code
def yX0_addNewest : MethodName := ⟨RX0, "addNewest", "(I)V"⟩
abbrev cX0_oldest : ByteArray := prog_2_method_7_code
def yX0_oldest : MethodName := ⟨RX0, "oldest", "()I"⟩
abbrev cX0_dropOldest : ByteArray := prog_2_method_8_code
def yX0_dropOldest : MethodName := ⟨RX0, "dropOldest", "()V"⟩
abbrev cX0_remove : ByteArray := prog_2_method_9_code
def yX0_remove : MethodName := ⟨RX0, "remove", "(I)V"⟩
abbrev cX0_placeOf : ByteArray := prog_2_method_10_code
def yX0_placeOf : MethodName := ⟨RX0, "placeOf", "(I)I"⟩
def RX1 : String := "ArcCache"
def TX1 : u_T := fun k => match k with
  | 0 => ("ArcCache", "pages", "I", true)
  | 1 => ("ArcCache", "cameOnce", "LArcCache$AddressList;", true)
  | 2 => ("ArcCache", "cameAgain", "LArcCache$AddressList;", true)
  | 3 => ("ArcCache", "wentOnce", "LArcCache$AddressList;", true)
  | 4 => ("ArcCache", "wentAgain", "LArcCache$AddressList;", true)
  | 5 => ("ArcCache", "pageWords", "[I", true)
  | 6 => ("ArcCache", "dirtyPages", "[Z", true)
  | 7 => ("ArcCache", "storeWords", "[I", true)
  | 8 => ("ArcCache", "targetCount", "I", false)
  | 9 => ("ArcCache", "hitCount", "I", false)
  | 10 => ("ArcCache", "missCount", "I", false)
  | _ => ("ArcCache", "goneCount", "I", false)
def tyX1 : Nat → FieldType := fun k => match k with
  | 0 => .int
  | 1 => .object "ArcCache$AddressList"
  | 2 => .object "ArcCache$AddressList"
  | 3 => .object "ArcCache$AddressList"
  | 4 => .object "ArcCache$AddressList"
  | 5 => .array .int
  | 6 => .array .boolean
  | 7 => .array .int
  | 8 => .int
  | 9 => .int
  | 10 => .int
  | _ => .int
abbrev wsX10 : List Cond := u_ws RX1 TX1 12
theorem nmX1 : ∀ a, a < 12 → ∀ b, b < 12 → a ≠ b → (TX1 a).2.1 ≠ (TX1 b).2.1 := by decide +kernel
theorem tyX1_ok : ∀ k, k < 12 → parseFieldDescriptor (TX1 k).2.2.1 = some (tyX1 k) := by decide +kernel
abbrev cX1_init : ByteArray := prog_1_method_1_code
def yX1_init : MethodName := ⟨RX1, "<init>", "(I)V"⟩
abbrev cX1_init_ : ByteArray := prog_1_method_2_code
def yX1_init_ : MethodName := ⟨RX1, "init", "()V"⟩
abbrev cX1_read : ByteArray := prog_1_method_3_code
def yX1_read : MethodName := ⟨RX1, "read", "(I)I"⟩
abbrev cX1_write : ByteArray := prog_1_method_4_code
def yX1_write : MethodName := ⟨RX1, "write", "(II)Z"⟩
abbrev cX1_flush : ByteArray := prog_1_method_5_code
def yX1_flush : MethodName := ⟨RX1, "flush", "()I"⟩
abbrev cX1_whichList : ByteArray := prog_1_method_6_code
def yX1_whichList : MethodName := ⟨RX1, "whichList", "(I)I"⟩
abbrev cX1_at : ByteArray := prog_1_method_7_code
def yX1_at : MethodName := ⟨RX1, "at", "(II)I"⟩
abbrev cX1_length : ByteArray := prog_1_method_8_code
def yX1_length : MethodName := ⟨RX1, "length", "(I)I"⟩
abbrev cX1_target : ByteArray := prog_1_method_9_code
def yX1_target : MethodName := ⟨RX1, "target", "()I"⟩
abbrev cX1_hits : ByteArray := prog_1_method_10_code
def yX1_hits : MethodName := ⟨RX1, "hits", "()I"⟩
abbrev cX1_misses : ByteArray := prog_1_method_11_code
def yX1_misses : MethodName := ⟨RX1, "misses", "()I"⟩
abbrev cX1_store : ByteArray := prog_1_method_12_code
def yX1_store : MethodName := ⟨RX1, "store", "(I)I"⟩
abbrev cX1_isDirty : ByteArray := prog_1_method_13_code
def yX1_isDirty : MethodName := ⟨RX1, "isDirty", "(I)Z"⟩
abbrev cX1_gone : ByteArray := prog_1_method_14_code
def yX1_gone : MethodName := ⟨RX1, "gone", "()I"⟩
abbrev cX1_isAddress : ByteArray := prog_1_method_15_code
def yX1_isAddress : MethodName := ⟨RX1, "isAddress", "(I)Z"⟩
abbrev cX1_isList : ByteArray := prog_1_method_16_code
def yX1_isList : MethodName := ⟨RX1, "isList", "(I)Z"⟩
abbrev cX1_listNumbered : ByteArray := prog_1_method_17_code
def yX1_listNumbered : MethodName := ⟨RX1, "listNumbered", "(I)LArcCache$AddressList;"⟩
abbrev cX1_request : ByteArray := prog_1_method_18_code
def yX1_request : MethodName := ⟨RX1, "request", "(I)V"⟩
abbrev cX1_moveToCameAgain : ByteArray := prog_1_method_19_code
def yX1_moveToCameAgain : MethodName := ⟨RX1, "moveToCameAgain", "(II)V"⟩
abbrev cX1_bringPage : ByteArray := prog_1_method_20_code
def yX1_bringPage : MethodName := ⟨RX1, "bringPage", "(I)V"⟩
abbrev cX1_moveTarget : ByteArray := prog_1_method_21_code
def yX1_moveTarget : MethodName := ⟨RX1, "moveTarget", "(I)V"⟩
abbrev cX1_stepOf : ByteArray := prog_1_method_22_code
def yX1_stepOf : MethodName := ⟨RX1, "stepOf", "(II)I"⟩
abbrev cX1_makeRoom : ByteArray := prog_1_method_23_code
def yX1_makeRoom : MethodName := ⟨RX1, "makeRoom", "(I)V"⟩
abbrev cX1_makeRoomForUnknown : ByteArray := prog_1_method_24_code
def yX1_makeRoomForUnknown : MethodName := ⟨RX1, "makeRoomForUnknown", "(I)V"⟩
abbrev cX1_oldestGoes : ByteArray := prog_1_method_25_code
def yX1_oldestGoes : MethodName := ⟨RX1, "oldestGoes", "(LArcCache$AddressList;LArcCache$AddressList;)V"⟩
abbrev cX1_pageGoes : ByteArray := prog_1_method_26_code
def yX1_pageGoes : MethodName := ⟨RX1, "pageGoes", "(I)V"⟩
abbrev cX1_writeBack : ByteArray := prog_1_method_27_code
def yX1_writeBack : MethodName := ⟨RX1, "writeBack", "(I)V"⟩
def RX2 : String := "ArcCacheModel"
def TX2 : u_T := fun k => match k with
  | 0 => ("ArcCacheModel", "pages", "I", true)
  | 1 => ("ArcCacheModel", "lists", "[I", true)
  | 2 => ("ArcCacheModel", "many", "[I", true)
  | 3 => ("ArcCacheModel", "store", "[I", true)
  | 4 => ("ArcCacheModel", "words", "[I", true)
  | 5 => ("ArcCacheModel", "dirty", "[Z", true)
  | 6 => ("ArcCacheModel", "target", "I", false)
  | 7 => ("ArcCacheModel", "hits", "I", false)
  | 8 => ("ArcCacheModel", "misses", "I", false)
  | _ => ("ArcCacheModel", "gone", "I", false)
def tyX2 : Nat → FieldType := fun k => match k with
  | 0 => .int
  | 1 => .array .int
  | 2 => .array .int
  | 3 => .array .int
  | 4 => .array .int
  | 5 => .array .boolean
  | 6 => .int
  | 7 => .int
  | 8 => .int
  | _ => .int
abbrev wsX20 : List Cond := u_ws RX2 TX2 10
theorem nmX2 : ∀ a, a < 10 → ∀ b, b < 10 → a ≠ b → (TX2 a).2.1 ≠ (TX2 b).2.1 := by decide +kernel
theorem tyX2_ok : ∀ k, k < 10 → parseFieldDescriptor (TX2 k).2.2.1 = some (tyX2 k) := by decide +kernel
abbrev cX2_init : ByteArray := prog_4_method_1_code
def yX2_init : MethodName := ⟨RX2, "<init>", "(I)V"⟩
abbrev cX2_init_ : ByteArray := prog_4_method_2_code
def yX2_init_ : MethodName := ⟨RX2, "init", "()V"⟩
abbrev cX2_isAddress : ByteArray := prog_4_method_3_code
def yX2_isAddress : MethodName := ⟨RX2, "isAddress", "(I)Z"⟩
abbrev cX2_whichList : ByteArray := prog_4_method_4_code
def yX2_whichList : MethodName := ⟨RX2, "whichList", "(I)I"⟩
abbrev cX2_leave : ByteArray := prog_4_method_5_code
def yX2_leave : MethodName := ⟨RX2, "leave", "(I)V"⟩
abbrev cX2_come : ByteArray := prog_4_method_6_code
def yX2_come : MethodName := ⟨RX2, "come", "(II)V"⟩
abbrev cX2_old : ByteArray := prog_4_method_7_code
def yX2_old : MethodName := ⟨RX2, "old", "(I)I"⟩
abbrev cX2_clean : ByteArray := prog_4_method_8_code
def yX2_clean : MethodName := ⟨RX2, "clean", "(I)V"⟩
abbrev cX2_go : ByteArray := prog_4_method_9_code
def yX2_go : MethodName := ⟨RX2, "go", "(I)V"⟩
abbrev cX2_makeRoom : ByteArray := prog_4_method_10_code
def yX2_makeRoom : MethodName := ⟨RX2, "makeRoom", "(I)V"⟩
abbrev cX2_comeNew : ByteArray := prog_4_method_11_code
def yX2_comeNew : MethodName := ⟨RX2, "comeNew", "(I)V"⟩
abbrev cX2_request : ByteArray := prog_4_method_12_code
def yX2_request : MethodName := ⟨RX2, "request", "(I)V"⟩
abbrev cX2_read : ByteArray := prog_4_method_13_code
def yX2_read : MethodName := ⟨RX2, "read", "(I)I"⟩
abbrev cX2_write : ByteArray := prog_4_method_14_code
def yX2_write : MethodName := ⟨RX2, "write", "(II)Z"⟩
abbrev cX2_flush : ByteArray := prog_4_method_15_code
def yX2_flush : MethodName := ⟨RX2, "flush", "()I"⟩
abbrev cX2_at : ByteArray := prog_4_method_16_code
def yX2_at : MethodName := ⟨RX2, "at", "(II)I"⟩
abbrev cX2_length : ByteArray := prog_4_method_17_code
def yX2_length : MethodName := ⟨RX2, "length", "(I)I"⟩
abbrev cX2_target : ByteArray := prog_4_method_18_code
def yX2_target : MethodName := ⟨RX2, "target", "()I"⟩
abbrev cX2_hits : ByteArray := prog_4_method_19_code
def yX2_hits : MethodName := ⟨RX2, "hits", "()I"⟩
abbrev cX2_misses : ByteArray := prog_4_method_20_code
def yX2_misses : MethodName := ⟨RX2, "misses", "()I"⟩
abbrev cX2_store : ByteArray := prog_4_method_21_code
def yX2_store : MethodName := ⟨RX2, "store", "(I)I"⟩
abbrev cX2_isDirty : ByteArray := prog_4_method_22_code
def yX2_isDirty : MethodName := ⟨RX2, "isDirty", "(I)Z"⟩
abbrev cX2_gone : ByteArray := prog_4_method_23_code
def yX2_gone : MethodName := ⟨RX2, "gone", "()I"⟩
def RJ9 : String := "java/lang/Math"
def TJ9 : u_T := fun k => match k with
  | _ => ("", "", "", false)
def tyJ9 : Nat → FieldType := fun k => match k with
  | _ => .int
abbrev wsJ90 : List Cond := u_ws RJ9 TJ9 0
theorem nmJ9 : ∀ a, a < 0 → ∀ b, b < 0 → a ≠ b → (TJ9 a).2.1 ≠ (TJ9 b).2.1 := by decide +kernel
theorem tyJ9_ok : ∀ k, k < 0 → parseFieldDescriptor (TJ9 k).2.2.1 = some (tyJ9 k) := by decide +kernel
abbrev cJ9_floorMod_7cf53 : ByteArray := prog_5_method_50_code
def yJ9_floorMod_7cf53 : MethodName := ⟨RJ9, "floorMod", "(II)I"⟩
abbrev cJ9_max_7cf53 : ByteArray := prog_5_method_65_code
def yJ9_max_7cf53 : MethodName := ⟨RJ9, "max", "(II)I"⟩
abbrev cJ9_min_7cf53 : ByteArray := prog_5_method_69_code
def yJ9_min_7cf53 : MethodName := ⟨RJ9, "min", "(II)I"⟩
def RJ10 : String := "java/lang/System"
def TJ10 : u_T := fun k => match k with
  | _ => ("", "", "", false)
def tyJ10 : Nat → FieldType := fun k => match k with
  | _ => .int
abbrev wsJ100 : List Cond := u_ws RJ10 TJ10 0
theorem nmJ10 : ∀ a, a < 0 → ∀ b, b < 0 → a ≠ b → (TJ10 a).2.1 ≠ (TJ10 b).2.1 := by decide +kernel
theorem tyJ10_ok : ∀ k, k < 0 → parseFieldDescriptor (TJ10 k).2.2.1 = some (tyJ10 k) := by decide +kernel
def RJ7 : String := "java/util/Arrays"
def TJ7 : u_T := fun k => match k with
  | _ => ("", "", "", false)
def tyJ7 : Nat → FieldType := fun k => match k with
  | _ => .int
abbrev wsJ70 : List Cond := u_ws RJ7 TJ7 0
theorem nmJ7 : ∀ a, a < 0 → ∀ b, b < 0 → a ≠ b → (TJ7 a).2.1 ≠ (TJ7 b).2.1 := by decide +kernel
theorem tyJ7_ok : ∀ k, k < 0 → parseFieldDescriptor (TJ7 k).2.2.1 = some (tyJ7 k) := by decide +kernel
abbrev cJ7_fill_53178 : ByteArray := prog_7_method_103_code
def yJ7_fill_53178 : MethodName := ⟨RJ7, "fill", "([II)V"⟩
def RL : String := "ArcCacheLaw"
abbrev cL_cell : ByteArray := method_2_code
def yL_cell : MethodName := ⟨RL, "cell", "([II)I"⟩
abbrev cL_law : ByteArray := code
def yL_law : MethodName := ⟨RL, "law", "([I)Z"⟩
def wsX0_init : List Cond := .code yX0_init cX0_init 1 none :: ([.methodLink RX0 3 objectInit, .instanceMethod objectInit, .code objectInit ⟨#[0xb1]⟩ 1 none, .arrayClass .int, .fieldLink RX0 9 "ArcCache$AddressList" "oldestFirst" "[I"] ++ wsX00)
def wsX0_size : List Cond := .code yX0_size cX0_size 1 (some .int) :: ([.fieldLink RX0 15 "ArcCache$AddressList" "count" "I"] ++ wsX00)
def wsX0_empty : List Cond := .code yX0_empty cX0_empty 1 none :: ([.fieldLink RX0 15 "ArcCache$AddressList" "count" "I"] ++ wsX00)
def wsX0_placeOf : List Cond := .code yX0_placeOf cX0_placeOf 3 (some .int) :: ([.fieldLink RX0 15 "ArcCache$AddressList" "count" "I", .fieldLink RX0 9 "ArcCache$AddressList" "oldestFirst" "[I"] ++ wsX00)
def wsX0_has : List Cond := .code yX0_has cX0_has 2 (some .boolean) :: ([.methodLink RX0 19 yX0_placeOf, .instanceMethod yX0_placeOf, .selects RX0 yX0_placeOf yX0_placeOf, .initialized RX0, .code yX0_placeOf cX0_placeOf 3 (some .int), .fieldLink RX0 15 "ArcCache$AddressList" "count" "I", .fieldLink RX0 9 "ArcCache$AddressList" "oldestFirst" "[I"] ++ wsX00)
def wsX0_fromNewest : List Cond := .code yX0_fromNewest cX0_fromNewest 2 (some .int) :: ([.fieldLink RX0 15 "ArcCache$AddressList" "count" "I", .fieldLink RX0 9 "ArcCache$AddressList" "oldestFirst" "[I"] ++ wsX00)
def wsX1_isAddress : List Cond := .code yX1_isAddress cX1_isAddress 1 (some .boolean) :: ([])
def wsX0_addNewest : List Cond := .code yX0_addNewest cX0_addNewest 2 none :: ([.fieldLink RX0 15 "ArcCache$AddressList" "count" "I", .fieldLink RX0 9 "ArcCache$AddressList" "oldestFirst" "[I", .static yX1_isAddress, .initialized RX1, .code yX1_isAddress cX1_isAddress 1 (some .boolean)] ++ wsX00)
def wsX0_oldest : List Cond := .code yX0_oldest cX0_oldest 1 (some .int) :: ([.fieldLink RX0 15 "ArcCache$AddressList" "count" "I", .methodLink RX0 27 yX0_fromNewest, .instanceMethod yX0_fromNewest, .selects RX0 yX0_fromNewest yX0_fromNewest, .initialized RX0, .code yX0_fromNewest cX0_fromNewest 2 (some .int), .fieldLink RX0 9 "ArcCache$AddressList" "oldestFirst" "[I"] ++ wsX00)
def wsX0_remove : List Cond := .code yX0_remove cX0_remove 3 none :: ([.fieldLink RX0 15 "ArcCache$AddressList" "count" "I", .fieldLink RX0 9 "ArcCache$AddressList" "oldestFirst" "[I", .methodLink RX0 38 arraycopyName, .native arraycopyName, .static arraycopyName, .initialized "java/lang/System", .methodLink RX0 19 yX0_placeOf, .instanceMethod yX0_placeOf, .selects RX0 yX0_placeOf yX0_placeOf, .initialized RX0, .code yX0_placeOf cX0_placeOf 3 (some .int)] ++ wsX00)
def wsX0_dropOldest : List Cond := .code yX0_dropOldest cX0_dropOldest 1 none :: ([.methodLink RX0 30 yX0_oldest, .instanceMethod yX0_oldest, .selects RX0 yX0_oldest yX0_oldest, .initialized RX0, .code yX0_oldest cX0_oldest 1 (some .int), .fieldLink RX0 15 "ArcCache$AddressList" "count" "I", .methodLink RX0 27 yX0_fromNewest, .instanceMethod yX0_fromNewest, .selects RX0 yX0_fromNewest yX0_fromNewest, .code yX0_fromNewest cX0_fromNewest 2 (some .int), .fieldLink RX0 9 "ArcCache$AddressList" "oldestFirst" "[I", .methodLink RX0 34 yX0_remove, .instanceMethod yX0_remove, .selects RX0 yX0_remove yX0_remove, .code yX0_remove cX0_remove 3 none, .methodLink RX0 38 arraycopyName, .native arraycopyName, .static arraycopyName, .initialized "java/lang/System", .methodLink RX0 19 yX0_placeOf, .instanceMethod yX0_placeOf, .selects RX0 yX0_placeOf yX0_placeOf, .code yX0_placeOf cX0_placeOf 3 (some .int)] ++ wsX00)
def wsJ9_floorMod_7cf53 : List Cond := .code yJ9_floorMod_7cf53 cJ9_floorMod_7cf53 3 (some .int) :: ([])
def wsX1_init : List Cond := .code yX1_init cX1_init 2 none :: ([.methodLink RX1 1 objectInit, .instanceMethod objectInit, .code objectInit ⟨#[0xb1]⟩ 1 none, .classLink RX1 7 RX0, .instantiable RX0 2, .initialized RX0, .fieldLink RX1 10 "ArcCache" "cameOnce" "LArcCache$AddressList;", .fieldLink RX1 16 "ArcCache" "cameAgain" "LArcCache$AddressList;", .fieldLink RX1 19 "ArcCache" "wentOnce" "LArcCache$AddressList;", .fieldLink RX1 22 "ArcCache" "wentAgain" "LArcCache$AddressList;", .arrayClass .int, .fieldLink RX1 25 "ArcCache" "pageWords" "[I", .arrayClass .boolean, .fieldLink RX1 29 "ArcCache" "dirtyPages" "[Z", .fieldLink RX1 33 "ArcCache" "storeWords" "[I", .fieldLink RX1 42 "ArcCache" "pages" "I", .instanceMethod yX0_init, .code yX0_init cX0_init 1 none, .methodLink RX0 3 objectInit, .fieldLink RX0 9 "ArcCache$AddressList" "oldestFirst" "[I", .methodLink RX1 36 yJ9_floorMod_7cf53, .static yJ9_floorMod_7cf53, .initialized RJ9, .code yJ9_floorMod_7cf53 cJ9_floorMod_7cf53 3 (some .int)] ++ wsX00 ++ wsX10)
def wsJ7_fill_53178 : List Cond := .code yJ7_fill_53178 cJ7_fill_53178 4 none :: ([])
def wsX1_init_ : List Cond := .code yX1_init_ cX1_init_ 2 none :: ([.fieldLink RX1 10 "ArcCache" "cameOnce" "LArcCache$AddressList;", .fieldLink RX1 16 "ArcCache" "cameAgain" "LArcCache$AddressList;", .fieldLink RX1 19 "ArcCache" "wentOnce" "LArcCache$AddressList;", .fieldLink RX1 22 "ArcCache" "wentAgain" "LArcCache$AddressList;", .fieldLink RX1 25 "ArcCache" "pageWords" "[I", .fieldLink RX1 33 "ArcCache" "storeWords" "[I", .fieldLink RX1 29 "ArcCache" "dirtyPages" "[Z", .fieldLink RX1 55 "ArcCache" "targetCount" "I", .fieldLink RX1 58 "ArcCache" "hitCount" "I", .fieldLink RX1 61 "ArcCache" "missCount" "I", .fieldLink RX1 64 "ArcCache" "goneCount" "I", .methodLink RX1 46 yX0_empty, .instanceMethod yX0_empty, .selects RX0 yX0_empty yX0_empty, .initialized RX0, .code yX0_empty cX0_empty 1 none, .fieldLink RX0 15 "ArcCache$AddressList" "count" "I", .methodLink RX1 49 yJ7_fill_53178, .static yJ7_fill_53178, .initialized RJ7, .code yJ7_fill_53178 cJ7_fill_53178 4 none] ++ wsX10 ++ wsX00)
def wsX1_listNumbered : List Cond := .code yX1_listNumbered cX1_listNumbered 2 (some (.object "ArcCache$AddressList")) :: ([.fieldLink RX1 10 "ArcCache" "cameOnce" "LArcCache$AddressList;", .fieldLink RX1 16 "ArcCache" "cameAgain" "LArcCache$AddressList;", .fieldLink RX1 19 "ArcCache" "wentOnce" "LArcCache$AddressList;", .fieldLink RX1 22 "ArcCache" "wentAgain" "LArcCache$AddressList;"] ++ wsX10)
def wsX1_whichList : List Cond := .code yX1_whichList cX1_whichList 3 (some .int) :: ([.methodLink RX1 78 yX1_listNumbered, .instanceMethod yX1_listNumbered, .selects RX1 yX1_listNumbered yX1_listNumbered, .initialized RX1, .code yX1_listNumbered cX1_listNumbered 2 (some (.object "ArcCache$AddressList")), .fieldLink RX1 10 "ArcCache" "cameOnce" "LArcCache$AddressList;", .fieldLink RX1 16 "ArcCache" "cameAgain" "LArcCache$AddressList;", .fieldLink RX1 19 "ArcCache" "wentOnce" "LArcCache$AddressList;", .fieldLink RX1 22 "ArcCache" "wentAgain" "LArcCache$AddressList;", .methodLink RX1 82 yX0_has, .instanceMethod yX0_has, .selects RX0 yX0_has yX0_has, .initialized RX0, .code yX0_has cX0_has 2 (some .boolean), .methodLink RX0 19 yX0_placeOf, .instanceMethod yX0_placeOf, .selects RX0 yX0_placeOf yX0_placeOf, .code yX0_placeOf cX0_placeOf 3 (some .int), .fieldLink RX0 15 "ArcCache$AddressList" "count" "I", .fieldLink RX0 9 "ArcCache$AddressList" "oldestFirst" "[I"] ++ wsX10 ++ wsX00)
def wsX1_moveToCameAgain_r1 : List Cond := [Cond.fieldLink RX1 16 "ArcCache" "cameAgain" "LArcCache$AddressList;", Cond.methodLink RX1 78 yX1_listNumbered, Cond.instanceMethod yX1_listNumbered, Cond.selects RX1 yX1_listNumbered yX1_listNumbered, Cond.initialized RX1, Cond.code yX1_listNumbered cX1_listNumbered 2 (some (.object "ArcCache$AddressList")), Cond.fieldLink RX1 10 "ArcCache" "cameOnce" "LArcCache$AddressList;", Cond.fieldLink RX1 19 "ArcCache" "wentOnce" "LArcCache$AddressList;", Cond.fieldLink RX1 22 "ArcCache" "wentAgain" "LArcCache$AddressList;", Cond.methodLink RX1 118 yX0_remove, Cond.instanceMethod yX0_remove, Cond.selects RX0 yX0_remove yX0_remove, Cond.initialized RX0, Cond.code yX0_remove cX0_remove 3 none, Cond.fieldLink RX0 15 "ArcCache$AddressList" "count" "I", Cond.fieldLink RX0 9 "ArcCache$AddressList" "oldestFirst" "[I", Cond.methodLink RX0 38 arraycopyName, Cond.native arraycopyName, Cond.static arraycopyName, Cond.initialized "java/lang/System", Cond.methodLink RX0 19 yX0_placeOf, Cond.instanceMethod yX0_placeOf, Cond.selects RX0 yX0_placeOf yX0_placeOf, Cond.code yX0_placeOf cX0_placeOf 3 (some .int)]
def wsX1_moveToCameAgain_r2 : List Cond := [Cond.methodLink RX1 106 yX0_addNewest, Cond.instanceMethod yX0_addNewest, Cond.selects RX0 yX0_addNewest yX0_addNewest, Cond.code yX0_addNewest cX0_addNewest 2 none, Cond.static yX1_isAddress, Cond.code yX1_isAddress cX1_isAddress 1 (some .boolean)]
def wsX1_moveToCameAgain : List Cond := .code yX1_moveToCameAgain cX1_moveToCameAgain 3 none :: ((wsX1_moveToCameAgain_r1 ++ wsX1_moveToCameAgain_r2) ++ wsX10 ++ wsX00)
def wsX1_writeBack : List Cond := .code yX1_writeBack cX1_writeBack 2 none :: ([.fieldLink RX1 33 "ArcCache" "storeWords" "[I", .fieldLink RX1 25 "ArcCache" "pageWords" "[I", .fieldLink RX1 29 "ArcCache" "dirtyPages" "[Z"] ++ wsX10)
def wsX1_pageGoes : List Cond := .code yX1_pageGoes cX1_pageGoes 2 none :: ([.fieldLink RX1 29 "ArcCache" "dirtyPages" "[Z", .fieldLink RX1 64 "ArcCache" "goneCount" "I", .methodLink RX1 67 yX1_isAddress, .static yX1_isAddress, .initialized RX1, .code yX1_isAddress cX1_isAddress 1 (some .boolean), .methodLink RX1 75 yX1_writeBack, .instanceMethod yX1_writeBack, .selects RX1 yX1_writeBack yX1_writeBack, .code yX1_writeBack cX1_writeBack 2 none, .fieldLink RX1 33 "ArcCache" "storeWords" "[I", .fieldLink RX1 25 "ArcCache" "pageWords" "[I"] ++ wsX10)
def wsX1_oldestGoes_r1 : List Cond := [Cond.methodLink RX1 134 yX0_oldest, Cond.instanceMethod yX0_oldest, Cond.selects RX0 yX0_oldest yX0_oldest, Cond.initialized RX0, Cond.code yX0_oldest cX0_oldest 1 (some .int), Cond.fieldLink RX0 15 "ArcCache$AddressList" "count" "I", Cond.methodLink RX0 27 yX0_fromNewest, Cond.instanceMethod yX0_fromNewest, Cond.selects RX0 yX0_fromNewest yX0_fromNewest, Cond.code yX0_fromNewest cX0_fromNewest 2 (some .int), Cond.fieldLink RX0 9 "ArcCache$AddressList" "oldestFirst" "[I", Cond.methodLink RX1 137 yX1_pageGoes, Cond.instanceMethod yX1_pageGoes, Cond.selects RX1 yX1_pageGoes yX1_pageGoes, Cond.initialized RX1, Cond.code yX1_pageGoes cX1_pageGoes 2 none, Cond.fieldLink RX1 29 "ArcCache" "dirtyPages" "[Z", Cond.fieldLink RX1 64 "ArcCache" "goneCount" "I", Cond.methodLink RX1 67 yX1_isAddress, Cond.static yX1_isAddress, Cond.code yX1_isAddress cX1_isAddress 1 (some .boolean), Cond.methodLink RX1 75 yX1_writeBack, Cond.instanceMethod yX1_writeBack, Cond.selects RX1 yX1_writeBack yX1_writeBack]
def wsX1_oldestGoes_r2 : List Cond := [Cond.code yX1_writeBack cX1_writeBack 2 none, Cond.fieldLink RX1 33 "ArcCache" "storeWords" "[I", Cond.fieldLink RX1 25 "ArcCache" "pageWords" "[I", Cond.methodLink RX1 118 yX0_remove, Cond.instanceMethod yX0_remove, Cond.selects RX0 yX0_remove yX0_remove, Cond.code yX0_remove cX0_remove 3 none, Cond.methodLink RX0 38 arraycopyName, Cond.native arraycopyName, Cond.static arraycopyName, Cond.initialized "java/lang/System", Cond.methodLink RX0 19 yX0_placeOf, Cond.instanceMethod yX0_placeOf, Cond.selects RX0 yX0_placeOf yX0_placeOf, Cond.code yX0_placeOf cX0_placeOf 3 (some .int), Cond.methodLink RX1 106 yX0_addNewest, Cond.instanceMethod yX0_addNewest, Cond.selects RX0 yX0_addNewest yX0_addNewest, Cond.code yX0_addNewest cX0_addNewest 2 none]
def wsX1_oldestGoes : List Cond := .code yX1_oldestGoes cX1_oldestGoes 4 none :: ((wsX1_oldestGoes_r1 ++ wsX1_oldestGoes_r2) ++ wsX00 ++ wsX10)
def wsX1_makeRoom_r1 : List Cond := [Cond.fieldLink RX1 10 "ArcCache" "cameOnce" "LArcCache$AddressList;", Cond.fieldLink RX1 55 "ArcCache" "targetCount" "I", Cond.fieldLink RX1 22 "ArcCache" "wentAgain" "LArcCache$AddressList;", Cond.fieldLink RX1 19 "ArcCache" "wentOnce" "LArcCache$AddressList;", Cond.fieldLink RX1 16 "ArcCache" "cameAgain" "LArcCache$AddressList;", Cond.methodLink RX1 92 yX0_size, Cond.instanceMethod yX0_size, Cond.selects RX0 yX0_size yX0_size, Cond.initialized RX0, Cond.code yX0_size cX0_size 1 (some .int), Cond.fieldLink RX0 15 "ArcCache$AddressList" "count" "I", Cond.methodLink RX1 82 yX0_has, Cond.instanceMethod yX0_has, Cond.selects RX0 yX0_has yX0_has, Cond.code yX0_has cX0_has 2 (some .boolean), Cond.methodLink RX0 19 yX0_placeOf, Cond.instanceMethod yX0_placeOf, Cond.selects RX0 yX0_placeOf yX0_placeOf, Cond.code yX0_placeOf cX0_placeOf 3 (some .int), Cond.fieldLink RX0 9 "ArcCache$AddressList" "oldestFirst" "[I", Cond.methodLink RX1 130 yX1_oldestGoes, Cond.instanceMethod yX1_oldestGoes, Cond.selects RX1 yX1_oldestGoes yX1_oldestGoes, Cond.initialized RX1]
def wsX1_makeRoom_r2 : List Cond := [Cond.code yX1_oldestGoes cX1_oldestGoes 4 none, Cond.methodLink RX1 134 yX0_oldest, Cond.instanceMethod yX0_oldest, Cond.selects RX0 yX0_oldest yX0_oldest, Cond.code yX0_oldest cX0_oldest 1 (some .int), Cond.methodLink RX0 27 yX0_fromNewest, Cond.instanceMethod yX0_fromNewest, Cond.selects RX0 yX0_fromNewest yX0_fromNewest, Cond.code yX0_fromNewest cX0_fromNewest 2 (some .int), Cond.methodLink RX1 137 yX1_pageGoes, Cond.instanceMethod yX1_pageGoes, Cond.selects RX1 yX1_pageGoes yX1_pageGoes, Cond.code yX1_pageGoes cX1_pageGoes 2 none, Cond.fieldLink RX1 29 "ArcCache" "dirtyPages" "[Z", Cond.fieldLink RX1 64 "ArcCache" "goneCount" "I", Cond.methodLink RX1 67 yX1_isAddress, Cond.static yX1_isAddress, Cond.code yX1_isAddress cX1_isAddress 1 (some .boolean), Cond.methodLink RX1 75 yX1_writeBack, Cond.instanceMethod yX1_writeBack, Cond.selects RX1 yX1_writeBack yX1_writeBack, Cond.code yX1_writeBack cX1_writeBack 2 none, Cond.fieldLink RX1 33 "ArcCache" "storeWords" "[I", Cond.fieldLink RX1 25 "ArcCache" "pageWords" "[I"]
def wsX1_makeRoom_r3 : List Cond := [Cond.methodLink RX1 118 yX0_remove, Cond.instanceMethod yX0_remove, Cond.selects RX0 yX0_remove yX0_remove, Cond.code yX0_remove cX0_remove 3 none, Cond.methodLink RX0 38 arraycopyName, Cond.native arraycopyName, Cond.static arraycopyName, Cond.initialized "java/lang/System", Cond.methodLink RX1 106 yX0_addNewest, Cond.instanceMethod yX0_addNewest, Cond.selects RX0 yX0_addNewest yX0_addNewest, Cond.code yX0_addNewest cX0_addNewest 2 none]
def wsX1_makeRoom : List Cond := .code yX1_makeRoom cX1_makeRoom 4 none :: ((wsX1_makeRoom_r1 ++ (wsX1_makeRoom_r2 ++ wsX1_makeRoom_r3)) ++ wsX10 ++ wsX00)
def wsX1_makeRoomForUnknown_r1 : List Cond := [Cond.fieldLink RX1 10 "ArcCache" "cameOnce" "LArcCache$AddressList;", Cond.fieldLink RX1 19 "ArcCache" "wentOnce" "LArcCache$AddressList;", Cond.fieldLink RX1 16 "ArcCache" "cameAgain" "LArcCache$AddressList;", Cond.fieldLink RX1 22 "ArcCache" "wentAgain" "LArcCache$AddressList;", Cond.fieldLink RX1 42 "ArcCache" "pages" "I", Cond.methodLink RX1 92 yX0_size, Cond.instanceMethod yX0_size, Cond.selects RX0 yX0_size yX0_size, Cond.initialized RX0, Cond.code yX0_size cX0_size 1 (some .int), Cond.fieldLink RX0 15 "ArcCache$AddressList" "count" "I", Cond.methodLink RX1 134 yX0_oldest, Cond.instanceMethod yX0_oldest, Cond.selects RX0 yX0_oldest yX0_oldest, Cond.code yX0_oldest cX0_oldest 1 (some .int), Cond.methodLink RX0 27 yX0_fromNewest, Cond.instanceMethod yX0_fromNewest, Cond.selects RX0 yX0_fromNewest yX0_fromNewest, Cond.code yX0_fromNewest cX0_fromNewest 2 (some .int), Cond.fieldLink RX0 9 "ArcCache$AddressList" "oldestFirst" "[I", Cond.methodLink RX1 137 yX1_pageGoes, Cond.instanceMethod yX1_pageGoes, Cond.selects RX1 yX1_pageGoes yX1_pageGoes, Cond.initialized RX1]
def wsX1_makeRoomForUnknown_r2 : List Cond := [Cond.code yX1_pageGoes cX1_pageGoes 2 none, Cond.fieldLink RX1 29 "ArcCache" "dirtyPages" "[Z", Cond.fieldLink RX1 64 "ArcCache" "goneCount" "I", Cond.methodLink RX1 67 yX1_isAddress, Cond.static yX1_isAddress, Cond.code yX1_isAddress cX1_isAddress 1 (some .boolean), Cond.methodLink RX1 75 yX1_writeBack, Cond.instanceMethod yX1_writeBack, Cond.selects RX1 yX1_writeBack yX1_writeBack, Cond.code yX1_writeBack cX1_writeBack 2 none, Cond.fieldLink RX1 33 "ArcCache" "storeWords" "[I", Cond.fieldLink RX1 25 "ArcCache" "pageWords" "[I", Cond.methodLink RX1 140 yX0_dropOldest, Cond.instanceMethod yX0_dropOldest, Cond.selects RX0 yX0_dropOldest yX0_dropOldest, Cond.code yX0_dropOldest cX0_dropOldest 1 none, Cond.methodLink RX0 30 yX0_oldest, Cond.methodLink RX0 34 yX0_remove, Cond.instanceMethod yX0_remove, Cond.selects RX0 yX0_remove yX0_remove, Cond.code yX0_remove cX0_remove 3 none, Cond.methodLink RX0 38 arraycopyName, Cond.native arraycopyName, Cond.static arraycopyName]
def wsX1_makeRoomForUnknown_r3 : List Cond := [Cond.initialized "java/lang/System", Cond.methodLink RX0 19 yX0_placeOf, Cond.instanceMethod yX0_placeOf, Cond.selects RX0 yX0_placeOf yX0_placeOf, Cond.code yX0_placeOf cX0_placeOf 3 (some .int), Cond.methodLink RX1 112 yX1_makeRoom, Cond.instanceMethod yX1_makeRoom, Cond.selects RX1 yX1_makeRoom yX1_makeRoom, Cond.code yX1_makeRoom cX1_makeRoom 4 none, Cond.fieldLink RX1 55 "ArcCache" "targetCount" "I", Cond.methodLink RX1 82 yX0_has, Cond.instanceMethod yX0_has, Cond.selects RX0 yX0_has yX0_has, Cond.code yX0_has cX0_has 2 (some .boolean), Cond.methodLink RX1 130 yX1_oldestGoes, Cond.instanceMethod yX1_oldestGoes, Cond.selects RX1 yX1_oldestGoes yX1_oldestGoes, Cond.code yX1_oldestGoes cX1_oldestGoes 4 none, Cond.methodLink RX1 118 yX0_remove, Cond.methodLink RX1 106 yX0_addNewest, Cond.instanceMethod yX0_addNewest, Cond.selects RX0 yX0_addNewest yX0_addNewest, Cond.code yX0_addNewest cX0_addNewest 2 none]
def wsX1_makeRoomForUnknown : List Cond := .code yX1_makeRoomForUnknown cX1_makeRoomForUnknown 4 none :: ((wsX1_makeRoomForUnknown_r1 ++ (wsX1_makeRoomForUnknown_r2 ++ wsX1_makeRoomForUnknown_r3)) ++ wsX10 ++ wsX00)
def wsX1_stepOf : List Cond := .code yX1_stepOf cX1_stepOf 2 (some .int) :: ([.methodLink RX1 127 Lib.Math.max.name, .static Lib.Math.max.name, .initialized "java/lang/Math", .code Lib.Math.max.name Lib.Math.max.code 2 (some .int)])
def wsX1_moveTarget : List Cond := .code yX1_moveTarget cX1_moveTarget 3 none :: ([.fieldLink RX1 22 "ArcCache" "wentAgain" "LArcCache$AddressList;", .fieldLink RX1 19 "ArcCache" "wentOnce" "LArcCache$AddressList;", .fieldLink RX1 42 "ArcCache" "pages" "I", .fieldLink RX1 55 "ArcCache" "targetCount" "I", .methodLink RX1 124 Lib.Math.min.name, .static Lib.Math.min.name, .initialized "java/lang/Math", .code Lib.Math.min.name Lib.Math.min.code 2 (some .int), .methodLink RX1 127 Lib.Math.max.name, .static Lib.Math.max.name, .code Lib.Math.max.name Lib.Math.max.code 2 (some .int), .methodLink RX1 92 yX0_size, .instanceMethod yX0_size, .selects RX0 yX0_size yX0_size, .initialized RX0, .code yX0_size cX0_size 1 (some .int), .fieldLink RX0 15 "ArcCache$AddressList" "count" "I", .methodLink RX1 121 yX1_stepOf, .static yX1_stepOf, .initialized RX1, .code yX1_stepOf cX1_stepOf 2 (some .int)] ++ wsX10 ++ wsX00)
def wsX1_bringPage : List Cond := .code yX1_bringPage cX1_bringPage 2 none :: ([.fieldLink RX1 25 "ArcCache" "pageWords" "[I", .fieldLink RX1 33 "ArcCache" "storeWords" "[I", .fieldLink RX1 29 "ArcCache" "dirtyPages" "[Z"] ++ wsX10)
def wsX1_request_r1 : List Cond := [Cond.fieldLink RX1 58 "ArcCache" "hitCount" "I", Cond.fieldLink RX1 61 "ArcCache" "missCount" "I", Cond.fieldLink RX1 10 "ArcCache" "cameOnce" "LArcCache$AddressList;", Cond.methodLink RX1 96 yX1_whichList, Cond.instanceMethod yX1_whichList, Cond.selects RX1 yX1_whichList yX1_whichList, Cond.initialized RX1, Cond.code yX1_whichList cX1_whichList 3 (some .int), Cond.methodLink RX1 78 yX1_listNumbered, Cond.instanceMethod yX1_listNumbered, Cond.selects RX1 yX1_listNumbered yX1_listNumbered, Cond.code yX1_listNumbered cX1_listNumbered 2 (some (.object "ArcCache$AddressList")), Cond.fieldLink RX1 16 "ArcCache" "cameAgain" "LArcCache$AddressList;", Cond.fieldLink RX1 19 "ArcCache" "wentOnce" "LArcCache$AddressList;", Cond.fieldLink RX1 22 "ArcCache" "wentAgain" "LArcCache$AddressList;", Cond.methodLink RX1 82 yX0_has, Cond.instanceMethod yX0_has, Cond.selects RX0 yX0_has yX0_has, Cond.initialized RX0, Cond.code yX0_has cX0_has 2 (some .boolean), Cond.methodLink RX0 19 yX0_placeOf, Cond.instanceMethod yX0_placeOf, Cond.selects RX0 yX0_placeOf yX0_placeOf, Cond.code yX0_placeOf cX0_placeOf 3 (some .int)]
def wsX1_request_r2 : List Cond := [Cond.fieldLink RX0 15 "ArcCache$AddressList" "count" "I", Cond.fieldLink RX0 9 "ArcCache$AddressList" "oldestFirst" "[I", Cond.methodLink RX1 99 yX1_moveToCameAgain, Cond.instanceMethod yX1_moveToCameAgain, Cond.selects RX1 yX1_moveToCameAgain yX1_moveToCameAgain, Cond.code yX1_moveToCameAgain cX1_moveToCameAgain 3 none, Cond.methodLink RX1 118 yX0_remove, Cond.instanceMethod yX0_remove, Cond.selects RX0 yX0_remove yX0_remove, Cond.code yX0_remove cX0_remove 3 none, Cond.methodLink RX0 38 arraycopyName, Cond.native arraycopyName, Cond.static arraycopyName, Cond.initialized "java/lang/System", Cond.methodLink RX1 106 yX0_addNewest, Cond.instanceMethod yX0_addNewest, Cond.selects RX0 yX0_addNewest yX0_addNewest, Cond.code yX0_addNewest cX0_addNewest 2 none, Cond.static yX1_isAddress, Cond.code yX1_isAddress cX1_isAddress 1 (some .boolean), Cond.methodLink RX1 103 yX1_makeRoomForUnknown, Cond.instanceMethod yX1_makeRoomForUnknown, Cond.selects RX1 yX1_makeRoomForUnknown yX1_makeRoomForUnknown, Cond.code yX1_makeRoomForUnknown cX1_makeRoomForUnknown 4 none]
def wsX1_request_r3 : List Cond := [Cond.fieldLink RX1 42 "ArcCache" "pages" "I", Cond.methodLink RX1 92 yX0_size, Cond.instanceMethod yX0_size, Cond.selects RX0 yX0_size yX0_size, Cond.code yX0_size cX0_size 1 (some .int), Cond.methodLink RX1 134 yX0_oldest, Cond.instanceMethod yX0_oldest, Cond.selects RX0 yX0_oldest yX0_oldest, Cond.code yX0_oldest cX0_oldest 1 (some .int), Cond.methodLink RX0 27 yX0_fromNewest, Cond.instanceMethod yX0_fromNewest, Cond.selects RX0 yX0_fromNewest yX0_fromNewest, Cond.code yX0_fromNewest cX0_fromNewest 2 (some .int), Cond.methodLink RX1 137 yX1_pageGoes, Cond.instanceMethod yX1_pageGoes, Cond.selects RX1 yX1_pageGoes yX1_pageGoes, Cond.code yX1_pageGoes cX1_pageGoes 2 none, Cond.fieldLink RX1 29 "ArcCache" "dirtyPages" "[Z", Cond.fieldLink RX1 64 "ArcCache" "goneCount" "I", Cond.methodLink RX1 67 yX1_isAddress, Cond.methodLink RX1 75 yX1_writeBack, Cond.instanceMethod yX1_writeBack, Cond.selects RX1 yX1_writeBack yX1_writeBack, Cond.code yX1_writeBack cX1_writeBack 2 none]
def wsX1_request_r4 : List Cond := [Cond.fieldLink RX1 33 "ArcCache" "storeWords" "[I", Cond.fieldLink RX1 25 "ArcCache" "pageWords" "[I", Cond.methodLink RX1 140 yX0_dropOldest, Cond.instanceMethod yX0_dropOldest, Cond.selects RX0 yX0_dropOldest yX0_dropOldest, Cond.code yX0_dropOldest cX0_dropOldest 1 none, Cond.methodLink RX0 30 yX0_oldest, Cond.methodLink RX0 34 yX0_remove, Cond.methodLink RX1 112 yX1_makeRoom, Cond.instanceMethod yX1_makeRoom, Cond.selects RX1 yX1_makeRoom yX1_makeRoom, Cond.code yX1_makeRoom cX1_makeRoom 4 none, Cond.fieldLink RX1 55 "ArcCache" "targetCount" "I", Cond.methodLink RX1 130 yX1_oldestGoes, Cond.instanceMethod yX1_oldestGoes, Cond.selects RX1 yX1_oldestGoes yX1_oldestGoes, Cond.code yX1_oldestGoes cX1_oldestGoes 4 none, Cond.methodLink RX1 109 yX1_moveTarget, Cond.instanceMethod yX1_moveTarget, Cond.selects RX1 yX1_moveTarget yX1_moveTarget, Cond.code yX1_moveTarget cX1_moveTarget 3 none, Cond.methodLink RX1 124 Lib.Math.min.name, Cond.static Lib.Math.min.name, Cond.initialized "java/lang/Math"]
def wsX1_request_r5 : List Cond := [Cond.code Lib.Math.min.name Lib.Math.min.code 2 (some .int), Cond.methodLink RX1 127 Lib.Math.max.name, Cond.static Lib.Math.max.name, Cond.code Lib.Math.max.name Lib.Math.max.code 2 (some .int), Cond.methodLink RX1 121 yX1_stepOf, Cond.static yX1_stepOf, Cond.code yX1_stepOf cX1_stepOf 2 (some .int), Cond.methodLink RX1 115 yX1_bringPage, Cond.instanceMethod yX1_bringPage, Cond.selects RX1 yX1_bringPage yX1_bringPage, Cond.code yX1_bringPage cX1_bringPage 2 none]
def wsX1_request : List Cond := .code yX1_request cX1_request 3 none :: ((wsX1_request_r1 ++ (wsX1_request_r2 ++ (wsX1_request_r3 ++ (wsX1_request_r4 ++ wsX1_request_r5)))) ++ wsX10 ++ wsX00)
def wsX1_read_r1 : List Cond := [Cond.fieldLink RX1 25 "ArcCache" "pageWords" "[I", Cond.methodLink RX1 67 yX1_isAddress, Cond.static yX1_isAddress, Cond.initialized RX1, Cond.code yX1_isAddress cX1_isAddress 1 (some .boolean), Cond.methodLink RX1 71 yX1_request, Cond.instanceMethod yX1_request, Cond.selects RX1 yX1_request yX1_request, Cond.code yX1_request cX1_request 3 none, Cond.fieldLink RX1 58 "ArcCache" "hitCount" "I", Cond.fieldLink RX1 61 "ArcCache" "missCount" "I", Cond.fieldLink RX1 10 "ArcCache" "cameOnce" "LArcCache$AddressList;", Cond.methodLink RX1 96 yX1_whichList, Cond.instanceMethod yX1_whichList, Cond.selects RX1 yX1_whichList yX1_whichList, Cond.code yX1_whichList cX1_whichList 3 (some .int), Cond.methodLink RX1 78 yX1_listNumbered, Cond.instanceMethod yX1_listNumbered, Cond.selects RX1 yX1_listNumbered yX1_listNumbered, Cond.code yX1_listNumbered cX1_listNumbered 2 (some (.object "ArcCache$AddressList")), Cond.fieldLink RX1 16 "ArcCache" "cameAgain" "LArcCache$AddressList;", Cond.fieldLink RX1 19 "ArcCache" "wentOnce" "LArcCache$AddressList;", Cond.fieldLink RX1 22 "ArcCache" "wentAgain" "LArcCache$AddressList;", Cond.methodLink RX1 82 yX0_has]
def wsX1_read_r2 : List Cond := [Cond.instanceMethod yX0_has, Cond.selects RX0 yX0_has yX0_has, Cond.initialized RX0, Cond.code yX0_has cX0_has 2 (some .boolean), Cond.methodLink RX0 19 yX0_placeOf, Cond.instanceMethod yX0_placeOf, Cond.selects RX0 yX0_placeOf yX0_placeOf, Cond.code yX0_placeOf cX0_placeOf 3 (some .int), Cond.fieldLink RX0 15 "ArcCache$AddressList" "count" "I", Cond.fieldLink RX0 9 "ArcCache$AddressList" "oldestFirst" "[I", Cond.methodLink RX1 99 yX1_moveToCameAgain, Cond.instanceMethod yX1_moveToCameAgain, Cond.selects RX1 yX1_moveToCameAgain yX1_moveToCameAgain, Cond.code yX1_moveToCameAgain cX1_moveToCameAgain 3 none, Cond.methodLink RX1 118 yX0_remove, Cond.instanceMethod yX0_remove, Cond.selects RX0 yX0_remove yX0_remove, Cond.code yX0_remove cX0_remove 3 none, Cond.methodLink RX0 38 arraycopyName, Cond.native arraycopyName, Cond.static arraycopyName, Cond.initialized "java/lang/System", Cond.methodLink RX1 106 yX0_addNewest, Cond.instanceMethod yX0_addNewest]
def wsX1_read_r3 : List Cond := [Cond.selects RX0 yX0_addNewest yX0_addNewest, Cond.code yX0_addNewest cX0_addNewest 2 none, Cond.methodLink RX1 103 yX1_makeRoomForUnknown, Cond.instanceMethod yX1_makeRoomForUnknown, Cond.selects RX1 yX1_makeRoomForUnknown yX1_makeRoomForUnknown, Cond.code yX1_makeRoomForUnknown cX1_makeRoomForUnknown 4 none, Cond.fieldLink RX1 42 "ArcCache" "pages" "I", Cond.methodLink RX1 92 yX0_size, Cond.instanceMethod yX0_size, Cond.selects RX0 yX0_size yX0_size, Cond.code yX0_size cX0_size 1 (some .int), Cond.methodLink RX1 134 yX0_oldest, Cond.instanceMethod yX0_oldest, Cond.selects RX0 yX0_oldest yX0_oldest, Cond.code yX0_oldest cX0_oldest 1 (some .int), Cond.methodLink RX0 27 yX0_fromNewest, Cond.instanceMethod yX0_fromNewest, Cond.selects RX0 yX0_fromNewest yX0_fromNewest, Cond.code yX0_fromNewest cX0_fromNewest 2 (some .int), Cond.methodLink RX1 137 yX1_pageGoes, Cond.instanceMethod yX1_pageGoes, Cond.selects RX1 yX1_pageGoes yX1_pageGoes, Cond.code yX1_pageGoes cX1_pageGoes 2 none, Cond.fieldLink RX1 29 "ArcCache" "dirtyPages" "[Z"]
def wsX1_read_r4 : List Cond := [Cond.fieldLink RX1 64 "ArcCache" "goneCount" "I", Cond.methodLink RX1 75 yX1_writeBack, Cond.instanceMethod yX1_writeBack, Cond.selects RX1 yX1_writeBack yX1_writeBack, Cond.code yX1_writeBack cX1_writeBack 2 none, Cond.fieldLink RX1 33 "ArcCache" "storeWords" "[I", Cond.methodLink RX1 140 yX0_dropOldest, Cond.instanceMethod yX0_dropOldest, Cond.selects RX0 yX0_dropOldest yX0_dropOldest, Cond.code yX0_dropOldest cX0_dropOldest 1 none, Cond.methodLink RX0 30 yX0_oldest, Cond.methodLink RX0 34 yX0_remove, Cond.methodLink RX1 112 yX1_makeRoom, Cond.instanceMethod yX1_makeRoom, Cond.selects RX1 yX1_makeRoom yX1_makeRoom, Cond.code yX1_makeRoom cX1_makeRoom 4 none, Cond.fieldLink RX1 55 "ArcCache" "targetCount" "I", Cond.methodLink RX1 130 yX1_oldestGoes, Cond.instanceMethod yX1_oldestGoes, Cond.selects RX1 yX1_oldestGoes yX1_oldestGoes, Cond.code yX1_oldestGoes cX1_oldestGoes 4 none, Cond.methodLink RX1 109 yX1_moveTarget, Cond.instanceMethod yX1_moveTarget, Cond.selects RX1 yX1_moveTarget yX1_moveTarget]
def wsX1_read_r5 : List Cond := [Cond.code yX1_moveTarget cX1_moveTarget 3 none, Cond.methodLink RX1 124 Lib.Math.min.name, Cond.static Lib.Math.min.name, Cond.initialized "java/lang/Math", Cond.code Lib.Math.min.name Lib.Math.min.code 2 (some .int), Cond.methodLink RX1 127 Lib.Math.max.name, Cond.static Lib.Math.max.name, Cond.code Lib.Math.max.name Lib.Math.max.code 2 (some .int), Cond.methodLink RX1 121 yX1_stepOf, Cond.static yX1_stepOf, Cond.code yX1_stepOf cX1_stepOf 2 (some .int), Cond.methodLink RX1 115 yX1_bringPage, Cond.instanceMethod yX1_bringPage, Cond.selects RX1 yX1_bringPage yX1_bringPage, Cond.code yX1_bringPage cX1_bringPage 2 none]
def wsX1_read : List Cond := .code yX1_read cX1_read 2 (some .int) :: ((wsX1_read_r1 ++ (wsX1_read_r2 ++ (wsX1_read_r3 ++ (wsX1_read_r4 ++ wsX1_read_r5)))) ++ wsX10 ++ wsX00)
def wsX1_write_r1 : List Cond := [Cond.fieldLink RX1 25 "ArcCache" "pageWords" "[I", Cond.fieldLink RX1 29 "ArcCache" "dirtyPages" "[Z", Cond.methodLink RX1 67 yX1_isAddress, Cond.static yX1_isAddress, Cond.initialized RX1, Cond.code yX1_isAddress cX1_isAddress 1 (some .boolean), Cond.methodLink RX1 71 yX1_request, Cond.instanceMethod yX1_request, Cond.selects RX1 yX1_request yX1_request, Cond.code yX1_request cX1_request 3 none, Cond.fieldLink RX1 58 "ArcCache" "hitCount" "I", Cond.fieldLink RX1 61 "ArcCache" "missCount" "I", Cond.fieldLink RX1 10 "ArcCache" "cameOnce" "LArcCache$AddressList;", Cond.methodLink RX1 96 yX1_whichList, Cond.instanceMethod yX1_whichList, Cond.selects RX1 yX1_whichList yX1_whichList, Cond.code yX1_whichList cX1_whichList 3 (some .int), Cond.methodLink RX1 78 yX1_listNumbered, Cond.instanceMethod yX1_listNumbered, Cond.selects RX1 yX1_listNumbered yX1_listNumbered, Cond.code yX1_listNumbered cX1_listNumbered 2 (some (.object "ArcCache$AddressList")), Cond.fieldLink RX1 16 "ArcCache" "cameAgain" "LArcCache$AddressList;", Cond.fieldLink RX1 19 "ArcCache" "wentOnce" "LArcCache$AddressList;", Cond.fieldLink RX1 22 "ArcCache" "wentAgain" "LArcCache$AddressList;"]
def wsX1_write_r2 : List Cond := [Cond.methodLink RX1 82 yX0_has, Cond.instanceMethod yX0_has, Cond.selects RX0 yX0_has yX0_has, Cond.initialized RX0, Cond.code yX0_has cX0_has 2 (some .boolean), Cond.methodLink RX0 19 yX0_placeOf, Cond.instanceMethod yX0_placeOf, Cond.selects RX0 yX0_placeOf yX0_placeOf, Cond.code yX0_placeOf cX0_placeOf 3 (some .int), Cond.fieldLink RX0 15 "ArcCache$AddressList" "count" "I", Cond.fieldLink RX0 9 "ArcCache$AddressList" "oldestFirst" "[I", Cond.methodLink RX1 99 yX1_moveToCameAgain, Cond.instanceMethod yX1_moveToCameAgain, Cond.selects RX1 yX1_moveToCameAgain yX1_moveToCameAgain, Cond.code yX1_moveToCameAgain cX1_moveToCameAgain 3 none, Cond.methodLink RX1 118 yX0_remove, Cond.instanceMethod yX0_remove, Cond.selects RX0 yX0_remove yX0_remove, Cond.code yX0_remove cX0_remove 3 none, Cond.methodLink RX0 38 arraycopyName, Cond.native arraycopyName, Cond.static arraycopyName, Cond.initialized "java/lang/System", Cond.methodLink RX1 106 yX0_addNewest]
def wsX1_write_r3 : List Cond := [Cond.instanceMethod yX0_addNewest, Cond.selects RX0 yX0_addNewest yX0_addNewest, Cond.code yX0_addNewest cX0_addNewest 2 none, Cond.methodLink RX1 103 yX1_makeRoomForUnknown, Cond.instanceMethod yX1_makeRoomForUnknown, Cond.selects RX1 yX1_makeRoomForUnknown yX1_makeRoomForUnknown, Cond.code yX1_makeRoomForUnknown cX1_makeRoomForUnknown 4 none, Cond.fieldLink RX1 42 "ArcCache" "pages" "I", Cond.methodLink RX1 92 yX0_size, Cond.instanceMethod yX0_size, Cond.selects RX0 yX0_size yX0_size, Cond.code yX0_size cX0_size 1 (some .int), Cond.methodLink RX1 134 yX0_oldest, Cond.instanceMethod yX0_oldest, Cond.selects RX0 yX0_oldest yX0_oldest, Cond.code yX0_oldest cX0_oldest 1 (some .int), Cond.methodLink RX0 27 yX0_fromNewest, Cond.instanceMethod yX0_fromNewest, Cond.selects RX0 yX0_fromNewest yX0_fromNewest, Cond.code yX0_fromNewest cX0_fromNewest 2 (some .int), Cond.methodLink RX1 137 yX1_pageGoes, Cond.instanceMethod yX1_pageGoes, Cond.selects RX1 yX1_pageGoes yX1_pageGoes, Cond.code yX1_pageGoes cX1_pageGoes 2 none]
def wsX1_write_r4 : List Cond := [Cond.fieldLink RX1 64 "ArcCache" "goneCount" "I", Cond.methodLink RX1 75 yX1_writeBack, Cond.instanceMethod yX1_writeBack, Cond.selects RX1 yX1_writeBack yX1_writeBack, Cond.code yX1_writeBack cX1_writeBack 2 none, Cond.fieldLink RX1 33 "ArcCache" "storeWords" "[I", Cond.methodLink RX1 140 yX0_dropOldest, Cond.instanceMethod yX0_dropOldest, Cond.selects RX0 yX0_dropOldest yX0_dropOldest, Cond.code yX0_dropOldest cX0_dropOldest 1 none, Cond.methodLink RX0 30 yX0_oldest, Cond.methodLink RX0 34 yX0_remove, Cond.methodLink RX1 112 yX1_makeRoom, Cond.instanceMethod yX1_makeRoom, Cond.selects RX1 yX1_makeRoom yX1_makeRoom, Cond.code yX1_makeRoom cX1_makeRoom 4 none, Cond.fieldLink RX1 55 "ArcCache" "targetCount" "I", Cond.methodLink RX1 130 yX1_oldestGoes, Cond.instanceMethod yX1_oldestGoes, Cond.selects RX1 yX1_oldestGoes yX1_oldestGoes, Cond.code yX1_oldestGoes cX1_oldestGoes 4 none, Cond.methodLink RX1 109 yX1_moveTarget, Cond.instanceMethod yX1_moveTarget, Cond.selects RX1 yX1_moveTarget yX1_moveTarget]
def wsX1_write_r5 : List Cond := [Cond.code yX1_moveTarget cX1_moveTarget 3 none, Cond.methodLink RX1 124 Lib.Math.min.name, Cond.static Lib.Math.min.name, Cond.initialized "java/lang/Math", Cond.code Lib.Math.min.name Lib.Math.min.code 2 (some .int), Cond.methodLink RX1 127 Lib.Math.max.name, Cond.static Lib.Math.max.name, Cond.code Lib.Math.max.name Lib.Math.max.code 2 (some .int), Cond.methodLink RX1 121 yX1_stepOf, Cond.static yX1_stepOf, Cond.code yX1_stepOf cX1_stepOf 2 (some .int), Cond.methodLink RX1 115 yX1_bringPage, Cond.instanceMethod yX1_bringPage, Cond.selects RX1 yX1_bringPage yX1_bringPage, Cond.code yX1_bringPage cX1_bringPage 2 none]
def wsX1_write : List Cond := .code yX1_write cX1_write 3 (some .boolean) :: ((wsX1_write_r1 ++ (wsX1_write_r2 ++ (wsX1_write_r3 ++ (wsX1_write_r4 ++ wsX1_write_r5)))) ++ wsX10 ++ wsX00)
def wsX1_flush : List Cond := .code yX1_flush cX1_flush 3 (some .int) :: ([.fieldLink RX1 29 "ArcCache" "dirtyPages" "[Z", .methodLink RX1 75 yX1_writeBack, .instanceMethod yX1_writeBack, .selects RX1 yX1_writeBack yX1_writeBack, .initialized RX1, .code yX1_writeBack cX1_writeBack 2 none, .fieldLink RX1 33 "ArcCache" "storeWords" "[I", .fieldLink RX1 25 "ArcCache" "pageWords" "[I"] ++ wsX10)
def wsX1_isList : List Cond := .code yX1_isList cX1_isList 1 (some .boolean) :: ([])
def wsX1_at : List Cond := .code yX1_at cX1_at 3 (some .int) :: ([.methodLink RX1 85 yX1_isList, .static yX1_isList, .initialized RX1, .code yX1_isList cX1_isList 1 (some .boolean), .methodLink RX1 78 yX1_listNumbered, .instanceMethod yX1_listNumbered, .selects RX1 yX1_listNumbered yX1_listNumbered, .code yX1_listNumbered cX1_listNumbered 2 (some (.object "ArcCache$AddressList")), .fieldLink RX1 10 "ArcCache" "cameOnce" "LArcCache$AddressList;", .fieldLink RX1 16 "ArcCache" "cameAgain" "LArcCache$AddressList;", .fieldLink RX1 19 "ArcCache" "wentOnce" "LArcCache$AddressList;", .fieldLink RX1 22 "ArcCache" "wentAgain" "LArcCache$AddressList;", .methodLink RX1 88 yX0_fromNewest, .instanceMethod yX0_fromNewest, .selects RX0 yX0_fromNewest yX0_fromNewest, .initialized RX0, .code yX0_fromNewest cX0_fromNewest 2 (some .int), .fieldLink RX0 15 "ArcCache$AddressList" "count" "I", .fieldLink RX0 9 "ArcCache$AddressList" "oldestFirst" "[I"] ++ wsX10 ++ wsX00)
def wsX1_length : List Cond := .code yX1_length cX1_length 2 (some .int) :: ([.methodLink RX1 85 yX1_isList, .static yX1_isList, .initialized RX1, .code yX1_isList cX1_isList 1 (some .boolean), .methodLink RX1 78 yX1_listNumbered, .instanceMethod yX1_listNumbered, .selects RX1 yX1_listNumbered yX1_listNumbered, .code yX1_listNumbered cX1_listNumbered 2 (some (.object "ArcCache$AddressList")), .fieldLink RX1 10 "ArcCache" "cameOnce" "LArcCache$AddressList;", .fieldLink RX1 16 "ArcCache" "cameAgain" "LArcCache$AddressList;", .fieldLink RX1 19 "ArcCache" "wentOnce" "LArcCache$AddressList;", .fieldLink RX1 22 "ArcCache" "wentAgain" "LArcCache$AddressList;", .methodLink RX1 92 yX0_size, .instanceMethod yX0_size, .selects RX0 yX0_size yX0_size, .initialized RX0, .code yX0_size cX0_size 1 (some .int), .fieldLink RX0 15 "ArcCache$AddressList" "count" "I"] ++ wsX10 ++ wsX00)
def wsX1_target : List Cond := .code yX1_target cX1_target 1 (some .int) :: ([.fieldLink RX1 55 "ArcCache" "targetCount" "I"] ++ wsX10)
def wsX1_hits : List Cond := .code yX1_hits cX1_hits 1 (some .int) :: ([.fieldLink RX1 58 "ArcCache" "hitCount" "I"] ++ wsX10)
def wsX1_misses : List Cond := .code yX1_misses cX1_misses 1 (some .int) :: ([.fieldLink RX1 61 "ArcCache" "missCount" "I"] ++ wsX10)
def wsX1_store : List Cond := .code yX1_store cX1_store 2 (some .int) :: ([.fieldLink RX1 33 "ArcCache" "storeWords" "[I", .methodLink RX1 67 yX1_isAddress, .static yX1_isAddress, .initialized RX1, .code yX1_isAddress cX1_isAddress 1 (some .boolean)] ++ wsX10)
def wsX1_isDirty : List Cond := .code yX1_isDirty cX1_isDirty 2 (some .boolean) :: ([.fieldLink RX1 29 "ArcCache" "dirtyPages" "[Z", .methodLink RX1 67 yX1_isAddress, .static yX1_isAddress, .initialized RX1, .code yX1_isAddress cX1_isAddress 1 (some .boolean)] ++ wsX10)
def wsX1_gone : List Cond := .code yX1_gone cX1_gone 1 (some .int) :: ([.fieldLink RX1 64 "ArcCache" "goneCount" "I"] ++ wsX10)
def wsX2_init : List Cond := .code yX2_init cX2_init 3 none :: ([.methodLink RX2 1 objectInit, .instanceMethod objectInit, .code objectInit ⟨#[0xb1]⟩ 1 none, .arrayClass .int, .fieldLink RX2 7 "ArcCacheModel" "lists" "[I", .fieldLink RX2 13 "ArcCacheModel" "many" "[I", .fieldLink RX2 16 "ArcCacheModel" "store" "[I", .fieldLink RX2 19 "ArcCacheModel" "words" "[I", .arrayClass .boolean, .fieldLink RX2 22 "ArcCacheModel" "dirty" "[Z", .fieldLink RX2 26 "ArcCacheModel" "pages" "I"] ++ wsX20)
def wsX2_init_ : List Cond := .code yX2_init_ cX2_init_ 2 none :: ([.fieldLink RX2 13 "ArcCacheModel" "many" "[I", .fieldLink RX2 16 "ArcCacheModel" "store" "[I", .fieldLink RX2 19 "ArcCacheModel" "words" "[I", .fieldLink RX2 22 "ArcCacheModel" "dirty" "[Z", .fieldLink RX2 30 "ArcCacheModel" "target" "I", .fieldLink RX2 33 "ArcCacheModel" "hits" "I", .fieldLink RX2 36 "ArcCacheModel" "misses" "I", .fieldLink RX2 39 "ArcCacheModel" "gone" "I"] ++ wsX20)
def wsX2_isAddress : List Cond := .code yX2_isAddress cX2_isAddress 1 (some .boolean) :: ([])
def wsX2_whichList : List Cond := .code yX2_whichList cX2_whichList 5 (some .int) :: ([.fieldLink RX2 13 "ArcCacheModel" "many" "[I", .fieldLink RX2 7 "ArcCacheModel" "lists" "[I"] ++ wsX20)
def wsX2_leave : List Cond := .code yX2_leave cX2_leave 4 none :: ([.fieldLink RX2 7 "ArcCacheModel" "lists" "[I", .fieldLink RX2 13 "ArcCacheModel" "many" "[I", .methodLink RX2 42 yX2_whichList, .instanceMethod yX2_whichList, .selects RX2 yX2_whichList yX2_whichList, .initialized RX2, .code yX2_whichList cX2_whichList 5 (some .int)] ++ wsX20)
def wsX2_come : List Cond := .code yX2_come cX2_come 4 none :: ([.fieldLink RX2 13 "ArcCacheModel" "many" "[I", .fieldLink RX2 7 "ArcCacheModel" "lists" "[I", .methodLink RX2 46 yX2_leave, .instanceMethod yX2_leave, .selects RX2 yX2_leave yX2_leave, .initialized RX2, .code yX2_leave cX2_leave 4 none, .methodLink RX2 42 yX2_whichList, .instanceMethod yX2_whichList, .selects RX2 yX2_whichList yX2_whichList, .code yX2_whichList cX2_whichList 5 (some .int)] ++ wsX20)
def wsX2_old : List Cond := .code yX2_old cX2_old 2 (some .int) :: ([.fieldLink RX2 7 "ArcCacheModel" "lists" "[I", .fieldLink RX2 13 "ArcCacheModel" "many" "[I"] ++ wsX20)
def wsX2_clean : List Cond := .code yX2_clean cX2_clean 2 none :: ([.fieldLink RX2 16 "ArcCacheModel" "store" "[I", .fieldLink RX2 22 "ArcCacheModel" "dirty" "[Z", .fieldLink RX2 19 "ArcCacheModel" "words" "[I"] ++ wsX20)
def wsX2_go : List Cond := .code yX2_go cX2_go 2 none :: ([.fieldLink RX2 39 "ArcCacheModel" "gone" "I", .methodLink RX2 50 yX2_clean, .instanceMethod yX2_clean, .selects RX2 yX2_clean yX2_clean, .initialized RX2, .code yX2_clean cX2_clean 2 none, .fieldLink RX2 16 "ArcCacheModel" "store" "[I", .fieldLink RX2 22 "ArcCacheModel" "dirty" "[Z", .fieldLink RX2 19 "ArcCacheModel" "words" "[I"] ++ wsX20)
def wsX2_makeRoom_r1 : List Cond := [Cond.fieldLink RX2 13 "ArcCacheModel" "many" "[I", Cond.fieldLink RX2 30 "ArcCacheModel" "target" "I", Cond.methodLink RX2 42 yX2_whichList, Cond.instanceMethod yX2_whichList, Cond.selects RX2 yX2_whichList yX2_whichList, Cond.initialized RX2, Cond.code yX2_whichList cX2_whichList 5 (some .int), Cond.fieldLink RX2 7 "ArcCacheModel" "lists" "[I", Cond.methodLink RX2 53 yX2_old, Cond.instanceMethod yX2_old, Cond.selects RX2 yX2_old yX2_old, Cond.code yX2_old cX2_old 2 (some .int), Cond.methodLink RX2 56 yX2_go, Cond.instanceMethod yX2_go, Cond.selects RX2 yX2_go yX2_go, Cond.code yX2_go cX2_go 2 none, Cond.fieldLink RX2 39 "ArcCacheModel" "gone" "I", Cond.methodLink RX2 50 yX2_clean, Cond.instanceMethod yX2_clean, Cond.selects RX2 yX2_clean yX2_clean, Cond.code yX2_clean cX2_clean 2 none, Cond.fieldLink RX2 16 "ArcCacheModel" "store" "[I", Cond.fieldLink RX2 22 "ArcCacheModel" "dirty" "[Z", Cond.fieldLink RX2 19 "ArcCacheModel" "words" "[I"]
def wsX2_makeRoom_r2 : List Cond := [Cond.methodLink RX2 59 yX2_come, Cond.instanceMethod yX2_come, Cond.selects RX2 yX2_come yX2_come, Cond.code yX2_come cX2_come 4 none, Cond.methodLink RX2 46 yX2_leave, Cond.instanceMethod yX2_leave, Cond.selects RX2 yX2_leave yX2_leave, Cond.code yX2_leave cX2_leave 4 none]
def wsX2_makeRoom : List Cond := .code yX2_makeRoom cX2_makeRoom 5 none :: ((wsX2_makeRoom_r1 ++ wsX2_makeRoom_r2) ++ wsX20)
def wsX2_comeNew_r1 : List Cond := [Cond.fieldLink RX2 13 "ArcCacheModel" "many" "[I", Cond.fieldLink RX2 26 "ArcCacheModel" "pages" "I", Cond.methodLink RX2 53 yX2_old, Cond.instanceMethod yX2_old, Cond.selects RX2 yX2_old yX2_old, Cond.initialized RX2, Cond.code yX2_old cX2_old 2 (some .int), Cond.fieldLink RX2 7 "ArcCacheModel" "lists" "[I", Cond.methodLink RX2 46 yX2_leave, Cond.instanceMethod yX2_leave, Cond.selects RX2 yX2_leave yX2_leave, Cond.code yX2_leave cX2_leave 4 none, Cond.methodLink RX2 42 yX2_whichList, Cond.instanceMethod yX2_whichList, Cond.selects RX2 yX2_whichList yX2_whichList, Cond.code yX2_whichList cX2_whichList 5 (some .int), Cond.methodLink RX2 63 yX2_makeRoom, Cond.instanceMethod yX2_makeRoom, Cond.selects RX2 yX2_makeRoom yX2_makeRoom, Cond.code yX2_makeRoom cX2_makeRoom 5 none, Cond.fieldLink RX2 30 "ArcCacheModel" "target" "I", Cond.methodLink RX2 56 yX2_go, Cond.instanceMethod yX2_go, Cond.selects RX2 yX2_go yX2_go]
def wsX2_comeNew_r2 : List Cond := [Cond.code yX2_go cX2_go 2 none, Cond.fieldLink RX2 39 "ArcCacheModel" "gone" "I", Cond.methodLink RX2 50 yX2_clean, Cond.instanceMethod yX2_clean, Cond.selects RX2 yX2_clean yX2_clean, Cond.code yX2_clean cX2_clean 2 none, Cond.fieldLink RX2 16 "ArcCacheModel" "store" "[I", Cond.fieldLink RX2 22 "ArcCacheModel" "dirty" "[Z", Cond.fieldLink RX2 19 "ArcCacheModel" "words" "[I", Cond.methodLink RX2 59 yX2_come, Cond.instanceMethod yX2_come, Cond.selects RX2 yX2_come yX2_come, Cond.code yX2_come cX2_come 4 none]
def wsX2_comeNew : List Cond := .code yX2_comeNew cX2_comeNew 3 none :: ((wsX2_comeNew_r1 ++ wsX2_comeNew_r2) ++ wsX20)
def wsX2_request_r1 : List Cond := [Cond.fieldLink RX2 33 "ArcCacheModel" "hits" "I", Cond.fieldLink RX2 36 "ArcCacheModel" "misses" "I", Cond.fieldLink RX2 13 "ArcCacheModel" "many" "[I", Cond.fieldLink RX2 30 "ArcCacheModel" "target" "I", Cond.fieldLink RX2 26 "ArcCacheModel" "pages" "I", Cond.fieldLink RX2 19 "ArcCacheModel" "words" "[I", Cond.fieldLink RX2 16 "ArcCacheModel" "store" "[I", Cond.fieldLink RX2 22 "ArcCacheModel" "dirty" "[Z", Cond.methodLink RX2 42 yX2_whichList, Cond.instanceMethod yX2_whichList, Cond.selects RX2 yX2_whichList yX2_whichList, Cond.initialized RX2, Cond.code yX2_whichList cX2_whichList 5 (some .int), Cond.fieldLink RX2 7 "ArcCacheModel" "lists" "[I", Cond.methodLink RX2 59 yX2_come, Cond.instanceMethod yX2_come, Cond.selects RX2 yX2_come yX2_come, Cond.code yX2_come cX2_come 4 none, Cond.methodLink RX2 46 yX2_leave, Cond.instanceMethod yX2_leave, Cond.selects RX2 yX2_leave yX2_leave, Cond.code yX2_leave cX2_leave 4 none, Cond.methodLink RX2 66 yX2_comeNew, Cond.instanceMethod yX2_comeNew]
def wsX2_request_r2 : List Cond := [Cond.selects RX2 yX2_comeNew yX2_comeNew, Cond.code yX2_comeNew cX2_comeNew 3 none, Cond.methodLink RX2 53 yX2_old, Cond.instanceMethod yX2_old, Cond.selects RX2 yX2_old yX2_old, Cond.code yX2_old cX2_old 2 (some .int), Cond.methodLink RX2 63 yX2_makeRoom, Cond.instanceMethod yX2_makeRoom, Cond.selects RX2 yX2_makeRoom yX2_makeRoom, Cond.code yX2_makeRoom cX2_makeRoom 5 none, Cond.methodLink RX2 56 yX2_go, Cond.instanceMethod yX2_go, Cond.selects RX2 yX2_go yX2_go, Cond.code yX2_go cX2_go 2 none, Cond.fieldLink RX2 39 "ArcCacheModel" "gone" "I", Cond.methodLink RX2 50 yX2_clean, Cond.instanceMethod yX2_clean, Cond.selects RX2 yX2_clean yX2_clean, Cond.code yX2_clean cX2_clean 2 none]
def wsX2_request : List Cond := .code yX2_request cX2_request 4 none :: ((wsX2_request_r1 ++ wsX2_request_r2) ++ wsX20)
def wsX2_read_r1 : List Cond := [Cond.fieldLink RX2 19 "ArcCacheModel" "words" "[I", Cond.methodLink RX2 69 yX2_isAddress, Cond.static yX2_isAddress, Cond.initialized RX2, Cond.code yX2_isAddress cX2_isAddress 1 (some .boolean), Cond.methodLink RX2 73 yX2_request, Cond.instanceMethod yX2_request, Cond.selects RX2 yX2_request yX2_request, Cond.code yX2_request cX2_request 4 none, Cond.fieldLink RX2 33 "ArcCacheModel" "hits" "I", Cond.fieldLink RX2 36 "ArcCacheModel" "misses" "I", Cond.fieldLink RX2 13 "ArcCacheModel" "many" "[I", Cond.fieldLink RX2 30 "ArcCacheModel" "target" "I", Cond.fieldLink RX2 26 "ArcCacheModel" "pages" "I", Cond.fieldLink RX2 16 "ArcCacheModel" "store" "[I", Cond.fieldLink RX2 22 "ArcCacheModel" "dirty" "[Z", Cond.methodLink RX2 42 yX2_whichList, Cond.instanceMethod yX2_whichList, Cond.selects RX2 yX2_whichList yX2_whichList, Cond.code yX2_whichList cX2_whichList 5 (some .int), Cond.fieldLink RX2 7 "ArcCacheModel" "lists" "[I", Cond.methodLink RX2 59 yX2_come, Cond.instanceMethod yX2_come, Cond.selects RX2 yX2_come yX2_come]
def wsX2_read_r2 : List Cond := [Cond.code yX2_come cX2_come 4 none, Cond.methodLink RX2 46 yX2_leave, Cond.instanceMethod yX2_leave, Cond.selects RX2 yX2_leave yX2_leave, Cond.code yX2_leave cX2_leave 4 none, Cond.methodLink RX2 66 yX2_comeNew, Cond.instanceMethod yX2_comeNew, Cond.selects RX2 yX2_comeNew yX2_comeNew, Cond.code yX2_comeNew cX2_comeNew 3 none, Cond.methodLink RX2 53 yX2_old, Cond.instanceMethod yX2_old, Cond.selects RX2 yX2_old yX2_old, Cond.code yX2_old cX2_old 2 (some .int), Cond.methodLink RX2 63 yX2_makeRoom, Cond.instanceMethod yX2_makeRoom, Cond.selects RX2 yX2_makeRoom yX2_makeRoom, Cond.code yX2_makeRoom cX2_makeRoom 5 none, Cond.methodLink RX2 56 yX2_go, Cond.instanceMethod yX2_go, Cond.selects RX2 yX2_go yX2_go, Cond.code yX2_go cX2_go 2 none, Cond.fieldLink RX2 39 "ArcCacheModel" "gone" "I", Cond.methodLink RX2 50 yX2_clean, Cond.instanceMethod yX2_clean]
def wsX2_read_r3 : List Cond := [Cond.selects RX2 yX2_clean yX2_clean, Cond.code yX2_clean cX2_clean 2 none]
def wsX2_read : List Cond := .code yX2_read cX2_read 2 (some .int) :: ((wsX2_read_r1 ++ (wsX2_read_r2 ++ wsX2_read_r3)) ++ wsX20)
def wsX2_write_r1 : List Cond := [Cond.fieldLink RX2 19 "ArcCacheModel" "words" "[I", Cond.fieldLink RX2 22 "ArcCacheModel" "dirty" "[Z", Cond.methodLink RX2 69 yX2_isAddress, Cond.static yX2_isAddress, Cond.initialized RX2, Cond.code yX2_isAddress cX2_isAddress 1 (some .boolean), Cond.methodLink RX2 73 yX2_request, Cond.instanceMethod yX2_request, Cond.selects RX2 yX2_request yX2_request, Cond.code yX2_request cX2_request 4 none, Cond.fieldLink RX2 33 "ArcCacheModel" "hits" "I", Cond.fieldLink RX2 36 "ArcCacheModel" "misses" "I", Cond.fieldLink RX2 13 "ArcCacheModel" "many" "[I", Cond.fieldLink RX2 30 "ArcCacheModel" "target" "I", Cond.fieldLink RX2 26 "ArcCacheModel" "pages" "I", Cond.fieldLink RX2 16 "ArcCacheModel" "store" "[I", Cond.methodLink RX2 42 yX2_whichList, Cond.instanceMethod yX2_whichList, Cond.selects RX2 yX2_whichList yX2_whichList, Cond.code yX2_whichList cX2_whichList 5 (some .int), Cond.fieldLink RX2 7 "ArcCacheModel" "lists" "[I", Cond.methodLink RX2 59 yX2_come, Cond.instanceMethod yX2_come, Cond.selects RX2 yX2_come yX2_come]
def wsX2_write_r2 : List Cond := [Cond.code yX2_come cX2_come 4 none, Cond.methodLink RX2 46 yX2_leave, Cond.instanceMethod yX2_leave, Cond.selects RX2 yX2_leave yX2_leave, Cond.code yX2_leave cX2_leave 4 none, Cond.methodLink RX2 66 yX2_comeNew, Cond.instanceMethod yX2_comeNew, Cond.selects RX2 yX2_comeNew yX2_comeNew, Cond.code yX2_comeNew cX2_comeNew 3 none, Cond.methodLink RX2 53 yX2_old, Cond.instanceMethod yX2_old, Cond.selects RX2 yX2_old yX2_old, Cond.code yX2_old cX2_old 2 (some .int), Cond.methodLink RX2 63 yX2_makeRoom, Cond.instanceMethod yX2_makeRoom, Cond.selects RX2 yX2_makeRoom yX2_makeRoom, Cond.code yX2_makeRoom cX2_makeRoom 5 none, Cond.methodLink RX2 56 yX2_go, Cond.instanceMethod yX2_go, Cond.selects RX2 yX2_go yX2_go, Cond.code yX2_go cX2_go 2 none, Cond.fieldLink RX2 39 "ArcCacheModel" "gone" "I", Cond.methodLink RX2 50 yX2_clean, Cond.instanceMethod yX2_clean]
def wsX2_write_r3 : List Cond := [Cond.selects RX2 yX2_clean yX2_clean, Cond.code yX2_clean cX2_clean 2 none]
def wsX2_write : List Cond := .code yX2_write cX2_write 3 (some .boolean) :: ((wsX2_write_r1 ++ (wsX2_write_r2 ++ wsX2_write_r3)) ++ wsX20)
def wsX2_flush : List Cond := .code yX2_flush cX2_flush 3 (some .int) :: ([.fieldLink RX2 22 "ArcCacheModel" "dirty" "[Z", .methodLink RX2 50 yX2_clean, .instanceMethod yX2_clean, .selects RX2 yX2_clean yX2_clean, .initialized RX2, .code yX2_clean cX2_clean 2 none, .fieldLink RX2 16 "ArcCacheModel" "store" "[I", .fieldLink RX2 19 "ArcCacheModel" "words" "[I"] ++ wsX20)
def wsX2_at : List Cond := .code yX2_at cX2_at 3 (some .int) :: ([.fieldLink RX2 13 "ArcCacheModel" "many" "[I", .fieldLink RX2 7 "ArcCacheModel" "lists" "[I"] ++ wsX20)
def wsX2_length : List Cond := .code yX2_length cX2_length 2 (some .int) :: ([.fieldLink RX2 13 "ArcCacheModel" "many" "[I"] ++ wsX20)
def wsX2_target : List Cond := .code yX2_target cX2_target 1 (some .int) :: ([.fieldLink RX2 30 "ArcCacheModel" "target" "I"] ++ wsX20)
def wsX2_hits : List Cond := .code yX2_hits cX2_hits 1 (some .int) :: ([.fieldLink RX2 33 "ArcCacheModel" "hits" "I"] ++ wsX20)
def wsX2_misses : List Cond := .code yX2_misses cX2_misses 1 (some .int) :: ([.fieldLink RX2 36 "ArcCacheModel" "misses" "I"] ++ wsX20)
def wsX2_store : List Cond := .code yX2_store cX2_store 2 (some .int) :: ([.fieldLink RX2 16 "ArcCacheModel" "store" "[I", .methodLink RX2 69 yX2_isAddress, .static yX2_isAddress, .initialized RX2, .code yX2_isAddress cX2_isAddress 1 (some .boolean)] ++ wsX20)
def wsX2_isDirty : List Cond := .code yX2_isDirty cX2_isDirty 2 (some .boolean) :: ([.fieldLink RX2 22 "ArcCacheModel" "dirty" "[Z", .methodLink RX2 69 yX2_isAddress, .static yX2_isAddress, .initialized RX2, .code yX2_isAddress cX2_isAddress 1 (some .boolean)] ++ wsX20)
def wsX2_gone : List Cond := .code yX2_gone cX2_gone 1 (some .int) :: ([.fieldLink RX2 39 "ArcCacheModel" "gone" "I"] ++ wsX20)
def wsJ9_max_7cf53 : List Cond := .code yJ9_max_7cf53 cJ9_max_7cf53 2 (some .int) :: ([])
def wsJ9_min_7cf53 : List Cond := .code yJ9_min_7cf53 cJ9_min_7cf53 2 (some .int) :: ([])
def wsL_cell : List Cond := .code yL_cell cL_cell 2 (some .int) :: ([])
def wsL_law_r1 : List Cond := [Cond.classLink RL 7 RX1, Cond.instantiable RX1 12, Cond.initialized RX1, Cond.classLink RL 18 RX2, Cond.instantiable RX2 10, Cond.initialized RX2, Cond.methodLink RL 9 yL_cell, Cond.static yL_cell, Cond.initialized RL, Cond.code yL_cell cL_cell 2 (some .int), Cond.methodLink RL 15 yX1_init, Cond.instanceMethod yX1_init, Cond.code yX1_init cX1_init 2 none, Cond.methodLink RX1 1 objectInit, Cond.instanceMethod objectInit, Cond.code objectInit ⟨#[0xb1]⟩ 1 none, Cond.classLink RX1 7 RX0, Cond.instantiable RX0 2, Cond.initialized RX0, Cond.fieldLink RX1 10 "ArcCache" "cameOnce" "LArcCache$AddressList;", Cond.fieldLink RX1 16 "ArcCache" "cameAgain" "LArcCache$AddressList;", Cond.fieldLink RX1 19 "ArcCache" "wentOnce" "LArcCache$AddressList;", Cond.fieldLink RX1 22 "ArcCache" "wentAgain" "LArcCache$AddressList;", Cond.arrayClass .int]
def wsL_law_r2 : List Cond := [Cond.fieldLink RX1 25 "ArcCache" "pageWords" "[I", Cond.arrayClass .boolean, Cond.fieldLink RX1 29 "ArcCache" "dirtyPages" "[Z", Cond.fieldLink RX1 33 "ArcCache" "storeWords" "[I", Cond.fieldLink RX1 42 "ArcCache" "pages" "I", Cond.instanceMethod yX0_init, Cond.code yX0_init cX0_init 1 none, Cond.methodLink RX0 3 objectInit, Cond.fieldLink RX0 9 "ArcCache$AddressList" "oldestFirst" "[I", Cond.methodLink RX1 36 yJ9_floorMod_7cf53, Cond.static yJ9_floorMod_7cf53, Cond.initialized RJ9, Cond.code yJ9_floorMod_7cf53 cJ9_floorMod_7cf53 3 (some .int), Cond.methodLink RL 20 yX2_init, Cond.instanceMethod yX2_init, Cond.code yX2_init cX2_init 3 none, Cond.methodLink RX2 1 objectInit, Cond.fieldLink RX2 7 "ArcCacheModel" "lists" "[I", Cond.fieldLink RX2 13 "ArcCacheModel" "many" "[I", Cond.fieldLink RX2 16 "ArcCacheModel" "store" "[I", Cond.fieldLink RX2 19 "ArcCacheModel" "words" "[I", Cond.fieldLink RX2 22 "ArcCacheModel" "dirty" "[Z", Cond.fieldLink RX2 26 "ArcCacheModel" "pages" "I", Cond.methodLink RL 21 yX1_init_]
def wsL_law_r3 : List Cond := [Cond.instanceMethod yX1_init_, Cond.selects RX1 yX1_init_ yX1_init_, Cond.code yX1_init_ cX1_init_ 2 none, Cond.fieldLink RX1 55 "ArcCache" "targetCount" "I", Cond.fieldLink RX1 58 "ArcCache" "hitCount" "I", Cond.fieldLink RX1 61 "ArcCache" "missCount" "I", Cond.fieldLink RX1 64 "ArcCache" "goneCount" "I", Cond.methodLink RX1 46 yX0_empty, Cond.instanceMethod yX0_empty, Cond.selects RX0 yX0_empty yX0_empty, Cond.code yX0_empty cX0_empty 1 none, Cond.fieldLink RX0 15 "ArcCache$AddressList" "count" "I", Cond.methodLink RX1 49 yJ7_fill_53178, Cond.static yJ7_fill_53178, Cond.initialized RJ7, Cond.code yJ7_fill_53178 cJ7_fill_53178 4 none, Cond.methodLink RL 24 yX2_init_, Cond.instanceMethod yX2_init_, Cond.selects RX2 yX2_init_ yX2_init_, Cond.code yX2_init_ cX2_init_ 2 none, Cond.fieldLink RX2 30 "ArcCacheModel" "target" "I", Cond.fieldLink RX2 33 "ArcCacheModel" "hits" "I", Cond.fieldLink RX2 36 "ArcCacheModel" "misses" "I", Cond.fieldLink RX2 39 "ArcCacheModel" "gone" "I"]
def wsL_law_r4 : List Cond := [Cond.methodLink RL 25 yX1_read, Cond.instanceMethod yX1_read, Cond.selects RX1 yX1_read yX1_read, Cond.code yX1_read cX1_read 2 (some .int), Cond.methodLink RX1 67 yX1_isAddress, Cond.static yX1_isAddress, Cond.code yX1_isAddress cX1_isAddress 1 (some .boolean), Cond.methodLink RX1 71 yX1_request, Cond.instanceMethod yX1_request, Cond.selects RX1 yX1_request yX1_request, Cond.code yX1_request cX1_request 3 none, Cond.methodLink RX1 96 yX1_whichList, Cond.instanceMethod yX1_whichList, Cond.selects RX1 yX1_whichList yX1_whichList, Cond.code yX1_whichList cX1_whichList 3 (some .int), Cond.methodLink RX1 78 yX1_listNumbered, Cond.instanceMethod yX1_listNumbered, Cond.selects RX1 yX1_listNumbered yX1_listNumbered, Cond.code yX1_listNumbered cX1_listNumbered 2 (some (.object "ArcCache$AddressList")), Cond.methodLink RX1 82 yX0_has, Cond.instanceMethod yX0_has, Cond.selects RX0 yX0_has yX0_has, Cond.code yX0_has cX0_has 2 (some .boolean), Cond.methodLink RX0 19 yX0_placeOf]
def wsL_law_r5 : List Cond := [Cond.instanceMethod yX0_placeOf, Cond.selects RX0 yX0_placeOf yX0_placeOf, Cond.code yX0_placeOf cX0_placeOf 3 (some .int), Cond.methodLink RX1 99 yX1_moveToCameAgain, Cond.instanceMethod yX1_moveToCameAgain, Cond.selects RX1 yX1_moveToCameAgain yX1_moveToCameAgain, Cond.code yX1_moveToCameAgain cX1_moveToCameAgain 3 none, Cond.methodLink RX1 118 yX0_remove, Cond.instanceMethod yX0_remove, Cond.selects RX0 yX0_remove yX0_remove, Cond.code yX0_remove cX0_remove 3 none, Cond.methodLink RX0 38 arraycopyName, Cond.native arraycopyName, Cond.static arraycopyName, Cond.initialized "java/lang/System", Cond.methodLink RX1 106 yX0_addNewest, Cond.instanceMethod yX0_addNewest, Cond.selects RX0 yX0_addNewest yX0_addNewest, Cond.code yX0_addNewest cX0_addNewest 2 none, Cond.methodLink RX1 103 yX1_makeRoomForUnknown, Cond.instanceMethod yX1_makeRoomForUnknown, Cond.selects RX1 yX1_makeRoomForUnknown yX1_makeRoomForUnknown, Cond.code yX1_makeRoomForUnknown cX1_makeRoomForUnknown 4 none, Cond.methodLink RX1 92 yX0_size]
def wsL_law_r6 : List Cond := [Cond.instanceMethod yX0_size, Cond.selects RX0 yX0_size yX0_size, Cond.code yX0_size cX0_size 1 (some .int), Cond.methodLink RX1 134 yX0_oldest, Cond.instanceMethod yX0_oldest, Cond.selects RX0 yX0_oldest yX0_oldest, Cond.code yX0_oldest cX0_oldest 1 (some .int), Cond.methodLink RX0 27 yX0_fromNewest, Cond.instanceMethod yX0_fromNewest, Cond.selects RX0 yX0_fromNewest yX0_fromNewest, Cond.code yX0_fromNewest cX0_fromNewest 2 (some .int), Cond.methodLink RX1 137 yX1_pageGoes, Cond.instanceMethod yX1_pageGoes, Cond.selects RX1 yX1_pageGoes yX1_pageGoes, Cond.code yX1_pageGoes cX1_pageGoes 2 none, Cond.methodLink RX1 75 yX1_writeBack, Cond.instanceMethod yX1_writeBack, Cond.selects RX1 yX1_writeBack yX1_writeBack, Cond.code yX1_writeBack cX1_writeBack 2 none, Cond.methodLink RX1 140 yX0_dropOldest, Cond.instanceMethod yX0_dropOldest, Cond.selects RX0 yX0_dropOldest yX0_dropOldest, Cond.code yX0_dropOldest cX0_dropOldest 1 none, Cond.methodLink RX0 30 yX0_oldest]
def wsL_law_r7 : List Cond := [Cond.methodLink RX0 34 yX0_remove, Cond.methodLink RX1 112 yX1_makeRoom, Cond.instanceMethod yX1_makeRoom, Cond.selects RX1 yX1_makeRoom yX1_makeRoom, Cond.code yX1_makeRoom cX1_makeRoom 4 none, Cond.methodLink RX1 130 yX1_oldestGoes, Cond.instanceMethod yX1_oldestGoes, Cond.selects RX1 yX1_oldestGoes yX1_oldestGoes, Cond.code yX1_oldestGoes cX1_oldestGoes 4 none, Cond.methodLink RX1 109 yX1_moveTarget, Cond.instanceMethod yX1_moveTarget, Cond.selects RX1 yX1_moveTarget yX1_moveTarget, Cond.code yX1_moveTarget cX1_moveTarget 3 none, Cond.methodLink RX1 124 Lib.Math.min.name, Cond.static Lib.Math.min.name, Cond.initialized "java/lang/Math", Cond.code Lib.Math.min.name Lib.Math.min.code 2 (some .int), Cond.methodLink RX1 127 Lib.Math.max.name, Cond.static Lib.Math.max.name, Cond.code Lib.Math.max.name Lib.Math.max.code 2 (some .int), Cond.methodLink RX1 121 yX1_stepOf, Cond.static yX1_stepOf, Cond.code yX1_stepOf cX1_stepOf 2 (some .int), Cond.methodLink RX1 115 yX1_bringPage]
def wsL_law_r8 : List Cond := [Cond.instanceMethod yX1_bringPage, Cond.selects RX1 yX1_bringPage yX1_bringPage, Cond.code yX1_bringPage cX1_bringPage 2 none, Cond.methodLink RL 29 yX2_read, Cond.instanceMethod yX2_read, Cond.selects RX2 yX2_read yX2_read, Cond.code yX2_read cX2_read 2 (some .int), Cond.methodLink RX2 69 yX2_isAddress, Cond.static yX2_isAddress, Cond.code yX2_isAddress cX2_isAddress 1 (some .boolean), Cond.methodLink RX2 73 yX2_request, Cond.instanceMethod yX2_request, Cond.selects RX2 yX2_request yX2_request, Cond.code yX2_request cX2_request 4 none, Cond.methodLink RX2 42 yX2_whichList, Cond.instanceMethod yX2_whichList, Cond.selects RX2 yX2_whichList yX2_whichList, Cond.code yX2_whichList cX2_whichList 5 (some .int), Cond.methodLink RX2 59 yX2_come, Cond.instanceMethod yX2_come, Cond.selects RX2 yX2_come yX2_come, Cond.code yX2_come cX2_come 4 none, Cond.methodLink RX2 46 yX2_leave, Cond.instanceMethod yX2_leave]
def wsL_law_r9 : List Cond := [Cond.selects RX2 yX2_leave yX2_leave, Cond.code yX2_leave cX2_leave 4 none, Cond.methodLink RX2 66 yX2_comeNew, Cond.instanceMethod yX2_comeNew, Cond.selects RX2 yX2_comeNew yX2_comeNew, Cond.code yX2_comeNew cX2_comeNew 3 none, Cond.methodLink RX2 53 yX2_old, Cond.instanceMethod yX2_old, Cond.selects RX2 yX2_old yX2_old, Cond.code yX2_old cX2_old 2 (some .int), Cond.methodLink RX2 63 yX2_makeRoom, Cond.instanceMethod yX2_makeRoom, Cond.selects RX2 yX2_makeRoom yX2_makeRoom, Cond.code yX2_makeRoom cX2_makeRoom 5 none, Cond.methodLink RX2 56 yX2_go, Cond.instanceMethod yX2_go, Cond.selects RX2 yX2_go yX2_go, Cond.code yX2_go cX2_go 2 none, Cond.methodLink RX2 50 yX2_clean, Cond.instanceMethod yX2_clean, Cond.selects RX2 yX2_clean yX2_clean, Cond.code yX2_clean cX2_clean 2 none, Cond.methodLink RL 30 yX1_write, Cond.instanceMethod yX1_write]
def wsL_law_r10 : List Cond := [Cond.selects RX1 yX1_write yX1_write, Cond.code yX1_write cX1_write 3 (some .boolean), Cond.methodLink RL 34 yX2_write, Cond.instanceMethod yX2_write, Cond.selects RX2 yX2_write yX2_write, Cond.code yX2_write cX2_write 3 (some .boolean), Cond.methodLink RL 35 yX1_flush, Cond.instanceMethod yX1_flush, Cond.selects RX1 yX1_flush yX1_flush, Cond.code yX1_flush cX1_flush 3 (some .int), Cond.methodLink RL 39 yX2_flush, Cond.instanceMethod yX2_flush, Cond.selects RX2 yX2_flush yX2_flush, Cond.code yX2_flush cX2_flush 3 (some .int), Cond.methodLink RL 40 yX1_whichList, Cond.methodLink RL 43 yX2_whichList, Cond.methodLink RL 44 yX1_at, Cond.instanceMethod yX1_at, Cond.selects RX1 yX1_at yX1_at, Cond.code yX1_at cX1_at 3 (some .int), Cond.methodLink RX1 85 yX1_isList, Cond.static yX1_isList, Cond.code yX1_isList cX1_isList 1 (some .boolean), Cond.methodLink RX1 88 yX0_fromNewest]
def wsL_law_r11 : List Cond := [Cond.methodLink RL 48 yX2_at, Cond.instanceMethod yX2_at, Cond.selects RX2 yX2_at yX2_at, Cond.code yX2_at cX2_at 3 (some .int), Cond.methodLink RL 49 yX1_length, Cond.instanceMethod yX1_length, Cond.selects RX1 yX1_length yX1_length, Cond.code yX1_length cX1_length 2 (some .int), Cond.methodLink RL 52 yX2_length, Cond.instanceMethod yX2_length, Cond.selects RX2 yX2_length yX2_length, Cond.code yX2_length cX2_length 2 (some .int), Cond.methodLink RL 53 yX1_target, Cond.instanceMethod yX1_target, Cond.selects RX1 yX1_target yX1_target, Cond.code yX1_target cX1_target 1 (some .int), Cond.methodLink RL 56 yX2_target, Cond.instanceMethod yX2_target, Cond.selects RX2 yX2_target yX2_target, Cond.code yX2_target cX2_target 1 (some .int), Cond.methodLink RL 57 yX1_hits, Cond.instanceMethod yX1_hits, Cond.selects RX1 yX1_hits yX1_hits, Cond.code yX1_hits cX1_hits 1 (some .int)]
def wsL_law_r12 : List Cond := [Cond.methodLink RL 60 yX2_hits, Cond.instanceMethod yX2_hits, Cond.selects RX2 yX2_hits yX2_hits, Cond.code yX2_hits cX2_hits 1 (some .int), Cond.methodLink RL 61 yX1_misses, Cond.instanceMethod yX1_misses, Cond.selects RX1 yX1_misses yX1_misses, Cond.code yX1_misses cX1_misses 1 (some .int), Cond.methodLink RL 64 yX2_misses, Cond.instanceMethod yX2_misses, Cond.selects RX2 yX2_misses yX2_misses, Cond.code yX2_misses cX2_misses 1 (some .int), Cond.methodLink RL 65 yX1_store, Cond.instanceMethod yX1_store, Cond.selects RX1 yX1_store yX1_store, Cond.code yX1_store cX1_store 2 (some .int), Cond.methodLink RL 68 yX2_store, Cond.instanceMethod yX2_store, Cond.selects RX2 yX2_store yX2_store, Cond.code yX2_store cX2_store 2 (some .int), Cond.methodLink RL 69 yX1_isDirty, Cond.instanceMethod yX1_isDirty, Cond.selects RX1 yX1_isDirty yX1_isDirty, Cond.code yX1_isDirty cX1_isDirty 2 (some .boolean)]
def wsL_law_r13 : List Cond := [Cond.methodLink RL 73 yX2_isDirty, Cond.instanceMethod yX2_isDirty, Cond.selects RX2 yX2_isDirty yX2_isDirty, Cond.code yX2_isDirty cX2_isDirty 2 (some .boolean), Cond.methodLink RL 74 yX1_gone, Cond.instanceMethod yX1_gone, Cond.selects RX1 yX1_gone yX1_gone, Cond.code yX1_gone cX1_gone 1 (some .int), Cond.methodLink RL 77 yX2_gone, Cond.instanceMethod yX2_gone, Cond.selects RX2 yX2_gone yX2_gone, Cond.code yX2_gone cX2_gone 1 (some .int)]
def wsL_law : List Cond := (wsL_law_r1 ++ (wsL_law_r2 ++ (wsL_law_r3 ++ (wsL_law_r4 ++ (wsL_law_r5 ++ (wsL_law_r6 ++ (wsL_law_r7 ++ (wsL_law_r8 ++ (wsL_law_r9 ++ (wsL_law_r10 ++ (wsL_law_r11 ++ (wsL_law_r12 ++ wsL_law_r13)))))))))))) ++ wsX10 ++ wsX20 ++ wsX00 ++ ([] : List Cond)
set_option maxRecDepth 20000 in
theorem wsL_law_in : ∀ w ∈ wsL_law, w ∈ lw_tbl := fun w h => (goodIn_p wsL_law [245, 30, 33, 38, 50, 250, 92, 96, 99, 286, 103, 106, 110, 114, 118, 122, 126, 130, 134, 141, 146, 150, 154, 158, 162, 166, 170, 176, 180, 184, 193, 190, 187, 197, 294, 297, 301, 290, 306, 310, 314, 318, 322, 326, 330, 201, 334, 205, 338, 210, 213, 342, 218, 346, 222, 350, 226, 354, 230, 358, 234, 362, 238, 366, 242, 370] (by decide +kernel) (by decide +kernel) w h).1
theorem inlX0 : ∀ w ∈ wsX00, w ∈ wsL_law := fun _ h => List.mem_append_left _ (List.mem_append_right _ h)
theorem inX0 : ∀ w ∈ wsX00, w ∈ lw_tbl := fun w h => wsL_law_in w (inlX0 w h)
theorem inlX1 : ∀ w ∈ wsX10, w ∈ wsL_law := fun _ h => List.mem_append_left _ (List.mem_append_left _ (List.mem_append_left _ (List.mem_append_right _ h)))
theorem inX1 : ∀ w ∈ wsX10, w ∈ lw_tbl := fun w h => wsL_law_in w (inlX1 w h)
theorem inlX2 : ∀ w ∈ wsX20, w ∈ wsL_law := fun _ h => List.mem_append_left _ (List.mem_append_left _ (List.mem_append_right _ h))
theorem inX2 : ∀ w ∈ wsX20, w ∈ lw_tbl := fun w h => wsL_law_in w (inlX2 w h)
theorem inJ9 : ∀ w ∈ wsJ90, w ∈ lw_tbl := by decide +kernel
theorem inJ10 : ∀ w ∈ wsJ100, w ∈ lw_tbl := by decide +kernel
theorem inJ7 : ∀ w ∈ wsJ70, w ∈ lw_tbl := by decide +kernel
theorem dX0_init_0 : decode cX0_init 0 = .ok (.aload_n 0, 1) := by decide +kernel
theorem dX0_init_1 : decode cX0_init 1 = .ok (.invokespecial 3, 3) := by decide +kernel
theorem dX0_init_4 : decode cX0_init 4 = .ok (.aload_n 0, 1) := by decide +kernel
theorem dX0_init_5 : decode cX0_init 5 = .ok (.bipush 64, 2) := by decide +kernel
theorem dX0_init_7 : decode cX0_init 7 = .ok (.newarray .int, 2) := by decide +kernel
theorem dX0_init_9 : decode cX0_init 9 = .ok (.putfield 9, 3) := by decide +kernel
theorem dX0_init_12 : decode cX0_init 12 = .ok (.return_, 1) := by decide +kernel
theorem dX0_size_0 : decode cX0_size 0 = .ok (.aload_n 0, 1) := by decide +kernel
theorem dX0_size_1 : decode cX0_size 1 = .ok (.getfield 15, 3) := by decide +kernel
theorem dX0_size_4 : decode cX0_size 4 = .ok (.ireturn, 1) := by decide +kernel
theorem dX0_empty_0 : decode cX0_empty 0 = .ok (.aload_n 0, 1) := by decide +kernel
theorem dX0_empty_1 : decode cX0_empty 1 = .ok (.iconst 0, 1) := by decide +kernel
theorem dX0_empty_2 : decode cX0_empty 2 = .ok (.putfield 15, 3) := by decide +kernel
theorem dX0_empty_5 : decode cX0_empty 5 = .ok (.return_, 1) := by decide +kernel
set_option maxRecDepth 20000 in
theorem ggX0_has_X0_placeOf : GoodIn wsX0_has wsX0_placeOf := goodIn_r _ [5, 6, 7, 8, 9] (by decide +kernel) (by decide +kernel)
set_option maxRecDepth 20000 in
theorem gX0_has_X0_placeOf : GoodIn wsX0_has (wsV RX0 19 RX0 yX0_placeOf wsX0_placeOf) := goodIn_app (goodIn_of _ (by decide +kernel)) ggX0_has_X0_placeOf
theorem dX0_has_0 : decode cX0_has 0 = .ok (.aload_n 0, 1) := by decide +kernel
theorem dX0_has_1 : decode cX0_has 1 = .ok (.iload_n 1, 1) := by decide +kernel
theorem dX0_has_2 : decode cX0_has 2 = .ok (.invokevirtual 19, 3) := by decide +kernel
theorem dX0_has_5 : decode cX0_has 5 = .ok (.ifCond .lt 7, 3) := by decide +kernel
theorem dX0_has_8 : decode cX0_has 8 = .ok (.iconst 1, 1) := by decide +kernel
theorem dX0_has_9 : decode cX0_has 9 = .ok (.goto 4, 3) := by decide +kernel
theorem dX0_has_12 : decode cX0_has 12 = .ok (.iconst 0, 1) := by decide +kernel
theorem dX0_has_13 : decode cX0_has 13 = .ok (.ireturn, 1) := by decide +kernel
theorem dX0_fromNewest_0 : decode cX0_fromNewest 0 = .ok (.iload_n 1, 1) := by decide +kernel
theorem dX0_fromNewest_1 : decode cX0_fromNewest 1 = .ok (.ifCond .lt 27, 3) := by decide +kernel
theorem dX0_fromNewest_4 : decode cX0_fromNewest 4 = .ok (.iload_n 1, 1) := by decide +kernel
theorem dX0_fromNewest_5 : decode cX0_fromNewest 5 = .ok (.aload_n 0, 1) := by decide +kernel
theorem dX0_fromNewest_6 : decode cX0_fromNewest 6 = .ok (.getfield 15, 3) := by decide +kernel
theorem dX0_fromNewest_9 : decode cX0_fromNewest 9 = .ok (.if_icmp .ge 19, 3) := by decide +kernel
theorem dX0_fromNewest_12 : decode cX0_fromNewest 12 = .ok (.aload_n 0, 1) := by decide +kernel
theorem dX0_fromNewest_13 : decode cX0_fromNewest 13 = .ok (.getfield 9, 3) := by decide +kernel
theorem dX0_fromNewest_16 : decode cX0_fromNewest 16 = .ok (.aload_n 0, 1) := by decide +kernel
theorem dX0_fromNewest_17 : decode cX0_fromNewest 17 = .ok (.getfield 15, 3) := by decide +kernel
theorem dX0_fromNewest_20 : decode cX0_fromNewest 20 = .ok (.iconst 1, 1) := by decide +kernel
theorem dX0_fromNewest_21 : decode cX0_fromNewest 21 = .ok (.isub, 1) := by decide +kernel
theorem dX0_fromNewest_22 : decode cX0_fromNewest 22 = .ok (.iload_n 1, 1) := by decide +kernel
theorem dX0_fromNewest_23 : decode cX0_fromNewest 23 = .ok (.isub, 1) := by decide +kernel
theorem dX0_fromNewest_24 : decode cX0_fromNewest 24 = .ok (.iaload, 1) := by decide +kernel
theorem dX0_fromNewest_25 : decode cX0_fromNewest 25 = .ok (.goto 4, 3) := by decide +kernel
theorem dX0_fromNewest_28 : decode cX0_fromNewest 28 = .ok (.iconst (-1), 1) := by decide +kernel
theorem dX0_fromNewest_29 : decode cX0_fromNewest 29 = .ok (.ireturn, 1) := by decide +kernel
set_option maxRecDepth 20000 in
theorem ggX0_addNewest_X1_isAddress : GoodIn wsX0_addNewest wsX1_isAddress := goodIn_r _ [5] (by decide +kernel) (by decide +kernel)
set_option maxRecDepth 20000 in
theorem gX0_addNewest_X1_isAddress_n23 : GoodIn wsX0_addNewest (wsX1_isAddress) := ggX0_addNewest_X1_isAddress
theorem dX0_addNewest_0 : decode cX0_addNewest 0 = .ok (.iload_n 1, 1) := by decide +kernel
theorem dX0_addNewest_1 : decode cX0_addNewest 1 = .ok (.invokestatic 23, 3) := by decide +kernel
theorem dX0_addNewest_4 : decode cX0_addNewest 4 = .ok (.ifCond .eq 32, 3) := by decide +kernel
theorem dX0_addNewest_7 : decode cX0_addNewest 7 = .ok (.aload_n 0, 1) := by decide +kernel
theorem dX0_addNewest_8 : decode cX0_addNewest 8 = .ok (.getfield 15, 3) := by decide +kernel
theorem dX0_addNewest_11 : decode cX0_addNewest 11 = .ok (.bipush 64, 2) := by decide +kernel
theorem dX0_addNewest_13 : decode cX0_addNewest 13 = .ok (.if_icmp .ge 23, 3) := by decide +kernel
theorem dX0_addNewest_16 : decode cX0_addNewest 16 = .ok (.aload_n 0, 1) := by decide +kernel
theorem dX0_addNewest_17 : decode cX0_addNewest 17 = .ok (.getfield 9, 3) := by decide +kernel
theorem dX0_addNewest_20 : decode cX0_addNewest 20 = .ok (.aload_n 0, 1) := by decide +kernel
theorem dX0_addNewest_21 : decode cX0_addNewest 21 = .ok (.getfield 15, 3) := by decide +kernel
theorem dX0_addNewest_24 : decode cX0_addNewest 24 = .ok (.iload_n 1, 1) := by decide +kernel
theorem dX0_addNewest_25 : decode cX0_addNewest 25 = .ok (.iastore, 1) := by decide +kernel
theorem dX0_addNewest_26 : decode cX0_addNewest 26 = .ok (.aload_n 0, 1) := by decide +kernel
theorem dX0_addNewest_27 : decode cX0_addNewest 27 = .ok (.dup, 1) := by decide +kernel
theorem dX0_addNewest_28 : decode cX0_addNewest 28 = .ok (.getfield 15, 3) := by decide +kernel
theorem dX0_addNewest_31 : decode cX0_addNewest 31 = .ok (.iconst 1, 1) := by decide +kernel
theorem dX0_addNewest_32 : decode cX0_addNewest 32 = .ok (.iadd, 1) := by decide +kernel
theorem dX0_addNewest_33 : decode cX0_addNewest 33 = .ok (.putfield 15, 3) := by decide +kernel
theorem dX0_addNewest_36 : decode cX0_addNewest 36 = .ok (.return_, 1) := by decide +kernel
set_option maxRecDepth 20000 in
theorem ggX0_oldest_X0_fromNewest : GoodIn wsX0_oldest wsX0_fromNewest := goodIn_r _ [6, 1, 7, 8, 9] (by decide +kernel) (by decide +kernel)
set_option maxRecDepth 20000 in
theorem gX0_oldest_X0_fromNewest : GoodIn wsX0_oldest (wsV RX0 27 RX0 yX0_fromNewest wsX0_fromNewest) := goodIn_app (goodIn_of _ (by decide +kernel)) ggX0_oldest_X0_fromNewest
theorem dX0_oldest_0 : decode cX0_oldest 0 = .ok (.aload_n 0, 1) := by decide +kernel
theorem dX0_oldest_1 : decode cX0_oldest 1 = .ok (.aload_n 0, 1) := by decide +kernel
theorem dX0_oldest_2 : decode cX0_oldest 2 = .ok (.getfield 15, 3) := by decide +kernel
theorem dX0_oldest_5 : decode cX0_oldest 5 = .ok (.iconst 1, 1) := by decide +kernel
theorem dX0_oldest_6 : decode cX0_oldest 6 = .ok (.isub, 1) := by decide +kernel
theorem dX0_oldest_7 : decode cX0_oldest 7 = .ok (.invokevirtual 27, 3) := by decide +kernel
theorem dX0_oldest_10 : decode cX0_oldest 10 = .ok (.ireturn, 1) := by decide +kernel
set_option maxRecDepth 20000 in
theorem ggX0_dropOldest_X0_oldest : GoodIn wsX0_dropOldest wsX0_oldest := goodIn_r _ [5, 6, 7, 8, 9, 4, 10, 11, 24, 25] (by decide +kernel) (by decide +kernel)
set_option maxRecDepth 20000 in
theorem gX0_dropOldest_X0_oldest : GoodIn wsX0_dropOldest (wsV RX0 30 RX0 yX0_oldest wsX0_oldest) := goodIn_app (goodIn_of _ (by decide +kernel)) ggX0_dropOldest_X0_oldest
set_option maxRecDepth 20000 in
theorem ggX0_dropOldest_X0_remove : GoodIn wsX0_dropOldest wsX0_remove := goodIn_r _ [15, 6, 11, 16, 17, 18, 19, 20, 21, 22, 4, 23, 24, 25] (by decide +kernel) (by decide +kernel)
set_option maxRecDepth 20000 in
theorem gX0_dropOldest_X0_remove : GoodIn wsX0_dropOldest (wsV RX0 34 RX0 yX0_remove wsX0_remove) := goodIn_app (goodIn_of _ (by decide +kernel)) ggX0_dropOldest_X0_remove
theorem dX0_dropOldest_0 : decode cX0_dropOldest 0 = .ok (.aload_n 0, 1) := by decide +kernel
theorem dX0_dropOldest_1 : decode cX0_dropOldest 1 = .ok (.aload_n 0, 1) := by decide +kernel
theorem dX0_dropOldest_2 : decode cX0_dropOldest 2 = .ok (.invokevirtual 30, 3) := by decide +kernel
theorem dX0_dropOldest_5 : decode cX0_dropOldest 5 = .ok (.invokevirtual 34, 3) := by decide +kernel
theorem dX0_dropOldest_8 : decode cX0_dropOldest 8 = .ok (.return_, 1) := by decide +kernel
set_option maxRecDepth 20000 in
theorem ggX0_remove_X0_placeOf : GoodIn wsX0_remove wsX0_placeOf := goodIn_r _ [11, 1, 2, 12, 13] (by decide +kernel) (by decide +kernel)
set_option maxRecDepth 20000 in
theorem gX0_remove_X0_placeOf : GoodIn wsX0_remove (wsV RX0 19 RX0 yX0_placeOf wsX0_placeOf) := goodIn_app (goodIn_of _ (by decide +kernel)) ggX0_remove_X0_placeOf
theorem dX0_remove_0 : decode cX0_remove 0 = .ok (.aload_n 0, 1) := by decide +kernel
theorem dX0_remove_1 : decode cX0_remove 1 = .ok (.iload_n 1, 1) := by decide +kernel
theorem dX0_remove_2 : decode cX0_remove 2 = .ok (.invokevirtual 19, 3) := by decide +kernel
theorem dX0_remove_5 : decode cX0_remove 5 = .ok (.istore_n 2, 1) := by decide +kernel
theorem dX0_remove_6 : decode cX0_remove 6 = .ok (.iload_n 2, 1) := by decide +kernel
theorem dX0_remove_7 : decode cX0_remove 7 = .ok (.ifCond .lt 34, 3) := by decide +kernel
theorem dX0_remove_10 : decode cX0_remove 10 = .ok (.aload_n 0, 1) := by decide +kernel
theorem dX0_remove_11 : decode cX0_remove 11 = .ok (.dup, 1) := by decide +kernel
theorem dX0_remove_12 : decode cX0_remove 12 = .ok (.getfield 15, 3) := by decide +kernel
theorem dX0_remove_15 : decode cX0_remove 15 = .ok (.iconst 1, 1) := by decide +kernel
theorem dX0_remove_16 : decode cX0_remove 16 = .ok (.isub, 1) := by decide +kernel
theorem dX0_remove_17 : decode cX0_remove 17 = .ok (.putfield 15, 3) := by decide +kernel
theorem dX0_remove_20 : decode cX0_remove 20 = .ok (.aload_n 0, 1) := by decide +kernel
theorem dX0_remove_21 : decode cX0_remove 21 = .ok (.getfield 9, 3) := by decide +kernel
theorem dX0_remove_24 : decode cX0_remove 24 = .ok (.iload_n 2, 1) := by decide +kernel
theorem dX0_remove_25 : decode cX0_remove 25 = .ok (.iconst 1, 1) := by decide +kernel
theorem dX0_remove_26 : decode cX0_remove 26 = .ok (.iadd, 1) := by decide +kernel
theorem dX0_remove_27 : decode cX0_remove 27 = .ok (.aload_n 0, 1) := by decide +kernel
theorem dX0_remove_28 : decode cX0_remove 28 = .ok (.getfield 9, 3) := by decide +kernel
theorem dX0_remove_31 : decode cX0_remove 31 = .ok (.iload_n 2, 1) := by decide +kernel
theorem dX0_remove_32 : decode cX0_remove 32 = .ok (.aload_n 0, 1) := by decide +kernel
theorem dX0_remove_33 : decode cX0_remove 33 = .ok (.getfield 15, 3) := by decide +kernel
theorem dX0_remove_36 : decode cX0_remove 36 = .ok (.iload_n 2, 1) := by decide +kernel
theorem dX0_remove_37 : decode cX0_remove 37 = .ok (.isub, 1) := by decide +kernel
theorem dX0_remove_38 : decode cX0_remove 38 = .ok (.invokestatic 38, 3) := by decide +kernel
theorem dX0_remove_41 : decode cX0_remove 41 = .ok (.return_, 1) := by decide +kernel
theorem dX0_placeOf_0 : decode cX0_placeOf 0 = .ok (.iconst 0, 1) := by decide +kernel
theorem dX0_placeOf_1 : decode cX0_placeOf 1 = .ok (.istore_n 2, 1) := by decide +kernel
theorem dX0_placeOf_2 : decode cX0_placeOf 2 = .ok (.iload_n 2, 1) := by decide +kernel
theorem dX0_placeOf_3 : decode cX0_placeOf 3 = .ok (.aload_n 0, 1) := by decide +kernel
theorem dX0_placeOf_4 : decode cX0_placeOf 4 = .ok (.getfield 15, 3) := by decide +kernel
theorem dX0_placeOf_7 : decode cX0_placeOf 7 = .ok (.if_icmp .ge 21, 3) := by decide +kernel
theorem dX0_placeOf_10 : decode cX0_placeOf 10 = .ok (.aload_n 0, 1) := by decide +kernel
theorem dX0_placeOf_11 : decode cX0_placeOf 11 = .ok (.getfield 9, 3) := by decide +kernel
theorem dX0_placeOf_14 : decode cX0_placeOf 14 = .ok (.iload_n 2, 1) := by decide +kernel
theorem dX0_placeOf_15 : decode cX0_placeOf 15 = .ok (.iaload, 1) := by decide +kernel
theorem dX0_placeOf_16 : decode cX0_placeOf 16 = .ok (.iload_n 1, 1) := by decide +kernel
theorem dX0_placeOf_17 : decode cX0_placeOf 17 = .ok (.if_icmp .ne 5, 3) := by decide +kernel
theorem dX0_placeOf_20 : decode cX0_placeOf 20 = .ok (.iload_n 2, 1) := by decide +kernel
theorem dX0_placeOf_21 : decode cX0_placeOf 21 = .ok (.ireturn, 1) := by decide +kernel
theorem dX0_placeOf_22 : decode cX0_placeOf 22 = .ok (.iinc 2 1, 3) := by decide +kernel
theorem dX0_placeOf_25 : decode cX0_placeOf 25 = .ok (.goto (-23), 3) := by decide +kernel
theorem dX0_placeOf_28 : decode cX0_placeOf 28 = .ok (.iconst (-1), 1) := by decide +kernel
theorem dX0_placeOf_29 : decode cX0_placeOf 29 = .ok (.ireturn, 1) := by decide +kernel
set_option maxRecDepth 20000 in
theorem ggX1_init_X0_init : GoodIn wsX1_init wsX0_init := goodIn_r _ [18, 19, 2, 3, 11, 20, 25, 26] (by decide +kernel) (by decide +kernel)
set_option maxRecDepth 20000 in
theorem gX1_init_X0_init_n9 : GoodIn wsX1_init (wsX0_init) := ggX1_init_X0_init
set_option maxRecDepth 20000 in
theorem ggX1_init_J9_floorMod_7cf53 : GoodIn wsX1_init wsJ9_floorMod_7cf53 := goodIn_r _ [24] (by decide +kernel) (by decide +kernel)
set_option maxRecDepth 20000 in
theorem gX1_init_J9_floorMod_7cf53 : GoodIn wsX1_init (va_wsS RX1 36 yJ9_floorMod_7cf53 wsJ9_floorMod_7cf53) := goodIn_app (goodIn_of _ (by decide +kernel)) ggX1_init_J9_floorMod_7cf53
theorem dX1_init_0 : decode cX1_init 0 = .ok (.aload_n 0, 1) := by decide +kernel
theorem dX1_init_1 : decode cX1_init 1 = .ok (.invokespecial 1, 3) := by decide +kernel
theorem dX1_init_4 : decode cX1_init 4 = .ok (.aload_n 0, 1) := by decide +kernel
theorem dX1_init_5 : decode cX1_init 5 = .ok (.new 7, 3) := by decide +kernel
theorem dX1_init_8 : decode cX1_init 8 = .ok (.dup, 1) := by decide +kernel
theorem dX1_init_9 : decode cX1_init 9 = .ok (.invokespecial 9, 3) := by decide +kernel
theorem dX1_init_12 : decode cX1_init 12 = .ok (.putfield 10, 3) := by decide +kernel
theorem dX1_init_15 : decode cX1_init 15 = .ok (.aload_n 0, 1) := by decide +kernel
theorem dX1_init_16 : decode cX1_init 16 = .ok (.new 7, 3) := by decide +kernel
theorem dX1_init_19 : decode cX1_init 19 = .ok (.dup, 1) := by decide +kernel
theorem dX1_init_20 : decode cX1_init 20 = .ok (.invokespecial 9, 3) := by decide +kernel
theorem dX1_init_23 : decode cX1_init 23 = .ok (.putfield 16, 3) := by decide +kernel
theorem dX1_init_26 : decode cX1_init 26 = .ok (.aload_n 0, 1) := by decide +kernel
theorem dX1_init_27 : decode cX1_init 27 = .ok (.new 7, 3) := by decide +kernel
theorem dX1_init_30 : decode cX1_init 30 = .ok (.dup, 1) := by decide +kernel
theorem dX1_init_31 : decode cX1_init 31 = .ok (.invokespecial 9, 3) := by decide +kernel
theorem dX1_init_34 : decode cX1_init 34 = .ok (.putfield 19, 3) := by decide +kernel
theorem dX1_init_37 : decode cX1_init 37 = .ok (.aload_n 0, 1) := by decide +kernel
theorem dX1_init_38 : decode cX1_init 38 = .ok (.new 7, 3) := by decide +kernel
theorem dX1_init_41 : decode cX1_init 41 = .ok (.dup, 1) := by decide +kernel
theorem dX1_init_42 : decode cX1_init 42 = .ok (.invokespecial 9, 3) := by decide +kernel
theorem dX1_init_45 : decode cX1_init 45 = .ok (.putfield 22, 3) := by decide +kernel
theorem dX1_init_48 : decode cX1_init 48 = .ok (.aload_n 0, 1) := by decide +kernel
theorem dX1_init_49 : decode cX1_init 49 = .ok (.bipush 64, 2) := by decide +kernel
theorem dX1_init_51 : decode cX1_init 51 = .ok (.newarray .int, 2) := by decide +kernel
theorem dX1_init_53 : decode cX1_init 53 = .ok (.putfield 25, 3) := by decide +kernel
theorem dX1_init_56 : decode cX1_init 56 = .ok (.aload_n 0, 1) := by decide +kernel
theorem dX1_init_57 : decode cX1_init 57 = .ok (.bipush 64, 2) := by decide +kernel
theorem dX1_init_59 : decode cX1_init 59 = .ok (.newarray .boolean, 2) := by decide +kernel
theorem dX1_init_61 : decode cX1_init 61 = .ok (.putfield 29, 3) := by decide +kernel
theorem dX1_init_64 : decode cX1_init 64 = .ok (.aload_n 0, 1) := by decide +kernel
theorem dX1_init_65 : decode cX1_init 65 = .ok (.bipush 64, 2) := by decide +kernel
theorem dX1_init_67 : decode cX1_init 67 = .ok (.newarray .int, 2) := by decide +kernel
theorem dX1_init_69 : decode cX1_init 69 = .ok (.putfield 33, 3) := by decide +kernel
theorem dX1_init_72 : decode cX1_init 72 = .ok (.aload_n 0, 1) := by decide +kernel
theorem dX1_init_73 : decode cX1_init 73 = .ok (.iload_n 1, 1) := by decide +kernel
theorem dX1_init_74 : decode cX1_init 74 = .ok (.bipush 24, 2) := by decide +kernel
theorem dX1_init_76 : decode cX1_init 76 = .ok (.invokestatic 36, 3) := by decide +kernel
theorem dX1_init_79 : decode cX1_init 79 = .ok (.iconst 1, 1) := by decide +kernel
theorem dX1_init_80 : decode cX1_init 80 = .ok (.iadd, 1) := by decide +kernel
theorem dX1_init_81 : decode cX1_init 81 = .ok (.putfield 42, 3) := by decide +kernel
theorem dX1_init_84 : decode cX1_init 84 = .ok (.return_, 1) := by decide +kernel
set_option maxRecDepth 20000 in
theorem ggX1_init__X0_empty : GoodIn wsX1_init_ wsX0_empty := goodIn_r _ [16, 17, 34, 35] (by decide +kernel) (by decide +kernel)
set_option maxRecDepth 20000 in
theorem gX1_init__X0_empty : GoodIn wsX1_init_ (wsV RX1 46 RX0 yX0_empty wsX0_empty) := goodIn_app (goodIn_of _ (by decide +kernel)) ggX1_init__X0_empty
set_option maxRecDepth 20000 in
theorem ggX1_init__J7_fill_53178 : GoodIn wsX1_init_ wsJ7_fill_53178 := goodIn_r _ [21] (by decide +kernel) (by decide +kernel)
set_option maxRecDepth 20000 in
theorem gX1_init__J7_fill_53178 : GoodIn wsX1_init_ (va_wsS RX1 49 yJ7_fill_53178 wsJ7_fill_53178) := goodIn_app (goodIn_of _ (by decide +kernel)) ggX1_init__J7_fill_53178
theorem dX1_init__0 : decode cX1_init_ 0 = .ok (.aload_n 0, 1) := by decide +kernel
theorem dX1_init__1 : decode cX1_init_ 1 = .ok (.getfield 10, 3) := by decide +kernel
theorem dX1_init__4 : decode cX1_init_ 4 = .ok (.invokevirtual 46, 3) := by decide +kernel
theorem dX1_init__7 : decode cX1_init_ 7 = .ok (.aload_n 0, 1) := by decide +kernel
theorem dX1_init__8 : decode cX1_init_ 8 = .ok (.getfield 16, 3) := by decide +kernel
theorem dX1_init__11 : decode cX1_init_ 11 = .ok (.invokevirtual 46, 3) := by decide +kernel
theorem dX1_init__14 : decode cX1_init_ 14 = .ok (.aload_n 0, 1) := by decide +kernel
theorem dX1_init__15 : decode cX1_init_ 15 = .ok (.getfield 19, 3) := by decide +kernel
theorem dX1_init__18 : decode cX1_init_ 18 = .ok (.invokevirtual 46, 3) := by decide +kernel
theorem dX1_init__21 : decode cX1_init_ 21 = .ok (.aload_n 0, 1) := by decide +kernel
theorem dX1_init__22 : decode cX1_init_ 22 = .ok (.getfield 22, 3) := by decide +kernel
theorem dX1_init__25 : decode cX1_init_ 25 = .ok (.invokevirtual 46, 3) := by decide +kernel
theorem dX1_init__28 : decode cX1_init_ 28 = .ok (.aload_n 0, 1) := by decide +kernel
theorem dX1_init__29 : decode cX1_init_ 29 = .ok (.getfield 25, 3) := by decide +kernel
theorem dX1_init__32 : decode cX1_init_ 32 = .ok (.iconst 0, 1) := by decide +kernel
theorem dX1_init__33 : decode cX1_init_ 33 = .ok (.invokestatic 49, 3) := by decide +kernel
theorem dX1_init__36 : decode cX1_init_ 36 = .ok (.aload_n 0, 1) := by decide +kernel
theorem dX1_init__37 : decode cX1_init_ 37 = .ok (.getfield 33, 3) := by decide +kernel
theorem dX1_init__40 : decode cX1_init_ 40 = .ok (.iconst 0, 1) := by decide +kernel
theorem dX1_init__41 : decode cX1_init_ 41 = .ok (.invokestatic 49, 3) := by decide +kernel
theorem dX1_init__44 : decode cX1_init_ 44 = .ok (.iconst 0, 1) := by decide +kernel
theorem dX1_init__45 : decode cX1_init_ 45 = .ok (.istore_n 1, 1) := by decide +kernel
theorem dX1_init__46 : decode cX1_init_ 46 = .ok (.iload_n 1, 1) := by decide +kernel
theorem dX1_init__47 : decode cX1_init_ 47 = .ok (.bipush 64, 2) := by decide +kernel
theorem dX1_init__49 : decode cX1_init_ 49 = .ok (.if_icmp .ge 16, 3) := by decide +kernel
theorem dX1_init__52 : decode cX1_init_ 52 = .ok (.aload_n 0, 1) := by decide +kernel
theorem dX1_init__53 : decode cX1_init_ 53 = .ok (.getfield 29, 3) := by decide +kernel
theorem dX1_init__56 : decode cX1_init_ 56 = .ok (.iload_n 1, 1) := by decide +kernel
theorem dX1_init__57 : decode cX1_init_ 57 = .ok (.iconst 0, 1) := by decide +kernel
theorem dX1_init__58 : decode cX1_init_ 58 = .ok (.bastore, 1) := by decide +kernel
theorem dX1_init__59 : decode cX1_init_ 59 = .ok (.iinc 1 1, 3) := by decide +kernel
theorem dX1_init__62 : decode cX1_init_ 62 = .ok (.goto (-16), 3) := by decide +kernel
theorem dX1_init__65 : decode cX1_init_ 65 = .ok (.aload_n 0, 1) := by decide +kernel
theorem dX1_init__66 : decode cX1_init_ 66 = .ok (.iconst 0, 1) := by decide +kernel
theorem dX1_init__67 : decode cX1_init_ 67 = .ok (.putfield 55, 3) := by decide +kernel
theorem dX1_init__70 : decode cX1_init_ 70 = .ok (.aload_n 0, 1) := by decide +kernel
theorem dX1_init__71 : decode cX1_init_ 71 = .ok (.iconst 0, 1) := by decide +kernel
theorem dX1_init__72 : decode cX1_init_ 72 = .ok (.putfield 58, 3) := by decide +kernel
theorem dX1_init__75 : decode cX1_init_ 75 = .ok (.aload_n 0, 1) := by decide +kernel
theorem dX1_init__76 : decode cX1_init_ 76 = .ok (.iconst 0, 1) := by decide +kernel
theorem dX1_init__77 : decode cX1_init_ 77 = .ok (.putfield 61, 3) := by decide +kernel
theorem dX1_init__80 : decode cX1_init_ 80 = .ok (.aload_n 0, 1) := by decide +kernel
theorem dX1_init__81 : decode cX1_init_ 81 = .ok (.iconst 0, 1) := by decide +kernel
theorem dX1_init__82 : decode cX1_init_ 82 = .ok (.putfield 64, 3) := by decide +kernel
theorem dX1_init__85 : decode cX1_init_ 85 = .ok (.return_, 1) := by decide +kernel
set_option maxRecDepth 20000 in
theorem ggX1_read_X1_isAddress : GoodIn wsX1_read wsX1_isAddress := goodIn_r _ [5] (by decide +kernel) (by decide +kernel)
set_option maxRecDepth 20000 in
theorem gX1_read_X1_isAddress : GoodIn wsX1_read (va_wsS RX1 67 yX1_isAddress wsX1_isAddress) := goodIn_app (goodIn_of _ (by decide +kernel)) ggX1_read_X1_isAddress
set_option maxRecDepth 20000 in
theorem ggX1_read_X1_request : GoodIn wsX1_read wsX1_request := goodIn_r _ [9, 10, 11, 12, 13, 14, 15, 4, 16, 17, 18, 19, 20, 21, 22, 23, 24, 25, 26, 27, 28, 29, 30, 31, 32, 33, 34, 35, 36, 37, 38, 39, 40, 41, 42, 43, 44, 45, 46, 47, 48, 49, 50, 3, 5, 51, 52, 53, 54, 55, 56, 57, 58, 59, 60, 61, 62, 63, 64, 65, 66, 67, 68, 69, 70, 71, 72, 73, 2, 74, 75, 76, 77, 78, 1, 79, 80, 81, 82, 83, 84, 85, 86, 87, 88, 89, 90, 91, 92, 93, 94, 95, 96, 97, 98, 99, 100, 101, 102, 103, 104, 105, 106, 107, 108, 109, 110, 111, 112, 113, 114, 115, 116, 117, 118, 119, 120, 121, 122, 123, 124, 125] (by decide +kernel) (by decide +kernel)
set_option maxRecDepth 20000 in
theorem gX1_read_X1_request : GoodIn wsX1_read (wsV RX1 71 RX1 yX1_request wsX1_request) := goodIn_app (goodIn_of _ (by decide +kernel)) ggX1_read_X1_request
theorem dX1_read_0 : decode cX1_read 0 = .ok (.iload_n 1, 1) := by decide +kernel
theorem dX1_read_1 : decode cX1_read 1 = .ok (.invokestatic 67, 3) := by decide +kernel
theorem dX1_read_4 : decode cX1_read 4 = .ok (.ifCond .ne 5, 3) := by decide +kernel
theorem dX1_read_7 : decode cX1_read 7 = .ok (.iconst 0, 1) := by decide +kernel
theorem dX1_read_8 : decode cX1_read 8 = .ok (.ireturn, 1) := by decide +kernel
theorem dX1_read_9 : decode cX1_read 9 = .ok (.aload_n 0, 1) := by decide +kernel
theorem dX1_read_10 : decode cX1_read 10 = .ok (.iload_n 1, 1) := by decide +kernel
theorem dX1_read_11 : decode cX1_read 11 = .ok (.invokevirtual 71, 3) := by decide +kernel
theorem dX1_read_14 : decode cX1_read 14 = .ok (.aload_n 0, 1) := by decide +kernel
theorem dX1_read_15 : decode cX1_read 15 = .ok (.getfield 25, 3) := by decide +kernel
theorem dX1_read_18 : decode cX1_read 18 = .ok (.iload_n 1, 1) := by decide +kernel
theorem dX1_read_19 : decode cX1_read 19 = .ok (.iaload, 1) := by decide +kernel
theorem dX1_read_20 : decode cX1_read 20 = .ok (.ireturn, 1) := by decide +kernel
set_option maxRecDepth 20000 in
theorem ggX1_write_X1_isAddress : GoodIn wsX1_write wsX1_isAddress := goodIn_r _ [6] (by decide +kernel) (by decide +kernel)
set_option maxRecDepth 20000 in
theorem gX1_write_X1_isAddress : GoodIn wsX1_write (va_wsS RX1 67 yX1_isAddress wsX1_isAddress) := goodIn_app (goodIn_of _ (by decide +kernel)) ggX1_write_X1_isAddress
set_option maxRecDepth 20000 in
theorem ggX1_write_X1_request : GoodIn wsX1_write wsX1_request := goodIn_r _ [10, 11, 12, 13, 14, 15, 16, 5, 17, 18, 19, 20, 21, 22, 23, 24, 25, 26, 27, 28, 29, 30, 31, 32, 33, 34, 35, 36, 37, 38, 39, 40, 41, 42, 43, 44, 45, 46, 47, 48, 49, 50, 51, 4, 6, 52, 53, 54, 55, 56, 57, 58, 59, 60, 61, 62, 63, 64, 65, 66, 67, 68, 69, 70, 71, 72, 2, 73, 3, 74, 75, 76, 77, 78, 1, 79, 80, 81, 82, 83, 84, 85, 86, 87, 88, 89, 90, 91, 92, 93, 94, 95, 96, 97, 98, 99, 100, 101, 102, 103, 104, 105, 106, 107, 108, 109, 110, 111, 112, 113, 114, 115, 116, 117, 118, 119, 120, 121, 122, 123, 124, 125] (by decide +kernel) (by decide +kernel)
set_option maxRecDepth 20000 in
theorem gX1_write_X1_request : GoodIn wsX1_write (wsV RX1 71 RX1 yX1_request wsX1_request) := goodIn_app (goodIn_of _ (by decide +kernel)) ggX1_write_X1_request
theorem dX1_write_0 : decode cX1_write 0 = .ok (.iload_n 1, 1) := by decide +kernel
theorem dX1_write_1 : decode cX1_write 1 = .ok (.invokestatic 67, 3) := by decide +kernel
theorem dX1_write_4 : decode cX1_write 4 = .ok (.ifCond .ne 5, 3) := by decide +kernel
theorem dX1_write_7 : decode cX1_write 7 = .ok (.iconst 0, 1) := by decide +kernel
theorem dX1_write_8 : decode cX1_write 8 = .ok (.ireturn, 1) := by decide +kernel
theorem dX1_write_9 : decode cX1_write 9 = .ok (.aload_n 0, 1) := by decide +kernel
theorem dX1_write_10 : decode cX1_write 10 = .ok (.iload_n 1, 1) := by decide +kernel
theorem dX1_write_11 : decode cX1_write 11 = .ok (.invokevirtual 71, 3) := by decide +kernel
theorem dX1_write_14 : decode cX1_write 14 = .ok (.aload_n 0, 1) := by decide +kernel
theorem dX1_write_15 : decode cX1_write 15 = .ok (.getfield 25, 3) := by decide +kernel
theorem dX1_write_18 : decode cX1_write 18 = .ok (.iload_n 1, 1) := by decide +kernel
theorem dX1_write_19 : decode cX1_write 19 = .ok (.iload_n 2, 1) := by decide +kernel
theorem dX1_write_20 : decode cX1_write 20 = .ok (.iastore, 1) := by decide +kernel
theorem dX1_write_21 : decode cX1_write 21 = .ok (.aload_n 0, 1) := by decide +kernel
theorem dX1_write_22 : decode cX1_write 22 = .ok (.getfield 29, 3) := by decide +kernel
theorem dX1_write_25 : decode cX1_write 25 = .ok (.iload_n 1, 1) := by decide +kernel
theorem dX1_write_26 : decode cX1_write 26 = .ok (.iconst 1, 1) := by decide +kernel
theorem dX1_write_27 : decode cX1_write 27 = .ok (.bastore, 1) := by decide +kernel
theorem dX1_write_28 : decode cX1_write 28 = .ok (.iconst 1, 1) := by decide +kernel
theorem dX1_write_29 : decode cX1_write 29 = .ok (.ireturn, 1) := by decide +kernel
set_option maxRecDepth 20000 in
theorem ggX1_flush_X1_writeBack : GoodIn wsX1_flush wsX1_writeBack := goodIn_r _ [6, 7, 8, 1, 9, 10, 11, 12, 13, 14, 15, 16, 17, 18, 19, 20] (by decide +kernel) (by decide +kernel)
set_option maxRecDepth 20000 in
theorem gX1_flush_X1_writeBack : GoodIn wsX1_flush (wsV RX1 75 RX1 yX1_writeBack wsX1_writeBack) := goodIn_app (goodIn_of _ (by decide +kernel)) ggX1_flush_X1_writeBack
theorem dX1_flush_0 : decode cX1_flush 0 = .ok (.iconst 0, 1) := by decide +kernel
theorem dX1_flush_1 : decode cX1_flush 1 = .ok (.istore_n 1, 1) := by decide +kernel
theorem dX1_flush_2 : decode cX1_flush 2 = .ok (.iconst 0, 1) := by decide +kernel
theorem dX1_flush_3 : decode cX1_flush 3 = .ok (.istore_n 2, 1) := by decide +kernel
theorem dX1_flush_4 : decode cX1_flush 4 = .ok (.iload_n 2, 1) := by decide +kernel
theorem dX1_flush_5 : decode cX1_flush 5 = .ok (.bipush 64, 2) := by decide +kernel
theorem dX1_flush_7 : decode cX1_flush 7 = .ok (.if_icmp .ge 26, 3) := by decide +kernel
theorem dX1_flush_10 : decode cX1_flush 10 = .ok (.aload_n 0, 1) := by decide +kernel
theorem dX1_flush_11 : decode cX1_flush 11 = .ok (.getfield 29, 3) := by decide +kernel
theorem dX1_flush_14 : decode cX1_flush 14 = .ok (.iload_n 2, 1) := by decide +kernel
theorem dX1_flush_15 : decode cX1_flush 15 = .ok (.baload, 1) := by decide +kernel
theorem dX1_flush_16 : decode cX1_flush 16 = .ok (.ifCond .eq 11, 3) := by decide +kernel
theorem dX1_flush_19 : decode cX1_flush 19 = .ok (.aload_n 0, 1) := by decide +kernel
theorem dX1_flush_20 : decode cX1_flush 20 = .ok (.iload_n 2, 1) := by decide +kernel
theorem dX1_flush_21 : decode cX1_flush 21 = .ok (.invokevirtual 75, 3) := by decide +kernel
theorem dX1_flush_24 : decode cX1_flush 24 = .ok (.iinc 1 1, 3) := by decide +kernel
theorem dX1_flush_27 : decode cX1_flush 27 = .ok (.iinc 2 1, 3) := by decide +kernel
theorem dX1_flush_30 : decode cX1_flush 30 = .ok (.goto (-26), 3) := by decide +kernel
theorem dX1_flush_33 : decode cX1_flush 33 = .ok (.iload_n 1, 1) := by decide +kernel
theorem dX1_flush_34 : decode cX1_flush 34 = .ok (.ireturn, 1) := by decide +kernel
set_option maxRecDepth 20000 in
theorem ggX1_whichList_X1_listNumbered : GoodIn wsX1_whichList wsX1_listNumbered := goodIn_r _ [5, 6, 7, 8, 9, 21, 22, 23, 24, 25, 26, 27, 28, 29, 30, 31, 32] (by decide +kernel) (by decide +kernel)
set_option maxRecDepth 20000 in
theorem gX1_whichList_X1_listNumbered : GoodIn wsX1_whichList (wsV RX1 78 RX1 yX1_listNumbered wsX1_listNumbered) := goodIn_app (goodIn_of _ (by decide +kernel)) ggX1_whichList_X1_listNumbered
set_option maxRecDepth 20000 in
theorem ggX1_whichList_X0_has : GoodIn wsX1_whichList wsX0_has := goodIn_r _ [14, 15, 16, 17, 13, 18, 19, 20, 33, 34] (by decide +kernel) (by decide +kernel)
set_option maxRecDepth 20000 in
theorem gX1_whichList_X0_has : GoodIn wsX1_whichList (wsV RX1 82 RX0 yX0_has wsX0_has) := goodIn_app (goodIn_of _ (by decide +kernel)) ggX1_whichList_X0_has
theorem dX1_whichList_0 : decode cX1_whichList 0 = .ok (.iconst 1, 1) := by decide +kernel
theorem dX1_whichList_1 : decode cX1_whichList 1 = .ok (.istore_n 2, 1) := by decide +kernel
theorem dX1_whichList_2 : decode cX1_whichList 2 = .ok (.iload_n 2, 1) := by decide +kernel
theorem dX1_whichList_3 : decode cX1_whichList 3 = .ok (.iconst 4, 1) := by decide +kernel
theorem dX1_whichList_4 : decode cX1_whichList 4 = .ok (.if_icmp .gt 23, 3) := by decide +kernel
theorem dX1_whichList_7 : decode cX1_whichList 7 = .ok (.aload_n 0, 1) := by decide +kernel
theorem dX1_whichList_8 : decode cX1_whichList 8 = .ok (.iload_n 2, 1) := by decide +kernel
theorem dX1_whichList_9 : decode cX1_whichList 9 = .ok (.invokevirtual 78, 3) := by decide +kernel
theorem dX1_whichList_12 : decode cX1_whichList 12 = .ok (.iload_n 1, 1) := by decide +kernel
theorem dX1_whichList_13 : decode cX1_whichList 13 = .ok (.invokevirtual 82, 3) := by decide +kernel
theorem dX1_whichList_16 : decode cX1_whichList 16 = .ok (.ifCond .eq 5, 3) := by decide +kernel
theorem dX1_whichList_19 : decode cX1_whichList 19 = .ok (.iload_n 2, 1) := by decide +kernel
theorem dX1_whichList_20 : decode cX1_whichList 20 = .ok (.ireturn, 1) := by decide +kernel
theorem dX1_whichList_21 : decode cX1_whichList 21 = .ok (.iinc 2 1, 3) := by decide +kernel
theorem dX1_whichList_24 : decode cX1_whichList 24 = .ok (.goto (-22), 3) := by decide +kernel
theorem dX1_whichList_27 : decode cX1_whichList 27 = .ok (.iconst 0, 1) := by decide +kernel
theorem dX1_whichList_28 : decode cX1_whichList 28 = .ok (.ireturn, 1) := by decide +kernel
set_option maxRecDepth 20000 in
theorem ggX1_at_X1_isList : GoodIn wsX1_at wsX1_isList := goodIn_r _ [4] (by decide +kernel) (by decide +kernel)
set_option maxRecDepth 20000 in
theorem gX1_at_X1_isList : GoodIn wsX1_at (va_wsS RX1 85 yX1_isList wsX1_isList) := goodIn_app (goodIn_of _ (by decide +kernel)) ggX1_at_X1_isList
set_option maxRecDepth 20000 in
theorem ggX1_at_X1_listNumbered : GoodIn wsX1_at wsX1_listNumbered := goodIn_r _ [8, 9, 10, 11, 12, 20, 21, 22, 23, 24, 25, 26, 27, 28, 29, 30, 31] (by decide +kernel) (by decide +kernel)
set_option maxRecDepth 20000 in
theorem gX1_at_X1_listNumbered : GoodIn wsX1_at (wsV RX1 78 RX1 yX1_listNumbered wsX1_listNumbered) := goodIn_app (goodIn_of _ (by decide +kernel)) ggX1_at_X1_listNumbered
set_option maxRecDepth 20000 in
theorem ggX1_at_X0_fromNewest : GoodIn wsX1_at wsX0_fromNewest := goodIn_r _ [17, 18, 19, 32, 33] (by decide +kernel) (by decide +kernel)
set_option maxRecDepth 20000 in
theorem gX1_at_X0_fromNewest : GoodIn wsX1_at (wsV RX1 88 RX0 yX0_fromNewest wsX0_fromNewest) := goodIn_app (goodIn_of _ (by decide +kernel)) ggX1_at_X0_fromNewest
theorem dX1_at_0 : decode cX1_at 0 = .ok (.iload_n 1, 1) := by decide +kernel
theorem dX1_at_1 : decode cX1_at 1 = .ok (.invokestatic 85, 3) := by decide +kernel
theorem dX1_at_4 : decode cX1_at 4 = .ok (.ifCond .eq 15, 3) := by decide +kernel
theorem dX1_at_7 : decode cX1_at 7 = .ok (.aload_n 0, 1) := by decide +kernel
theorem dX1_at_8 : decode cX1_at 8 = .ok (.iload_n 1, 1) := by decide +kernel
theorem dX1_at_9 : decode cX1_at 9 = .ok (.invokevirtual 78, 3) := by decide +kernel
theorem dX1_at_12 : decode cX1_at 12 = .ok (.iload_n 2, 1) := by decide +kernel
theorem dX1_at_13 : decode cX1_at 13 = .ok (.invokevirtual 88, 3) := by decide +kernel
theorem dX1_at_16 : decode cX1_at 16 = .ok (.goto 4, 3) := by decide +kernel
theorem dX1_at_19 : decode cX1_at 19 = .ok (.iconst (-1), 1) := by decide +kernel
theorem dX1_at_20 : decode cX1_at 20 = .ok (.ireturn, 1) := by decide +kernel
set_option maxRecDepth 20000 in
theorem ggX1_length_X1_isList : GoodIn wsX1_length wsX1_isList := goodIn_r _ [4] (by decide +kernel) (by decide +kernel)
set_option maxRecDepth 20000 in
theorem gX1_length_X1_isList : GoodIn wsX1_length (va_wsS RX1 85 yX1_isList wsX1_isList) := goodIn_app (goodIn_of _ (by decide +kernel)) ggX1_length_X1_isList
set_option maxRecDepth 20000 in
theorem ggX1_length_X1_listNumbered : GoodIn wsX1_length wsX1_listNumbered := goodIn_r _ [8, 9, 10, 11, 12, 19, 20, 21, 22, 23, 24, 25, 26, 27, 28, 29, 30] (by decide +kernel) (by decide +kernel)
set_option maxRecDepth 20000 in
theorem gX1_length_X1_listNumbered : GoodIn wsX1_length (wsV RX1 78 RX1 yX1_listNumbered wsX1_listNumbered) := goodIn_app (goodIn_of _ (by decide +kernel)) ggX1_length_X1_listNumbered
set_option maxRecDepth 20000 in
theorem ggX1_length_X0_size : GoodIn wsX1_length wsX0_size := goodIn_r _ [17, 18, 31, 32] (by decide +kernel) (by decide +kernel)
set_option maxRecDepth 20000 in
theorem gX1_length_X0_size : GoodIn wsX1_length (wsV RX1 92 RX0 yX0_size wsX0_size) := goodIn_app (goodIn_of _ (by decide +kernel)) ggX1_length_X0_size
theorem dX1_length_0 : decode cX1_length 0 = .ok (.iload_n 1, 1) := by decide +kernel
theorem dX1_length_1 : decode cX1_length 1 = .ok (.invokestatic 85, 3) := by decide +kernel
theorem dX1_length_4 : decode cX1_length 4 = .ok (.ifCond .eq 14, 3) := by decide +kernel
theorem dX1_length_7 : decode cX1_length 7 = .ok (.aload_n 0, 1) := by decide +kernel
theorem dX1_length_8 : decode cX1_length 8 = .ok (.iload_n 1, 1) := by decide +kernel
theorem dX1_length_9 : decode cX1_length 9 = .ok (.invokevirtual 78, 3) := by decide +kernel
theorem dX1_length_12 : decode cX1_length 12 = .ok (.invokevirtual 92, 3) := by decide +kernel
theorem dX1_length_15 : decode cX1_length 15 = .ok (.goto 4, 3) := by decide +kernel
theorem dX1_length_18 : decode cX1_length 18 = .ok (.iconst (-1), 1) := by decide +kernel
theorem dX1_length_19 : decode cX1_length 19 = .ok (.ireturn, 1) := by decide +kernel
theorem dX1_target_0 : decode cX1_target 0 = .ok (.aload_n 0, 1) := by decide +kernel
theorem dX1_target_1 : decode cX1_target 1 = .ok (.getfield 55, 3) := by decide +kernel
theorem dX1_target_4 : decode cX1_target 4 = .ok (.ireturn, 1) := by decide +kernel
theorem dX1_hits_0 : decode cX1_hits 0 = .ok (.aload_n 0, 1) := by decide +kernel
theorem dX1_hits_1 : decode cX1_hits 1 = .ok (.getfield 58, 3) := by decide +kernel
theorem dX1_hits_4 : decode cX1_hits 4 = .ok (.ireturn, 1) := by decide +kernel
theorem dX1_misses_0 : decode cX1_misses 0 = .ok (.aload_n 0, 1) := by decide +kernel
theorem dX1_misses_1 : decode cX1_misses 1 = .ok (.getfield 61, 3) := by decide +kernel
theorem dX1_misses_4 : decode cX1_misses 4 = .ok (.ireturn, 1) := by decide +kernel
set_option maxRecDepth 20000 in
theorem ggX1_store_X1_isAddress : GoodIn wsX1_store wsX1_isAddress := goodIn_r _ [5] (by decide +kernel) (by decide +kernel)
set_option maxRecDepth 20000 in
theorem gX1_store_X1_isAddress : GoodIn wsX1_store (va_wsS RX1 67 yX1_isAddress wsX1_isAddress) := goodIn_app (goodIn_of _ (by decide +kernel)) ggX1_store_X1_isAddress
theorem dX1_store_0 : decode cX1_store 0 = .ok (.iload_n 1, 1) := by decide +kernel
theorem dX1_store_1 : decode cX1_store 1 = .ok (.invokestatic 67, 3) := by decide +kernel
theorem dX1_store_4 : decode cX1_store 4 = .ok (.ifCond .eq 12, 3) := by decide +kernel
theorem dX1_store_7 : decode cX1_store 7 = .ok (.aload_n 0, 1) := by decide +kernel
theorem dX1_store_8 : decode cX1_store 8 = .ok (.getfield 33, 3) := by decide +kernel
theorem dX1_store_11 : decode cX1_store 11 = .ok (.iload_n 1, 1) := by decide +kernel
theorem dX1_store_12 : decode cX1_store 12 = .ok (.iaload, 1) := by decide +kernel
theorem dX1_store_13 : decode cX1_store 13 = .ok (.goto 4, 3) := by decide +kernel
theorem dX1_store_16 : decode cX1_store 16 = .ok (.iconst 0, 1) := by decide +kernel
theorem dX1_store_17 : decode cX1_store 17 = .ok (.ireturn, 1) := by decide +kernel
set_option maxRecDepth 20000 in
theorem ggX1_isDirty_X1_isAddress : GoodIn wsX1_isDirty wsX1_isAddress := goodIn_r _ [5] (by decide +kernel) (by decide +kernel)
set_option maxRecDepth 20000 in
theorem gX1_isDirty_X1_isAddress : GoodIn wsX1_isDirty (va_wsS RX1 67 yX1_isAddress wsX1_isAddress) := goodIn_app (goodIn_of _ (by decide +kernel)) ggX1_isDirty_X1_isAddress
theorem dX1_isDirty_0 : decode cX1_isDirty 0 = .ok (.iload_n 1, 1) := by decide +kernel
theorem dX1_isDirty_1 : decode cX1_isDirty 1 = .ok (.invokestatic 67, 3) := by decide +kernel
theorem dX1_isDirty_4 : decode cX1_isDirty 4 = .ok (.ifCond .eq 16, 3) := by decide +kernel
theorem dX1_isDirty_7 : decode cX1_isDirty 7 = .ok (.aload_n 0, 1) := by decide +kernel
theorem dX1_isDirty_8 : decode cX1_isDirty 8 = .ok (.getfield 29, 3) := by decide +kernel
theorem dX1_isDirty_11 : decode cX1_isDirty 11 = .ok (.iload_n 1, 1) := by decide +kernel
theorem dX1_isDirty_12 : decode cX1_isDirty 12 = .ok (.baload, 1) := by decide +kernel
theorem dX1_isDirty_13 : decode cX1_isDirty 13 = .ok (.ifCond .eq 7, 3) := by decide +kernel
theorem dX1_isDirty_16 : decode cX1_isDirty 16 = .ok (.iconst 1, 1) := by decide +kernel
theorem dX1_isDirty_17 : decode cX1_isDirty 17 = .ok (.goto 4, 3) := by decide +kernel
theorem dX1_isDirty_20 : decode cX1_isDirty 20 = .ok (.iconst 0, 1) := by decide +kernel
theorem dX1_isDirty_21 : decode cX1_isDirty 21 = .ok (.ireturn, 1) := by decide +kernel
theorem dX1_gone_0 : decode cX1_gone 0 = .ok (.aload_n 0, 1) := by decide +kernel
theorem dX1_gone_1 : decode cX1_gone 1 = .ok (.getfield 64, 3) := by decide +kernel
theorem dX1_gone_4 : decode cX1_gone 4 = .ok (.ireturn, 1) := by decide +kernel
theorem dX1_isAddress_0 : decode cX1_isAddress 0 = .ok (.iload_n 0, 1) := by decide +kernel
theorem dX1_isAddress_1 : decode cX1_isAddress 1 = .ok (.ifCond .lt 13, 3) := by decide +kernel
theorem dX1_isAddress_4 : decode cX1_isAddress 4 = .ok (.iload_n 0, 1) := by decide +kernel
theorem dX1_isAddress_5 : decode cX1_isAddress 5 = .ok (.bipush 64, 2) := by decide +kernel
theorem dX1_isAddress_7 : decode cX1_isAddress 7 = .ok (.if_icmp .ge 7, 3) := by decide +kernel
theorem dX1_isAddress_10 : decode cX1_isAddress 10 = .ok (.iconst 1, 1) := by decide +kernel
theorem dX1_isAddress_11 : decode cX1_isAddress 11 = .ok (.goto 4, 3) := by decide +kernel
theorem dX1_isAddress_14 : decode cX1_isAddress 14 = .ok (.iconst 0, 1) := by decide +kernel
theorem dX1_isAddress_15 : decode cX1_isAddress 15 = .ok (.ireturn, 1) := by decide +kernel
theorem dX1_isList_0 : decode cX1_isList 0 = .ok (.iload_n 0, 1) := by decide +kernel
theorem dX1_isList_1 : decode cX1_isList 1 = .ok (.iconst 1, 1) := by decide +kernel
theorem dX1_isList_2 : decode cX1_isList 2 = .ok (.if_icmp .lt 12, 3) := by decide +kernel
theorem dX1_isList_5 : decode cX1_isList 5 = .ok (.iload_n 0, 1) := by decide +kernel
theorem dX1_isList_6 : decode cX1_isList 6 = .ok (.iconst 4, 1) := by decide +kernel
theorem dX1_isList_7 : decode cX1_isList 7 = .ok (.if_icmp .gt 7, 3) := by decide +kernel
theorem dX1_isList_10 : decode cX1_isList 10 = .ok (.iconst 1, 1) := by decide +kernel
theorem dX1_isList_11 : decode cX1_isList 11 = .ok (.goto 4, 3) := by decide +kernel
theorem dX1_isList_14 : decode cX1_isList 14 = .ok (.iconst 0, 1) := by decide +kernel
theorem dX1_isList_15 : decode cX1_isList 15 = .ok (.ireturn, 1) := by decide +kernel
theorem dX1_listNumbered_0 : decode cX1_listNumbered 0 = .ok (.iload_n 1, 1) := by decide +kernel
theorem dX1_listNumbered_1 : decode cX1_listNumbered 1 = .ok (.tableswitch 42 1 3 #[27, 32, 37], 27) := by decide +kernel
theorem dX1_listNumbered_28 : decode cX1_listNumbered 28 = .ok (.aload_n 0, 1) := by decide +kernel
theorem dX1_listNumbered_29 : decode cX1_listNumbered 29 = .ok (.getfield 10, 3) := by decide +kernel
theorem dX1_listNumbered_32 : decode cX1_listNumbered 32 = .ok (.areturn, 1) := by decide +kernel
theorem dX1_listNumbered_33 : decode cX1_listNumbered 33 = .ok (.aload_n 0, 1) := by decide +kernel
theorem dX1_listNumbered_34 : decode cX1_listNumbered 34 = .ok (.getfield 16, 3) := by decide +kernel
theorem dX1_listNumbered_37 : decode cX1_listNumbered 37 = .ok (.areturn, 1) := by decide +kernel
theorem dX1_listNumbered_38 : decode cX1_listNumbered 38 = .ok (.aload_n 0, 1) := by decide +kernel
theorem dX1_listNumbered_39 : decode cX1_listNumbered 39 = .ok (.getfield 19, 3) := by decide +kernel
theorem dX1_listNumbered_42 : decode cX1_listNumbered 42 = .ok (.areturn, 1) := by decide +kernel
theorem dX1_listNumbered_43 : decode cX1_listNumbered 43 = .ok (.aload_n 0, 1) := by decide +kernel
theorem dX1_listNumbered_44 : decode cX1_listNumbered 44 = .ok (.getfield 22, 3) := by decide +kernel
theorem dX1_listNumbered_47 : decode cX1_listNumbered 47 = .ok (.areturn, 1) := by decide +kernel
set_option maxRecDepth 20000 in
theorem ggX1_request_X1_whichList : GoodIn wsX1_request wsX1_whichList := goodIn_r _ [8, 9, 10, 11, 7, 12, 3, 13, 14, 15, 16, 17, 18, 19, 20, 21, 22, 23, 24, 25, 26, 108, 109, 110, 111, 112, 113, 114, 115, 116, 117, 118, 119, 120, 121] (by decide +kernel) (by decide +kernel)
set_option maxRecDepth 20000 in
theorem gX1_request_X1_whichList : GoodIn wsX1_request (wsV RX1 96 RX1 yX1_whichList wsX1_whichList) := goodIn_app (goodIn_of _ (by decide +kernel)) ggX1_request_X1_whichList
set_option maxRecDepth 20000 in
theorem ggX1_request_X1_moveToCameAgain : GoodIn wsX1_request wsX1_moveToCameAgain := goodIn_r _ [30, 13, 9, 10, 11, 7, 12, 3, 14, 15, 31, 32, 33, 19, 34, 25, 26, 35, 36, 37, 38, 21, 22, 23, 24, 39, 40, 41, 42, 43, 44, 108, 109, 110, 111, 112, 113, 114, 115, 116, 117, 118, 119, 120, 121] (by decide +kernel) (by decide +kernel)
set_option maxRecDepth 20000 in
theorem gX1_request_X1_moveToCameAgain : GoodIn wsX1_request (wsV RX1 99 RX1 yX1_moveToCameAgain wsX1_moveToCameAgain) := goodIn_app (goodIn_of _ (by decide +kernel)) ggX1_request_X1_moveToCameAgain
set_option maxRecDepth 20000 in
theorem ggX1_request_X1_makeRoomForUnknown : GoodIn wsX1_request wsX1_makeRoomForUnknown := goodIn_r _ [48, 3, 14, 13, 15, 49, 50, 51, 52, 19, 53, 25, 54, 55, 56, 57, 58, 59, 60, 61, 26, 62, 63, 64, 7, 65, 66, 67, 68, 43, 44, 69, 70, 71, 72, 73, 74, 75, 76, 77, 78, 79, 80, 32, 33, 34, 35, 36, 37, 38, 21, 22, 23, 24, 81, 82, 83, 84, 85, 16, 17, 18, 20, 86, 87, 88, 89, 31, 39, 40, 41, 42, 108, 109, 110, 111, 112, 113, 114, 115, 116, 117, 118, 119, 120, 121] (by decide +kernel) (by decide +kernel)
set_option maxRecDepth 20000 in
theorem gX1_request_X1_makeRoomForUnknown : GoodIn wsX1_request (wsV RX1 103 RX1 yX1_makeRoomForUnknown wsX1_makeRoomForUnknown) := goodIn_app (goodIn_of _ (by decide +kernel)) ggX1_request_X1_makeRoomForUnknown
set_option maxRecDepth 20000 in
theorem ggX1_request_X0_addNewest : GoodIn wsX1_request wsX0_addNewest := goodIn_r _ [42, 25, 26, 43, 7, 44, 120, 121] (by decide +kernel) (by decide +kernel)
set_option maxRecDepth 20000 in
theorem gX1_request_X0_addNewest : GoodIn wsX1_request (wsV RX1 106 RX0 yX0_addNewest wsX0_addNewest) := goodIn_app (goodIn_of _ (by decide +kernel)) ggX1_request_X0_addNewest
set_option maxRecDepth 20000 in
theorem ggX1_request_X1_moveTarget : GoodIn wsX1_request wsX1_moveTarget := goodIn_r _ [93, 15, 14, 49, 85, 94, 95, 96, 97, 98, 99, 100, 50, 51, 52, 19, 53, 25, 101, 102, 7, 103, 108, 109, 110, 111, 112, 113, 114, 115, 116, 117, 118, 119, 120, 121] (by decide +kernel) (by decide +kernel)
set_option maxRecDepth 20000 in
theorem gX1_request_X1_moveTarget : GoodIn wsX1_request (wsV RX1 109 RX1 yX1_moveTarget wsX1_moveTarget) := goodIn_app (goodIn_of _ (by decide +kernel)) ggX1_request_X1_moveTarget
set_option maxRecDepth 20000 in
theorem ggX1_request_X1_makeRoom : GoodIn wsX1_request wsX1_makeRoom := goodIn_r _ [84, 3, 85, 15, 14, 13, 50, 51, 52, 19, 53, 25, 16, 17, 18, 20, 21, 22, 23, 24, 26, 86, 87, 88, 7, 89, 54, 55, 56, 57, 58, 59, 60, 61, 62, 63, 64, 65, 66, 67, 68, 43, 44, 69, 70, 71, 72, 73, 74, 31, 32, 33, 34, 35, 36, 37, 38, 39, 40, 41, 42, 108, 109, 110, 111, 112, 113, 114, 115, 116, 117, 118, 119, 120, 121] (by decide +kernel) (by decide +kernel)
set_option maxRecDepth 20000 in
theorem gX1_request_X1_makeRoom : GoodIn wsX1_request (wsV RX1 112 RX1 yX1_makeRoom wsX1_makeRoom) := goodIn_app (goodIn_of _ (by decide +kernel)) ggX1_request_X1_makeRoom
set_option maxRecDepth 20000 in
theorem ggX1_request_X1_bringPage : GoodIn wsX1_request wsX1_bringPage := goodIn_r _ [107, 74, 73, 66, 108, 109, 110, 111, 112, 113, 114, 115, 116, 117, 118, 119] (by decide +kernel) (by decide +kernel)
set_option maxRecDepth 20000 in
theorem gX1_request_X1_bringPage : GoodIn wsX1_request (wsV RX1 115 RX1 yX1_bringPage wsX1_bringPage) := goodIn_app (goodIn_of _ (by decide +kernel)) ggX1_request_X1_bringPage
theorem dX1_request_0 : decode cX1_request 0 = .ok (.aload_n 0, 1) := by decide +kernel
theorem dX1_request_1 : decode cX1_request 1 = .ok (.iload_n 1, 1) := by decide +kernel
theorem dX1_request_2 : decode cX1_request 2 = .ok (.invokevirtual 96, 3) := by decide +kernel
theorem dX1_request_5 : decode cX1_request 5 = .ok (.istore_n 2, 1) := by decide +kernel
theorem dX1_request_6 : decode cX1_request 6 = .ok (.iload_n 2, 1) := by decide +kernel
theorem dX1_request_7 : decode cX1_request 7 = .ok (.iconst 1, 1) := by decide +kernel
theorem dX1_request_8 : decode cX1_request 8 = .ok (.if_icmp .eq 8, 3) := by decide +kernel
theorem dX1_request_11 : decode cX1_request 11 = .ok (.iload_n 2, 1) := by decide +kernel
theorem dX1_request_12 : decode cX1_request 12 = .ok (.iconst 2, 1) := by decide +kernel
theorem dX1_request_13 : decode cX1_request 13 = .ok (.if_icmp .ne 20, 3) := by decide +kernel
theorem dX1_request_16 : decode cX1_request 16 = .ok (.aload_n 0, 1) := by decide +kernel
theorem dX1_request_17 : decode cX1_request 17 = .ok (.dup, 1) := by decide +kernel
theorem dX1_request_18 : decode cX1_request 18 = .ok (.getfield 58, 3) := by decide +kernel
theorem dX1_request_21 : decode cX1_request 21 = .ok (.iconst 1, 1) := by decide +kernel
theorem dX1_request_22 : decode cX1_request 22 = .ok (.iadd, 1) := by decide +kernel
theorem dX1_request_23 : decode cX1_request 23 = .ok (.putfield 58, 3) := by decide +kernel
theorem dX1_request_26 : decode cX1_request 26 = .ok (.aload_n 0, 1) := by decide +kernel
theorem dX1_request_27 : decode cX1_request 27 = .ok (.iload_n 1, 1) := by decide +kernel
theorem dX1_request_28 : decode cX1_request 28 = .ok (.iload_n 2, 1) := by decide +kernel
theorem dX1_request_29 : decode cX1_request 29 = .ok (.invokevirtual 99, 3) := by decide +kernel
theorem dX1_request_32 : decode cX1_request 32 = .ok (.return_, 1) := by decide +kernel
theorem dX1_request_33 : decode cX1_request 33 = .ok (.aload_n 0, 1) := by decide +kernel
theorem dX1_request_34 : decode cX1_request 34 = .ok (.dup, 1) := by decide +kernel
theorem dX1_request_35 : decode cX1_request 35 = .ok (.getfield 61, 3) := by decide +kernel
theorem dX1_request_38 : decode cX1_request 38 = .ok (.iconst 1, 1) := by decide +kernel
theorem dX1_request_39 : decode cX1_request 39 = .ok (.iadd, 1) := by decide +kernel
theorem dX1_request_40 : decode cX1_request 40 = .ok (.putfield 61, 3) := by decide +kernel
theorem dX1_request_43 : decode cX1_request 43 = .ok (.iload_n 2, 1) := by decide +kernel
theorem dX1_request_44 : decode cX1_request 44 = .ok (.ifCond .ne 19, 3) := by decide +kernel
theorem dX1_request_47 : decode cX1_request 47 = .ok (.aload_n 0, 1) := by decide +kernel
theorem dX1_request_48 : decode cX1_request 48 = .ok (.iload_n 1, 1) := by decide +kernel
theorem dX1_request_49 : decode cX1_request 49 = .ok (.invokevirtual 103, 3) := by decide +kernel
theorem dX1_request_52 : decode cX1_request 52 = .ok (.aload_n 0, 1) := by decide +kernel
theorem dX1_request_53 : decode cX1_request 53 = .ok (.getfield 10, 3) := by decide +kernel
theorem dX1_request_56 : decode cX1_request 56 = .ok (.iload_n 1, 1) := by decide +kernel
theorem dX1_request_57 : decode cX1_request 57 = .ok (.invokevirtual 106, 3) := by decide +kernel
theorem dX1_request_60 : decode cX1_request 60 = .ok (.goto 19, 3) := by decide +kernel
theorem dX1_request_63 : decode cX1_request 63 = .ok (.aload_n 0, 1) := by decide +kernel
theorem dX1_request_64 : decode cX1_request 64 = .ok (.iload_n 2, 1) := by decide +kernel
theorem dX1_request_65 : decode cX1_request 65 = .ok (.invokevirtual 109, 3) := by decide +kernel
theorem dX1_request_68 : decode cX1_request 68 = .ok (.aload_n 0, 1) := by decide +kernel
theorem dX1_request_69 : decode cX1_request 69 = .ok (.iload_n 1, 1) := by decide +kernel
theorem dX1_request_70 : decode cX1_request 70 = .ok (.invokevirtual 112, 3) := by decide +kernel
theorem dX1_request_73 : decode cX1_request 73 = .ok (.aload_n 0, 1) := by decide +kernel
theorem dX1_request_74 : decode cX1_request 74 = .ok (.iload_n 1, 1) := by decide +kernel
theorem dX1_request_75 : decode cX1_request 75 = .ok (.iload_n 2, 1) := by decide +kernel
theorem dX1_request_76 : decode cX1_request 76 = .ok (.invokevirtual 99, 3) := by decide +kernel
theorem dX1_request_79 : decode cX1_request 79 = .ok (.aload_n 0, 1) := by decide +kernel
theorem dX1_request_80 : decode cX1_request 80 = .ok (.iload_n 1, 1) := by decide +kernel
theorem dX1_request_81 : decode cX1_request 81 = .ok (.invokevirtual 115, 3) := by decide +kernel
theorem dX1_request_84 : decode cX1_request 84 = .ok (.return_, 1) := by decide +kernel
set_option maxRecDepth 20000 in
theorem ggX1_moveToCameAgain_X1_listNumbered : GoodIn wsX1_moveToCameAgain wsX1_listNumbered := goodIn_r _ [6, 7, 1, 8, 9, 31, 32, 33, 34, 35, 36, 37, 38, 39, 40, 41, 42] (by decide +kernel) (by decide +kernel)
set_option maxRecDepth 20000 in
theorem gX1_moveToCameAgain_X1_listNumbered : GoodIn wsX1_moveToCameAgain (wsV RX1 78 RX1 yX1_listNumbered wsX1_listNumbered) := goodIn_app (goodIn_of _ (by decide +kernel)) ggX1_moveToCameAgain_X1_listNumbered
set_option maxRecDepth 20000 in
theorem ggX1_moveToCameAgain_X0_remove : GoodIn wsX1_moveToCameAgain wsX0_remove := goodIn_r _ [14, 15, 16, 17, 18, 19, 20, 21, 22, 23, 13, 24, 43, 44] (by decide +kernel) (by decide +kernel)
set_option maxRecDepth 20000 in
theorem gX1_moveToCameAgain_X0_remove : GoodIn wsX1_moveToCameAgain (wsV RX1 118 RX0 yX0_remove wsX0_remove) := goodIn_app (goodIn_of _ (by decide +kernel)) ggX1_moveToCameAgain_X0_remove
set_option maxRecDepth 20000 in
theorem ggX1_moveToCameAgain_X0_addNewest : GoodIn wsX1_moveToCameAgain wsX0_addNewest := goodIn_r _ [28, 15, 16, 29, 5, 30, 43, 44] (by decide +kernel) (by decide +kernel)
set_option maxRecDepth 20000 in
theorem gX1_moveToCameAgain_X0_addNewest : GoodIn wsX1_moveToCameAgain (wsV RX1 106 RX0 yX0_addNewest wsX0_addNewest) := goodIn_app (goodIn_of _ (by decide +kernel)) ggX1_moveToCameAgain_X0_addNewest
theorem dX1_moveToCameAgain_0 : decode cX1_moveToCameAgain 0 = .ok (.aload_n 0, 1) := by decide +kernel
theorem dX1_moveToCameAgain_1 : decode cX1_moveToCameAgain 1 = .ok (.iload_n 2, 1) := by decide +kernel
theorem dX1_moveToCameAgain_2 : decode cX1_moveToCameAgain 2 = .ok (.invokevirtual 78, 3) := by decide +kernel
theorem dX1_moveToCameAgain_5 : decode cX1_moveToCameAgain 5 = .ok (.iload_n 1, 1) := by decide +kernel
theorem dX1_moveToCameAgain_6 : decode cX1_moveToCameAgain 6 = .ok (.invokevirtual 118, 3) := by decide +kernel
theorem dX1_moveToCameAgain_9 : decode cX1_moveToCameAgain 9 = .ok (.aload_n 0, 1) := by decide +kernel
theorem dX1_moveToCameAgain_10 : decode cX1_moveToCameAgain 10 = .ok (.getfield 16, 3) := by decide +kernel
theorem dX1_moveToCameAgain_13 : decode cX1_moveToCameAgain 13 = .ok (.iload_n 1, 1) := by decide +kernel
theorem dX1_moveToCameAgain_14 : decode cX1_moveToCameAgain 14 = .ok (.invokevirtual 106, 3) := by decide +kernel
theorem dX1_moveToCameAgain_17 : decode cX1_moveToCameAgain 17 = .ok (.return_, 1) := by decide +kernel
theorem dX1_bringPage_0 : decode cX1_bringPage 0 = .ok (.aload_n 0, 1) := by decide +kernel
theorem dX1_bringPage_1 : decode cX1_bringPage 1 = .ok (.getfield 25, 3) := by decide +kernel
theorem dX1_bringPage_4 : decode cX1_bringPage 4 = .ok (.iload_n 1, 1) := by decide +kernel
theorem dX1_bringPage_5 : decode cX1_bringPage 5 = .ok (.aload_n 0, 1) := by decide +kernel
theorem dX1_bringPage_6 : decode cX1_bringPage 6 = .ok (.getfield 33, 3) := by decide +kernel
theorem dX1_bringPage_9 : decode cX1_bringPage 9 = .ok (.iload_n 1, 1) := by decide +kernel
theorem dX1_bringPage_10 : decode cX1_bringPage 10 = .ok (.iaload, 1) := by decide +kernel
theorem dX1_bringPage_11 : decode cX1_bringPage 11 = .ok (.iastore, 1) := by decide +kernel
theorem dX1_bringPage_12 : decode cX1_bringPage 12 = .ok (.aload_n 0, 1) := by decide +kernel
theorem dX1_bringPage_13 : decode cX1_bringPage 13 = .ok (.getfield 29, 3) := by decide +kernel
theorem dX1_bringPage_16 : decode cX1_bringPage 16 = .ok (.iload_n 1, 1) := by decide +kernel
theorem dX1_bringPage_17 : decode cX1_bringPage 17 = .ok (.iconst 0, 1) := by decide +kernel
theorem dX1_bringPage_18 : decode cX1_bringPage 18 = .ok (.bastore, 1) := by decide +kernel
theorem dX1_bringPage_19 : decode cX1_bringPage 19 = .ok (.return_, 1) := by decide +kernel
set_option maxRecDepth 20000 in
theorem ggX1_moveTarget_X0_size : GoodIn wsX1_moveTarget wsX0_size := goodIn_r _ [16, 17, 34, 35] (by decide +kernel) (by decide +kernel)
set_option maxRecDepth 20000 in
theorem gX1_moveTarget_X0_size : GoodIn wsX1_moveTarget (wsV RX1 92 RX0 yX0_size wsX0_size) := goodIn_app (goodIn_of _ (by decide +kernel)) ggX1_moveTarget_X0_size
set_option maxRecDepth 20000 in
theorem ggX1_moveTarget_X1_stepOf : GoodIn wsX1_moveTarget wsX1_stepOf := goodIn_r _ [21, 9, 10, 7, 11] (by decide +kernel) (by decide +kernel)
set_option maxRecDepth 20000 in
theorem gX1_moveTarget_X1_stepOf : GoodIn wsX1_moveTarget (va_wsS RX1 121 yX1_stepOf wsX1_stepOf) := goodIn_app (goodIn_of _ (by decide +kernel)) ggX1_moveTarget_X1_stepOf
theorem dX1_moveTarget_0 : decode cX1_moveTarget 0 = .ok (.iload_n 1, 1) := by decide +kernel
theorem dX1_moveTarget_1 : decode cX1_moveTarget 1 = .ok (.iconst 3, 1) := by decide +kernel
theorem dX1_moveTarget_2 : decode cX1_moveTarget 2 = .ok (.if_icmp .ne 41, 3) := by decide +kernel
theorem dX1_moveTarget_5 : decode cX1_moveTarget 5 = .ok (.aload_n 0, 1) := by decide +kernel
theorem dX1_moveTarget_6 : decode cX1_moveTarget 6 = .ok (.getfield 22, 3) := by decide +kernel
theorem dX1_moveTarget_9 : decode cX1_moveTarget 9 = .ok (.invokevirtual 92, 3) := by decide +kernel
theorem dX1_moveTarget_12 : decode cX1_moveTarget 12 = .ok (.aload_n 0, 1) := by decide +kernel
theorem dX1_moveTarget_13 : decode cX1_moveTarget 13 = .ok (.getfield 19, 3) := by decide +kernel
theorem dX1_moveTarget_16 : decode cX1_moveTarget 16 = .ok (.invokevirtual 92, 3) := by decide +kernel
theorem dX1_moveTarget_19 : decode cX1_moveTarget 19 = .ok (.invokestatic 121, 3) := by decide +kernel
theorem dX1_moveTarget_22 : decode cX1_moveTarget 22 = .ok (.istore_n 2, 1) := by decide +kernel
theorem dX1_moveTarget_23 : decode cX1_moveTarget 23 = .ok (.aload_n 0, 1) := by decide +kernel
theorem dX1_moveTarget_24 : decode cX1_moveTarget 24 = .ok (.aload_n 0, 1) := by decide +kernel
theorem dX1_moveTarget_25 : decode cX1_moveTarget 25 = .ok (.getfield 42, 3) := by decide +kernel
theorem dX1_moveTarget_28 : decode cX1_moveTarget 28 = .ok (.aload_n 0, 1) := by decide +kernel
theorem dX1_moveTarget_29 : decode cX1_moveTarget 29 = .ok (.getfield 55, 3) := by decide +kernel
theorem dX1_moveTarget_32 : decode cX1_moveTarget 32 = .ok (.iload_n 2, 1) := by decide +kernel
theorem dX1_moveTarget_33 : decode cX1_moveTarget 33 = .ok (.iadd, 1) := by decide +kernel
theorem dX1_moveTarget_34 : decode cX1_moveTarget 34 = .ok (.invokestatic 124, 3) := by decide +kernel
theorem dX1_moveTarget_37 : decode cX1_moveTarget 37 = .ok (.putfield 55, 3) := by decide +kernel
theorem dX1_moveTarget_40 : decode cX1_moveTarget 40 = .ok (.goto 35, 3) := by decide +kernel
theorem dX1_moveTarget_43 : decode cX1_moveTarget 43 = .ok (.aload_n 0, 1) := by decide +kernel
theorem dX1_moveTarget_44 : decode cX1_moveTarget 44 = .ok (.getfield 19, 3) := by decide +kernel
theorem dX1_moveTarget_47 : decode cX1_moveTarget 47 = .ok (.invokevirtual 92, 3) := by decide +kernel
theorem dX1_moveTarget_50 : decode cX1_moveTarget 50 = .ok (.aload_n 0, 1) := by decide +kernel
theorem dX1_moveTarget_51 : decode cX1_moveTarget 51 = .ok (.getfield 22, 3) := by decide +kernel
theorem dX1_moveTarget_54 : decode cX1_moveTarget 54 = .ok (.invokevirtual 92, 3) := by decide +kernel
theorem dX1_moveTarget_57 : decode cX1_moveTarget 57 = .ok (.invokestatic 121, 3) := by decide +kernel
theorem dX1_moveTarget_60 : decode cX1_moveTarget 60 = .ok (.istore_n 2, 1) := by decide +kernel
theorem dX1_moveTarget_61 : decode cX1_moveTarget 61 = .ok (.aload_n 0, 1) := by decide +kernel
theorem dX1_moveTarget_62 : decode cX1_moveTarget 62 = .ok (.iconst 0, 1) := by decide +kernel
theorem dX1_moveTarget_63 : decode cX1_moveTarget 63 = .ok (.aload_n 0, 1) := by decide +kernel
theorem dX1_moveTarget_64 : decode cX1_moveTarget 64 = .ok (.getfield 55, 3) := by decide +kernel
theorem dX1_moveTarget_67 : decode cX1_moveTarget 67 = .ok (.iload_n 2, 1) := by decide +kernel
theorem dX1_moveTarget_68 : decode cX1_moveTarget 68 = .ok (.isub, 1) := by decide +kernel
theorem dX1_moveTarget_69 : decode cX1_moveTarget 69 = .ok (.invokestatic 127, 3) := by decide +kernel
theorem dX1_moveTarget_72 : decode cX1_moveTarget 72 = .ok (.putfield 55, 3) := by decide +kernel
theorem dX1_moveTarget_75 : decode cX1_moveTarget 75 = .ok (.return_, 1) := by decide +kernel
theorem dX1_stepOf_0 : decode cX1_stepOf 0 = .ok (.iload_n 1, 1) := by decide +kernel
theorem dX1_stepOf_1 : decode cX1_stepOf 1 = .ok (.ifCond .ne 7, 3) := by decide +kernel
theorem dX1_stepOf_4 : decode cX1_stepOf 4 = .ok (.iconst 1, 1) := by decide +kernel
theorem dX1_stepOf_5 : decode cX1_stepOf 5 = .ok (.goto 10, 3) := by decide +kernel
theorem dX1_stepOf_8 : decode cX1_stepOf 8 = .ok (.iconst 1, 1) := by decide +kernel
theorem dX1_stepOf_9 : decode cX1_stepOf 9 = .ok (.iload_n 0, 1) := by decide +kernel
theorem dX1_stepOf_10 : decode cX1_stepOf 10 = .ok (.iload_n 1, 1) := by decide +kernel
theorem dX1_stepOf_11 : decode cX1_stepOf 11 = .ok (.idiv, 1) := by decide +kernel
theorem dX1_stepOf_12 : decode cX1_stepOf 12 = .ok (.invokestatic 127, 3) := by decide +kernel
theorem dX1_stepOf_15 : decode cX1_stepOf 15 = .ok (.ireturn, 1) := by decide +kernel
set_option maxRecDepth 20000 in
theorem ggX1_makeRoom_X0_size : GoodIn wsX1_makeRoom wsX0_size := goodIn_r _ [10, 11, 73, 74] (by decide +kernel) (by decide +kernel)
set_option maxRecDepth 20000 in
theorem gX1_makeRoom_X0_size : GoodIn wsX1_makeRoom (wsV RX1 92 RX0 yX0_size wsX0_size) := goodIn_app (goodIn_of _ (by decide +kernel)) ggX1_makeRoom_X0_size
set_option maxRecDepth 20000 in
theorem ggX1_makeRoom_X0_has : GoodIn wsX1_makeRoom wsX0_has := goodIn_r _ [15, 16, 17, 18, 9, 19, 11, 20, 73, 74] (by decide +kernel) (by decide +kernel)
set_option maxRecDepth 20000 in
theorem gX1_makeRoom_X0_has : GoodIn wsX1_makeRoom (wsV RX1 82 RX0 yX0_has wsX0_has) := goodIn_app (goodIn_of _ (by decide +kernel)) ggX1_makeRoom_X0_has
set_option maxRecDepth 20000 in
theorem ggX1_makeRoom_X1_oldestGoes : GoodIn wsX1_makeRoom wsX1_oldestGoes := goodIn_r _ [25, 26, 27, 28, 9, 29, 11, 30, 31, 32, 33, 20, 34, 35, 36, 24, 37, 38, 39, 40, 41, 42, 43, 44, 45, 46, 47, 48, 49, 50, 51, 52, 53, 54, 55, 56, 16, 17, 18, 19, 57, 58, 59, 60, 73, 74, 61, 62, 63, 64, 65, 66, 67, 68, 69, 70, 71, 72] (by decide +kernel) (by decide +kernel)
set_option maxRecDepth 20000 in
theorem gX1_makeRoom_X1_oldestGoes : GoodIn wsX1_makeRoom (wsV RX1 130 RX1 yX1_oldestGoes wsX1_oldestGoes) := goodIn_app (goodIn_of _ (by decide +kernel)) ggX1_makeRoom_X1_oldestGoes
theorem dX1_makeRoom_0 : decode cX1_makeRoom 0 = .ok (.aload_n 0, 1) := by decide +kernel
theorem dX1_makeRoom_1 : decode cX1_makeRoom 1 = .ok (.getfield 10, 3) := by decide +kernel
theorem dX1_makeRoom_4 : decode cX1_makeRoom 4 = .ok (.invokevirtual 92, 3) := by decide +kernel
theorem dX1_makeRoom_7 : decode cX1_makeRoom 7 = .ok (.istore_n 2, 1) := by decide +kernel
theorem dX1_makeRoom_8 : decode cX1_makeRoom 8 = .ok (.iload_n 2, 1) := by decide +kernel
theorem dX1_makeRoom_9 : decode cX1_makeRoom 9 = .ok (.aload_n 0, 1) := by decide +kernel
theorem dX1_makeRoom_10 : decode cX1_makeRoom 10 = .ok (.getfield 55, 3) := by decide +kernel
theorem dX1_makeRoom_13 : decode cX1_makeRoom 13 = .ok (.if_icmp .ne 22, 3) := by decide +kernel
theorem dX1_makeRoom_16 : decode cX1_makeRoom 16 = .ok (.iload_n 2, 1) := by decide +kernel
theorem dX1_makeRoom_17 : decode cX1_makeRoom 17 = .ok (.ifCond .le 18, 3) := by decide +kernel
theorem dX1_makeRoom_20 : decode cX1_makeRoom 20 = .ok (.aload_n 0, 1) := by decide +kernel
theorem dX1_makeRoom_21 : decode cX1_makeRoom 21 = .ok (.getfield 22, 3) := by decide +kernel
theorem dX1_makeRoom_24 : decode cX1_makeRoom 24 = .ok (.iload_n 1, 1) := by decide +kernel
theorem dX1_makeRoom_25 : decode cX1_makeRoom 25 = .ok (.invokevirtual 82, 3) := by decide +kernel
theorem dX1_makeRoom_28 : decode cX1_makeRoom 28 = .ok (.ifCond .eq 7, 3) := by decide +kernel
theorem dX1_makeRoom_31 : decode cX1_makeRoom 31 = .ok (.iconst 1, 1) := by decide +kernel
theorem dX1_makeRoom_32 : decode cX1_makeRoom 32 = .ok (.goto 4, 3) := by decide +kernel
theorem dX1_makeRoom_35 : decode cX1_makeRoom 35 = .ok (.iconst 0, 1) := by decide +kernel
theorem dX1_makeRoom_36 : decode cX1_makeRoom 36 = .ok (.istore_n 3, 1) := by decide +kernel
theorem dX1_makeRoom_37 : decode cX1_makeRoom 37 = .ok (.iload_n 2, 1) := by decide +kernel
theorem dX1_makeRoom_38 : decode cX1_makeRoom 38 = .ok (.aload_n 0, 1) := by decide +kernel
theorem dX1_makeRoom_39 : decode cX1_makeRoom 39 = .ok (.getfield 55, 3) := by decide +kernel
theorem dX1_makeRoom_42 : decode cX1_makeRoom 42 = .ok (.if_icmp .gt 7, 3) := by decide +kernel
theorem dX1_makeRoom_45 : decode cX1_makeRoom 45 = .ok (.iload_n 3, 1) := by decide +kernel
theorem dX1_makeRoom_46 : decode cX1_makeRoom 46 = .ok (.ifCond .eq 18, 3) := by decide +kernel
theorem dX1_makeRoom_49 : decode cX1_makeRoom 49 = .ok (.aload_n 0, 1) := by decide +kernel
theorem dX1_makeRoom_50 : decode cX1_makeRoom 50 = .ok (.aload_n 0, 1) := by decide +kernel
theorem dX1_makeRoom_51 : decode cX1_makeRoom 51 = .ok (.getfield 10, 3) := by decide +kernel
theorem dX1_makeRoom_54 : decode cX1_makeRoom 54 = .ok (.aload_n 0, 1) := by decide +kernel
theorem dX1_makeRoom_55 : decode cX1_makeRoom 55 = .ok (.getfield 19, 3) := by decide +kernel
theorem dX1_makeRoom_58 : decode cX1_makeRoom 58 = .ok (.invokevirtual 130, 3) := by decide +kernel
theorem dX1_makeRoom_61 : decode cX1_makeRoom 61 = .ok (.goto 15, 3) := by decide +kernel
theorem dX1_makeRoom_64 : decode cX1_makeRoom 64 = .ok (.aload_n 0, 1) := by decide +kernel
theorem dX1_makeRoom_65 : decode cX1_makeRoom 65 = .ok (.aload_n 0, 1) := by decide +kernel
theorem dX1_makeRoom_66 : decode cX1_makeRoom 66 = .ok (.getfield 16, 3) := by decide +kernel
theorem dX1_makeRoom_69 : decode cX1_makeRoom 69 = .ok (.aload_n 0, 1) := by decide +kernel
theorem dX1_makeRoom_70 : decode cX1_makeRoom 70 = .ok (.getfield 22, 3) := by decide +kernel
theorem dX1_makeRoom_73 : decode cX1_makeRoom 73 = .ok (.invokevirtual 130, 3) := by decide +kernel
theorem dX1_makeRoom_76 : decode cX1_makeRoom 76 = .ok (.return_, 1) := by decide +kernel
set_option maxRecDepth 20000 in
theorem ggX1_makeRoomForUnknown_X0_size : GoodIn wsX1_makeRoomForUnknown wsX0_size := goodIn_r _ [10, 11, 84, 85] (by decide +kernel) (by decide +kernel)
set_option maxRecDepth 20000 in
theorem gX1_makeRoomForUnknown_X0_size : GoodIn wsX1_makeRoomForUnknown (wsV RX1 92 RX0 yX0_size wsX0_size) := goodIn_app (goodIn_of _ (by decide +kernel)) ggX1_makeRoomForUnknown_X0_size
set_option maxRecDepth 20000 in
theorem ggX1_makeRoomForUnknown_X0_oldest : GoodIn wsX1_makeRoomForUnknown wsX0_oldest := goodIn_r _ [15, 11, 16, 17, 18, 9, 19, 20, 84, 85] (by decide +kernel) (by decide +kernel)
set_option maxRecDepth 20000 in
theorem gX1_makeRoomForUnknown_X0_oldest : GoodIn wsX1_makeRoomForUnknown (wsV RX1 134 RX0 yX0_oldest wsX0_oldest) := goodIn_app (goodIn_of _ (by decide +kernel)) ggX1_makeRoomForUnknown_X0_oldest
set_option maxRecDepth 20000 in
theorem ggX1_makeRoomForUnknown_X1_pageGoes : GoodIn wsX1_makeRoomForUnknown wsX1_pageGoes := goodIn_r _ [25, 26, 27, 28, 29, 24, 30, 31, 32, 33, 34, 35, 36, 72, 73, 74, 75, 76, 77, 78, 79, 80, 81, 82, 83] (by decide +kernel) (by decide +kernel)
set_option maxRecDepth 20000 in
theorem gX1_makeRoomForUnknown_X1_pageGoes : GoodIn wsX1_makeRoomForUnknown (wsV RX1 137 RX1 yX1_pageGoes wsX1_pageGoes) := goodIn_app (goodIn_of _ (by decide +kernel)) ggX1_makeRoomForUnknown_X1_pageGoes
set_option maxRecDepth 20000 in
theorem ggX1_makeRoomForUnknown_X0_dropOldest : GoodIn wsX1_makeRoomForUnknown wsX0_dropOldest := goodIn_r _ [40, 41, 13, 14, 9, 15, 11, 16, 17, 18, 19, 20, 42, 43, 44, 45, 46, 47, 48, 49, 50, 51, 52, 53, 84, 85] (by decide +kernel) (by decide +kernel)
set_option maxRecDepth 20000 in
theorem gX1_makeRoomForUnknown_X0_dropOldest : GoodIn wsX1_makeRoomForUnknown (wsV RX1 140 RX0 yX0_dropOldest wsX0_dropOldest) := goodIn_app (goodIn_of _ (by decide +kernel)) ggX1_makeRoomForUnknown_X0_dropOldest
set_option maxRecDepth 20000 in
theorem ggX1_makeRoomForUnknown_X1_makeRoom : GoodIn wsX1_makeRoomForUnknown wsX1_makeRoom := goodIn_r _ [57, 1, 58, 4, 2, 3, 6, 7, 8, 9, 10, 11, 59, 60, 61, 62, 50, 51, 52, 53, 20, 63, 64, 65, 24, 66, 12, 13, 14, 15, 16, 17, 18, 19, 21, 22, 23, 25, 26, 27, 28, 29, 30, 31, 32, 33, 34, 35, 36, 67, 43, 44, 45, 46, 47, 48, 49, 68, 69, 70, 71, 72, 73, 74, 75, 76, 77, 78, 79, 80, 81, 82, 83, 84, 85] (by decide +kernel) (by decide +kernel)
set_option maxRecDepth 20000 in
theorem gX1_makeRoomForUnknown_X1_makeRoom : GoodIn wsX1_makeRoomForUnknown (wsV RX1 112 RX1 yX1_makeRoom wsX1_makeRoom) := goodIn_app (goodIn_of _ (by decide +kernel)) ggX1_makeRoomForUnknown_X1_makeRoom
theorem dX1_makeRoomForUnknown_0 : decode cX1_makeRoomForUnknown 0 = .ok (.aload_n 0, 1) := by decide +kernel
theorem dX1_makeRoomForUnknown_1 : decode cX1_makeRoomForUnknown 1 = .ok (.getfield 10, 3) := by decide +kernel
theorem dX1_makeRoomForUnknown_4 : decode cX1_makeRoomForUnknown 4 = .ok (.invokevirtual 92, 3) := by decide +kernel
theorem dX1_makeRoomForUnknown_7 : decode cX1_makeRoomForUnknown 7 = .ok (.aload_n 0, 1) := by decide +kernel
theorem dX1_makeRoomForUnknown_8 : decode cX1_makeRoomForUnknown 8 = .ok (.getfield 19, 3) := by decide +kernel
theorem dX1_makeRoomForUnknown_11 : decode cX1_makeRoomForUnknown 11 = .ok (.invokevirtual 92, 3) := by decide +kernel
theorem dX1_makeRoomForUnknown_14 : decode cX1_makeRoomForUnknown 14 = .ok (.iadd, 1) := by decide +kernel
theorem dX1_makeRoomForUnknown_15 : decode cX1_makeRoomForUnknown 15 = .ok (.istore_n 2, 1) := by decide +kernel
theorem dX1_makeRoomForUnknown_16 : decode cX1_makeRoomForUnknown 16 = .ok (.iload_n 2, 1) := by decide +kernel
theorem dX1_makeRoomForUnknown_17 : decode cX1_makeRoomForUnknown 17 = .ok (.aload_n 0, 1) := by decide +kernel
theorem dX1_makeRoomForUnknown_18 : decode cX1_makeRoomForUnknown 18 = .ok (.getfield 16, 3) := by decide +kernel
theorem dX1_makeRoomForUnknown_21 : decode cX1_makeRoomForUnknown 21 = .ok (.invokevirtual 92, 3) := by decide +kernel
theorem dX1_makeRoomForUnknown_24 : decode cX1_makeRoomForUnknown 24 = .ok (.iadd, 1) := by decide +kernel
theorem dX1_makeRoomForUnknown_25 : decode cX1_makeRoomForUnknown 25 = .ok (.aload_n 0, 1) := by decide +kernel
theorem dX1_makeRoomForUnknown_26 : decode cX1_makeRoomForUnknown 26 = .ok (.getfield 22, 3) := by decide +kernel
theorem dX1_makeRoomForUnknown_29 : decode cX1_makeRoomForUnknown 29 = .ok (.invokevirtual 92, 3) := by decide +kernel
theorem dX1_makeRoomForUnknown_32 : decode cX1_makeRoomForUnknown 32 = .ok (.iadd, 1) := by decide +kernel
theorem dX1_makeRoomForUnknown_33 : decode cX1_makeRoomForUnknown 33 = .ok (.istore_n 3, 1) := by decide +kernel
theorem dX1_makeRoomForUnknown_34 : decode cX1_makeRoomForUnknown 34 = .ok (.iload_n 2, 1) := by decide +kernel
theorem dX1_makeRoomForUnknown_35 : decode cX1_makeRoomForUnknown 35 = .ok (.aload_n 0, 1) := by decide +kernel
theorem dX1_makeRoomForUnknown_36 : decode cX1_makeRoomForUnknown 36 = .ok (.getfield 42, 3) := by decide +kernel
theorem dX1_makeRoomForUnknown_39 : decode cX1_makeRoomForUnknown 39 = .ok (.if_icmp .ne 38, 3) := by decide +kernel
theorem dX1_makeRoomForUnknown_42 : decode cX1_makeRoomForUnknown 42 = .ok (.aload_n 0, 1) := by decide +kernel
theorem dX1_makeRoomForUnknown_43 : decode cX1_makeRoomForUnknown 43 = .ok (.getfield 10, 3) := by decide +kernel
theorem dX1_makeRoomForUnknown_46 : decode cX1_makeRoomForUnknown 46 = .ok (.invokevirtual 92, 3) := by decide +kernel
theorem dX1_makeRoomForUnknown_49 : decode cX1_makeRoomForUnknown 49 = .ok (.aload_n 0, 1) := by decide +kernel
theorem dX1_makeRoomForUnknown_50 : decode cX1_makeRoomForUnknown 50 = .ok (.getfield 42, 3) := by decide +kernel
theorem dX1_makeRoomForUnknown_53 : decode cX1_makeRoomForUnknown 53 = .ok (.if_icmp .ne 24, 3) := by decide +kernel
theorem dX1_makeRoomForUnknown_56 : decode cX1_makeRoomForUnknown 56 = .ok (.aload_n 0, 1) := by decide +kernel
theorem dX1_makeRoomForUnknown_57 : decode cX1_makeRoomForUnknown 57 = .ok (.aload_n 0, 1) := by decide +kernel
theorem dX1_makeRoomForUnknown_58 : decode cX1_makeRoomForUnknown 58 = .ok (.getfield 10, 3) := by decide +kernel
theorem dX1_makeRoomForUnknown_61 : decode cX1_makeRoomForUnknown 61 = .ok (.invokevirtual 134, 3) := by decide +kernel
theorem dX1_makeRoomForUnknown_64 : decode cX1_makeRoomForUnknown 64 = .ok (.invokevirtual 137, 3) := by decide +kernel
theorem dX1_makeRoomForUnknown_67 : decode cX1_makeRoomForUnknown 67 = .ok (.aload_n 0, 1) := by decide +kernel
theorem dX1_makeRoomForUnknown_68 : decode cX1_makeRoomForUnknown 68 = .ok (.getfield 10, 3) := by decide +kernel
theorem dX1_makeRoomForUnknown_71 : decode cX1_makeRoomForUnknown 71 = .ok (.invokevirtual 140, 3) := by decide +kernel
theorem dX1_makeRoomForUnknown_74 : decode cX1_makeRoomForUnknown 74 = .ok (.goto 56, 3) := by decide +kernel
theorem dX1_makeRoomForUnknown_77 : decode cX1_makeRoomForUnknown 77 = .ok (.iload_n 2, 1) := by decide +kernel
theorem dX1_makeRoomForUnknown_78 : decode cX1_makeRoomForUnknown 78 = .ok (.aload_n 0, 1) := by decide +kernel
theorem dX1_makeRoomForUnknown_79 : decode cX1_makeRoomForUnknown 79 = .ok (.getfield 42, 3) := by decide +kernel
theorem dX1_makeRoomForUnknown_82 : decode cX1_makeRoomForUnknown 82 = .ok (.if_icmp .ne 18, 3) := by decide +kernel
theorem dX1_makeRoomForUnknown_85 : decode cX1_makeRoomForUnknown 85 = .ok (.aload_n 0, 1) := by decide +kernel
theorem dX1_makeRoomForUnknown_86 : decode cX1_makeRoomForUnknown 86 = .ok (.getfield 19, 3) := by decide +kernel
theorem dX1_makeRoomForUnknown_89 : decode cX1_makeRoomForUnknown 89 = .ok (.invokevirtual 140, 3) := by decide +kernel
theorem dX1_makeRoomForUnknown_92 : decode cX1_makeRoomForUnknown 92 = .ok (.aload_n 0, 1) := by decide +kernel
theorem dX1_makeRoomForUnknown_93 : decode cX1_makeRoomForUnknown 93 = .ok (.iload_n 1, 1) := by decide +kernel
theorem dX1_makeRoomForUnknown_94 : decode cX1_makeRoomForUnknown 94 = .ok (.invokevirtual 112, 3) := by decide +kernel
theorem dX1_makeRoomForUnknown_97 : decode cX1_makeRoomForUnknown 97 = .ok (.goto 33, 3) := by decide +kernel
theorem dX1_makeRoomForUnknown_100 : decode cX1_makeRoomForUnknown 100 = .ok (.iload_n 3, 1) := by decide +kernel
theorem dX1_makeRoomForUnknown_101 : decode cX1_makeRoomForUnknown 101 = .ok (.aload_n 0, 1) := by decide +kernel
theorem dX1_makeRoomForUnknown_102 : decode cX1_makeRoomForUnknown 102 = .ok (.getfield 42, 3) := by decide +kernel
theorem dX1_makeRoomForUnknown_105 : decode cX1_makeRoomForUnknown 105 = .ok (.if_icmp .lt 25, 3) := by decide +kernel
theorem dX1_makeRoomForUnknown_108 : decode cX1_makeRoomForUnknown 108 = .ok (.iload_n 3, 1) := by decide +kernel
theorem dX1_makeRoomForUnknown_109 : decode cX1_makeRoomForUnknown 109 = .ok (.iconst 2, 1) := by decide +kernel
theorem dX1_makeRoomForUnknown_110 : decode cX1_makeRoomForUnknown 110 = .ok (.aload_n 0, 1) := by decide +kernel
theorem dX1_makeRoomForUnknown_111 : decode cX1_makeRoomForUnknown 111 = .ok (.getfield 42, 3) := by decide +kernel
theorem dX1_makeRoomForUnknown_114 : decode cX1_makeRoomForUnknown 114 = .ok (.imul, 1) := by decide +kernel
theorem dX1_makeRoomForUnknown_115 : decode cX1_makeRoomForUnknown 115 = .ok (.if_icmp .ne 10, 3) := by decide +kernel
theorem dX1_makeRoomForUnknown_118 : decode cX1_makeRoomForUnknown 118 = .ok (.aload_n 0, 1) := by decide +kernel
theorem dX1_makeRoomForUnknown_119 : decode cX1_makeRoomForUnknown 119 = .ok (.getfield 22, 3) := by decide +kernel
theorem dX1_makeRoomForUnknown_122 : decode cX1_makeRoomForUnknown 122 = .ok (.invokevirtual 140, 3) := by decide +kernel
theorem dX1_makeRoomForUnknown_125 : decode cX1_makeRoomForUnknown 125 = .ok (.aload_n 0, 1) := by decide +kernel
theorem dX1_makeRoomForUnknown_126 : decode cX1_makeRoomForUnknown 126 = .ok (.iload_n 1, 1) := by decide +kernel
theorem dX1_makeRoomForUnknown_127 : decode cX1_makeRoomForUnknown 127 = .ok (.invokevirtual 112, 3) := by decide +kernel
theorem dX1_makeRoomForUnknown_130 : decode cX1_makeRoomForUnknown 130 = .ok (.return_, 1) := by decide +kernel
set_option maxRecDepth 20000 in
theorem ggX1_oldestGoes_X0_oldest : GoodIn wsX1_oldestGoes wsX0_oldest := goodIn_r _ [5, 6, 7, 8, 9, 4, 10, 11, 44, 45] (by decide +kernel) (by decide +kernel)
set_option maxRecDepth 20000 in
theorem gX1_oldestGoes_X0_oldest : GoodIn wsX1_oldestGoes (wsV RX1 134 RX0 yX0_oldest wsX0_oldest) := goodIn_app (goodIn_of _ (by decide +kernel)) ggX1_oldestGoes_X0_oldest
set_option maxRecDepth 20000 in
theorem ggX1_oldestGoes_X1_pageGoes : GoodIn wsX1_oldestGoes wsX1_pageGoes := goodIn_r _ [16, 17, 18, 19, 20, 15, 21, 22, 23, 24, 25, 26, 27, 46, 47, 48, 49, 50, 51, 52, 53, 54, 55, 56, 57] (by decide +kernel) (by decide +kernel)
set_option maxRecDepth 20000 in
theorem gX1_oldestGoes_X1_pageGoes : GoodIn wsX1_oldestGoes (wsV RX1 137 RX1 yX1_pageGoes wsX1_pageGoes) := goodIn_app (goodIn_of _ (by decide +kernel)) ggX1_oldestGoes_X1_pageGoes
set_option maxRecDepth 20000 in
theorem ggX1_oldestGoes_X0_remove : GoodIn wsX1_oldestGoes wsX0_remove := goodIn_r _ [31, 6, 11, 32, 33, 34, 35, 36, 37, 38, 4, 39, 44, 45] (by decide +kernel) (by decide +kernel)
set_option maxRecDepth 20000 in
theorem gX1_oldestGoes_X0_remove : GoodIn wsX1_oldestGoes (wsV RX1 118 RX0 yX0_remove wsX0_remove) := goodIn_app (goodIn_of _ (by decide +kernel)) ggX1_oldestGoes_X0_remove
set_option maxRecDepth 20000 in
theorem ggX1_oldestGoes_X0_addNewest : GoodIn wsX1_oldestGoes wsX0_addNewest := goodIn_r _ [43, 6, 11, 20, 15, 21, 44, 45] (by decide +kernel) (by decide +kernel)
set_option maxRecDepth 20000 in
theorem gX1_oldestGoes_X0_addNewest : GoodIn wsX1_oldestGoes (wsV RX1 106 RX0 yX0_addNewest wsX0_addNewest) := goodIn_app (goodIn_of _ (by decide +kernel)) ggX1_oldestGoes_X0_addNewest
theorem dX1_oldestGoes_0 : decode cX1_oldestGoes 0 = .ok (.aload_n 1, 1) := by decide +kernel
theorem dX1_oldestGoes_1 : decode cX1_oldestGoes 1 = .ok (.invokevirtual 134, 3) := by decide +kernel
theorem dX1_oldestGoes_4 : decode cX1_oldestGoes 4 = .ok (.istore_n 3, 1) := by decide +kernel
theorem dX1_oldestGoes_5 : decode cX1_oldestGoes 5 = .ok (.aload_n 0, 1) := by decide +kernel
theorem dX1_oldestGoes_6 : decode cX1_oldestGoes 6 = .ok (.iload_n 3, 1) := by decide +kernel
theorem dX1_oldestGoes_7 : decode cX1_oldestGoes 7 = .ok (.invokevirtual 137, 3) := by decide +kernel
theorem dX1_oldestGoes_10 : decode cX1_oldestGoes 10 = .ok (.aload_n 1, 1) := by decide +kernel
theorem dX1_oldestGoes_11 : decode cX1_oldestGoes 11 = .ok (.iload_n 3, 1) := by decide +kernel
theorem dX1_oldestGoes_12 : decode cX1_oldestGoes 12 = .ok (.invokevirtual 118, 3) := by decide +kernel
theorem dX1_oldestGoes_15 : decode cX1_oldestGoes 15 = .ok (.aload_n 2, 1) := by decide +kernel
theorem dX1_oldestGoes_16 : decode cX1_oldestGoes 16 = .ok (.iload_n 3, 1) := by decide +kernel
theorem dX1_oldestGoes_17 : decode cX1_oldestGoes 17 = .ok (.invokevirtual 106, 3) := by decide +kernel
theorem dX1_oldestGoes_20 : decode cX1_oldestGoes 20 = .ok (.return_, 1) := by decide +kernel
set_option maxRecDepth 20000 in
theorem ggX1_pageGoes_X1_isAddress : GoodIn wsX1_pageGoes wsX1_isAddress := goodIn_r _ [6] (by decide +kernel) (by decide +kernel)
set_option maxRecDepth 20000 in
theorem gX1_pageGoes_X1_isAddress : GoodIn wsX1_pageGoes (va_wsS RX1 67 yX1_isAddress wsX1_isAddress) := goodIn_app (goodIn_of _ (by decide +kernel)) ggX1_pageGoes_X1_isAddress
set_option maxRecDepth 20000 in
theorem ggX1_pageGoes_X1_writeBack : GoodIn wsX1_pageGoes wsX1_writeBack := goodIn_r _ [10, 11, 12, 1, 13, 14, 15, 16, 17, 18, 19, 20, 21, 22, 23, 24] (by decide +kernel) (by decide +kernel)
set_option maxRecDepth 20000 in
theorem gX1_pageGoes_X1_writeBack : GoodIn wsX1_pageGoes (wsV RX1 75 RX1 yX1_writeBack wsX1_writeBack) := goodIn_app (goodIn_of _ (by decide +kernel)) ggX1_pageGoes_X1_writeBack
theorem dX1_pageGoes_0 : decode cX1_pageGoes 0 = .ok (.iload_n 1, 1) := by decide +kernel
theorem dX1_pageGoes_1 : decode cX1_pageGoes 1 = .ok (.invokestatic 67, 3) := by decide +kernel
theorem dX1_pageGoes_4 : decode cX1_pageGoes 4 = .ok (.ifCond .ne 4, 3) := by decide +kernel
theorem dX1_pageGoes_7 : decode cX1_pageGoes 7 = .ok (.return_, 1) := by decide +kernel
theorem dX1_pageGoes_8 : decode cX1_pageGoes 8 = .ok (.aload_n 0, 1) := by decide +kernel
theorem dX1_pageGoes_9 : decode cX1_pageGoes 9 = .ok (.getfield 29, 3) := by decide +kernel
theorem dX1_pageGoes_12 : decode cX1_pageGoes 12 = .ok (.iload_n 1, 1) := by decide +kernel
theorem dX1_pageGoes_13 : decode cX1_pageGoes 13 = .ok (.baload, 1) := by decide +kernel
theorem dX1_pageGoes_14 : decode cX1_pageGoes 14 = .ok (.ifCond .eq 8, 3) := by decide +kernel
theorem dX1_pageGoes_17 : decode cX1_pageGoes 17 = .ok (.aload_n 0, 1) := by decide +kernel
theorem dX1_pageGoes_18 : decode cX1_pageGoes 18 = .ok (.iload_n 1, 1) := by decide +kernel
theorem dX1_pageGoes_19 : decode cX1_pageGoes 19 = .ok (.invokevirtual 75, 3) := by decide +kernel
theorem dX1_pageGoes_22 : decode cX1_pageGoes 22 = .ok (.aload_n 0, 1) := by decide +kernel
theorem dX1_pageGoes_23 : decode cX1_pageGoes 23 = .ok (.dup, 1) := by decide +kernel
theorem dX1_pageGoes_24 : decode cX1_pageGoes 24 = .ok (.getfield 64, 3) := by decide +kernel
theorem dX1_pageGoes_27 : decode cX1_pageGoes 27 = .ok (.iconst 1, 1) := by decide +kernel
theorem dX1_pageGoes_28 : decode cX1_pageGoes 28 = .ok (.iadd, 1) := by decide +kernel
theorem dX1_pageGoes_29 : decode cX1_pageGoes 29 = .ok (.putfield 64, 3) := by decide +kernel
theorem dX1_pageGoes_32 : decode cX1_pageGoes 32 = .ok (.return_, 1) := by decide +kernel
theorem dX1_writeBack_0 : decode cX1_writeBack 0 = .ok (.aload_n 0, 1) := by decide +kernel
theorem dX1_writeBack_1 : decode cX1_writeBack 1 = .ok (.getfield 33, 3) := by decide +kernel
theorem dX1_writeBack_4 : decode cX1_writeBack 4 = .ok (.iload_n 1, 1) := by decide +kernel
theorem dX1_writeBack_5 : decode cX1_writeBack 5 = .ok (.aload_n 0, 1) := by decide +kernel
theorem dX1_writeBack_6 : decode cX1_writeBack 6 = .ok (.getfield 25, 3) := by decide +kernel
theorem dX1_writeBack_9 : decode cX1_writeBack 9 = .ok (.iload_n 1, 1) := by decide +kernel
theorem dX1_writeBack_10 : decode cX1_writeBack 10 = .ok (.iaload, 1) := by decide +kernel
theorem dX1_writeBack_11 : decode cX1_writeBack 11 = .ok (.iastore, 1) := by decide +kernel
theorem dX1_writeBack_12 : decode cX1_writeBack 12 = .ok (.aload_n 0, 1) := by decide +kernel
theorem dX1_writeBack_13 : decode cX1_writeBack 13 = .ok (.getfield 29, 3) := by decide +kernel
theorem dX1_writeBack_16 : decode cX1_writeBack 16 = .ok (.iload_n 1, 1) := by decide +kernel
theorem dX1_writeBack_17 : decode cX1_writeBack 17 = .ok (.iconst 0, 1) := by decide +kernel
theorem dX1_writeBack_18 : decode cX1_writeBack 18 = .ok (.bastore, 1) := by decide +kernel
theorem dX1_writeBack_19 : decode cX1_writeBack 19 = .ok (.return_, 1) := by decide +kernel
theorem dX2_init_0 : decode cX2_init 0 = .ok (.aload_n 0, 1) := by decide +kernel
theorem dX2_init_1 : decode cX2_init 1 = .ok (.invokespecial 1, 3) := by decide +kernel
theorem dX2_init_4 : decode cX2_init 4 = .ok (.aload_n 0, 1) := by decide +kernel
theorem dX2_init_5 : decode cX2_init 5 = .ok (.sipush 320, 3) := by decide +kernel
theorem dX2_init_8 : decode cX2_init 8 = .ok (.newarray .int, 2) := by decide +kernel
theorem dX2_init_10 : decode cX2_init 10 = .ok (.putfield 7, 3) := by decide +kernel
theorem dX2_init_13 : decode cX2_init 13 = .ok (.aload_n 0, 1) := by decide +kernel
theorem dX2_init_14 : decode cX2_init 14 = .ok (.iconst 5, 1) := by decide +kernel
theorem dX2_init_15 : decode cX2_init 15 = .ok (.newarray .int, 2) := by decide +kernel
theorem dX2_init_17 : decode cX2_init 17 = .ok (.putfield 13, 3) := by decide +kernel
theorem dX2_init_20 : decode cX2_init 20 = .ok (.aload_n 0, 1) := by decide +kernel
theorem dX2_init_21 : decode cX2_init 21 = .ok (.bipush 64, 2) := by decide +kernel
theorem dX2_init_23 : decode cX2_init 23 = .ok (.newarray .int, 2) := by decide +kernel
theorem dX2_init_25 : decode cX2_init 25 = .ok (.putfield 16, 3) := by decide +kernel
theorem dX2_init_28 : decode cX2_init 28 = .ok (.aload_n 0, 1) := by decide +kernel
theorem dX2_init_29 : decode cX2_init 29 = .ok (.bipush 64, 2) := by decide +kernel
theorem dX2_init_31 : decode cX2_init 31 = .ok (.newarray .int, 2) := by decide +kernel
theorem dX2_init_33 : decode cX2_init 33 = .ok (.putfield 19, 3) := by decide +kernel
theorem dX2_init_36 : decode cX2_init 36 = .ok (.aload_n 0, 1) := by decide +kernel
theorem dX2_init_37 : decode cX2_init 37 = .ok (.bipush 64, 2) := by decide +kernel
theorem dX2_init_39 : decode cX2_init 39 = .ok (.newarray .boolean, 2) := by decide +kernel
theorem dX2_init_41 : decode cX2_init 41 = .ok (.putfield 22, 3) := by decide +kernel
theorem dX2_init_44 : decode cX2_init 44 = .ok (.iload_n 1, 1) := by decide +kernel
theorem dX2_init_45 : decode cX2_init 45 = .ok (.bipush 24, 2) := by decide +kernel
theorem dX2_init_47 : decode cX2_init 47 = .ok (.irem, 1) := by decide +kernel
theorem dX2_init_48 : decode cX2_init 48 = .ok (.istore_n 2, 1) := by decide +kernel
theorem dX2_init_49 : decode cX2_init 49 = .ok (.aload_n 0, 1) := by decide +kernel
theorem dX2_init_50 : decode cX2_init 50 = .ok (.iconst 1, 1) := by decide +kernel
theorem dX2_init_51 : decode cX2_init 51 = .ok (.iload_n 2, 1) := by decide +kernel
theorem dX2_init_52 : decode cX2_init 52 = .ok (.ifCond .ge 10, 3) := by decide +kernel
theorem dX2_init_55 : decode cX2_init 55 = .ok (.iload_n 2, 1) := by decide +kernel
theorem dX2_init_56 : decode cX2_init 56 = .ok (.bipush 24, 2) := by decide +kernel
theorem dX2_init_58 : decode cX2_init 58 = .ok (.iadd, 1) := by decide +kernel
theorem dX2_init_59 : decode cX2_init 59 = .ok (.goto 4, 3) := by decide +kernel
theorem dX2_init_62 : decode cX2_init 62 = .ok (.iload_n 2, 1) := by decide +kernel
theorem dX2_init_63 : decode cX2_init 63 = .ok (.iadd, 1) := by decide +kernel
theorem dX2_init_64 : decode cX2_init 64 = .ok (.putfield 26, 3) := by decide +kernel
theorem dX2_init_67 : decode cX2_init 67 = .ok (.return_, 1) := by decide +kernel
theorem dX2_init__0 : decode cX2_init_ 0 = .ok (.iconst 0, 1) := by decide +kernel
theorem dX2_init__1 : decode cX2_init_ 1 = .ok (.istore_n 1, 1) := by decide +kernel
theorem dX2_init__2 : decode cX2_init_ 2 = .ok (.iload_n 1, 1) := by decide +kernel
theorem dX2_init__3 : decode cX2_init_ 3 = .ok (.iconst 5, 1) := by decide +kernel
theorem dX2_init__4 : decode cX2_init_ 4 = .ok (.if_icmp .ge 16, 3) := by decide +kernel
theorem dX2_init__7 : decode cX2_init_ 7 = .ok (.aload_n 0, 1) := by decide +kernel
theorem dX2_init__8 : decode cX2_init_ 8 = .ok (.getfield 13, 3) := by decide +kernel
theorem dX2_init__11 : decode cX2_init_ 11 = .ok (.iload_n 1, 1) := by decide +kernel
theorem dX2_init__12 : decode cX2_init_ 12 = .ok (.iconst 0, 1) := by decide +kernel
theorem dX2_init__13 : decode cX2_init_ 13 = .ok (.iastore, 1) := by decide +kernel
theorem dX2_init__14 : decode cX2_init_ 14 = .ok (.iinc 1 1, 3) := by decide +kernel
theorem dX2_init__17 : decode cX2_init_ 17 = .ok (.goto (-15), 3) := by decide +kernel
theorem dX2_init__20 : decode cX2_init_ 20 = .ok (.iconst 0, 1) := by decide +kernel
theorem dX2_init__21 : decode cX2_init_ 21 = .ok (.istore_n 1, 1) := by decide +kernel
theorem dX2_init__22 : decode cX2_init_ 22 = .ok (.iload_n 1, 1) := by decide +kernel
theorem dX2_init__23 : decode cX2_init_ 23 = .ok (.bipush 64, 2) := by decide +kernel
theorem dX2_init__25 : decode cX2_init_ 25 = .ok (.if_icmp .ge 30, 3) := by decide +kernel
theorem dX2_init__28 : decode cX2_init_ 28 = .ok (.aload_n 0, 1) := by decide +kernel
theorem dX2_init__29 : decode cX2_init_ 29 = .ok (.getfield 16, 3) := by decide +kernel
theorem dX2_init__32 : decode cX2_init_ 32 = .ok (.iload_n 1, 1) := by decide +kernel
theorem dX2_init__33 : decode cX2_init_ 33 = .ok (.iconst 0, 1) := by decide +kernel
theorem dX2_init__34 : decode cX2_init_ 34 = .ok (.iastore, 1) := by decide +kernel
theorem dX2_init__35 : decode cX2_init_ 35 = .ok (.aload_n 0, 1) := by decide +kernel
theorem dX2_init__36 : decode cX2_init_ 36 = .ok (.getfield 19, 3) := by decide +kernel
theorem dX2_init__39 : decode cX2_init_ 39 = .ok (.iload_n 1, 1) := by decide +kernel
theorem dX2_init__40 : decode cX2_init_ 40 = .ok (.iconst 0, 1) := by decide +kernel
theorem dX2_init__41 : decode cX2_init_ 41 = .ok (.iastore, 1) := by decide +kernel
theorem dX2_init__42 : decode cX2_init_ 42 = .ok (.aload_n 0, 1) := by decide +kernel
theorem dX2_init__43 : decode cX2_init_ 43 = .ok (.getfield 22, 3) := by decide +kernel
theorem dX2_init__46 : decode cX2_init_ 46 = .ok (.iload_n 1, 1) := by decide +kernel
theorem dX2_init__47 : decode cX2_init_ 47 = .ok (.iconst 0, 1) := by decide +kernel
theorem dX2_init__48 : decode cX2_init_ 48 = .ok (.bastore, 1) := by decide +kernel
theorem dX2_init__49 : decode cX2_init_ 49 = .ok (.iinc 1 1, 3) := by decide +kernel
theorem dX2_init__52 : decode cX2_init_ 52 = .ok (.goto (-30), 3) := by decide +kernel
theorem dX2_init__55 : decode cX2_init_ 55 = .ok (.aload_n 0, 1) := by decide +kernel
theorem dX2_init__56 : decode cX2_init_ 56 = .ok (.iconst 0, 1) := by decide +kernel
theorem dX2_init__57 : decode cX2_init_ 57 = .ok (.putfield 30, 3) := by decide +kernel
theorem dX2_init__60 : decode cX2_init_ 60 = .ok (.aload_n 0, 1) := by decide +kernel
theorem dX2_init__61 : decode cX2_init_ 61 = .ok (.iconst 0, 1) := by decide +kernel
theorem dX2_init__62 : decode cX2_init_ 62 = .ok (.putfield 33, 3) := by decide +kernel
theorem dX2_init__65 : decode cX2_init_ 65 = .ok (.aload_n 0, 1) := by decide +kernel
theorem dX2_init__66 : decode cX2_init_ 66 = .ok (.iconst 0, 1) := by decide +kernel
theorem dX2_init__67 : decode cX2_init_ 67 = .ok (.putfield 36, 3) := by decide +kernel
theorem dX2_init__70 : decode cX2_init_ 70 = .ok (.aload_n 0, 1) := by decide +kernel
theorem dX2_init__71 : decode cX2_init_ 71 = .ok (.iconst 0, 1) := by decide +kernel
theorem dX2_init__72 : decode cX2_init_ 72 = .ok (.putfield 39, 3) := by decide +kernel
theorem dX2_init__75 : decode cX2_init_ 75 = .ok (.return_, 1) := by decide +kernel
theorem dX2_isAddress_0 : decode cX2_isAddress 0 = .ok (.iload_n 0, 1) := by decide +kernel
theorem dX2_isAddress_1 : decode cX2_isAddress 1 = .ok (.ifCond .lt 13, 3) := by decide +kernel
theorem dX2_isAddress_4 : decode cX2_isAddress 4 = .ok (.iload_n 0, 1) := by decide +kernel
theorem dX2_isAddress_5 : decode cX2_isAddress 5 = .ok (.bipush 64, 2) := by decide +kernel
theorem dX2_isAddress_7 : decode cX2_isAddress 7 = .ok (.if_icmp .ge 7, 3) := by decide +kernel
theorem dX2_isAddress_10 : decode cX2_isAddress 10 = .ok (.iconst 1, 1) := by decide +kernel
theorem dX2_isAddress_11 : decode cX2_isAddress 11 = .ok (.goto 4, 3) := by decide +kernel
theorem dX2_isAddress_14 : decode cX2_isAddress 14 = .ok (.iconst 0, 1) := by decide +kernel
theorem dX2_isAddress_15 : decode cX2_isAddress 15 = .ok (.ireturn, 1) := by decide +kernel
theorem dX2_whichList_0 : decode cX2_whichList 0 = .ok (.iconst 0, 1) := by decide +kernel
theorem dX2_whichList_1 : decode cX2_whichList 1 = .ok (.istore_n 2, 1) := by decide +kernel
theorem dX2_whichList_2 : decode cX2_whichList 2 = .ok (.iconst 1, 1) := by decide +kernel
theorem dX2_whichList_3 : decode cX2_whichList 3 = .ok (.istore_n 3, 1) := by decide +kernel
theorem dX2_whichList_4 : decode cX2_whichList 4 = .ok (.iload_n 3, 1) := by decide +kernel
theorem dX2_whichList_5 : decode cX2_whichList 5 = .ok (.iconst 5, 1) := by decide +kernel
theorem dX2_whichList_6 : decode cX2_whichList 6 = .ok (.if_icmp .ge 51, 3) := by decide +kernel
theorem dX2_whichList_9 : decode cX2_whichList 9 = .ok (.iconst 0, 1) := by decide +kernel
theorem dX2_whichList_10 : decode cX2_whichList 10 = .ok (.istore 4, 2) := by decide +kernel
theorem dX2_whichList_12 : decode cX2_whichList 12 = .ok (.iload 4, 2) := by decide +kernel
theorem dX2_whichList_14 : decode cX2_whichList 14 = .ok (.aload_n 0, 1) := by decide +kernel
theorem dX2_whichList_15 : decode cX2_whichList 15 = .ok (.getfield 13, 3) := by decide +kernel
theorem dX2_whichList_18 : decode cX2_whichList 18 = .ok (.iload_n 3, 1) := by decide +kernel
theorem dX2_whichList_19 : decode cX2_whichList 19 = .ok (.iaload, 1) := by decide +kernel
theorem dX2_whichList_20 : decode cX2_whichList 20 = .ok (.if_icmp .ge 31, 3) := by decide +kernel
theorem dX2_whichList_23 : decode cX2_whichList 23 = .ok (.aload_n 0, 1) := by decide +kernel
theorem dX2_whichList_24 : decode cX2_whichList 24 = .ok (.getfield 7, 3) := by decide +kernel
theorem dX2_whichList_27 : decode cX2_whichList 27 = .ok (.bipush 64, 2) := by decide +kernel
theorem dX2_whichList_29 : decode cX2_whichList 29 = .ok (.iload_n 3, 1) := by decide +kernel
theorem dX2_whichList_30 : decode cX2_whichList 30 = .ok (.imul, 1) := by decide +kernel
theorem dX2_whichList_31 : decode cX2_whichList 31 = .ok (.iload 4, 2) := by decide +kernel
theorem dX2_whichList_33 : decode cX2_whichList 33 = .ok (.iadd, 1) := by decide +kernel
theorem dX2_whichList_34 : decode cX2_whichList 34 = .ok (.iaload, 1) := by decide +kernel
theorem dX2_whichList_35 : decode cX2_whichList 35 = .ok (.iload_n 1, 1) := by decide +kernel
theorem dX2_whichList_36 : decode cX2_whichList 36 = .ok (.if_icmp .ne 7, 3) := by decide +kernel
theorem dX2_whichList_39 : decode cX2_whichList 39 = .ok (.iload_n 3, 1) := by decide +kernel
theorem dX2_whichList_40 : decode cX2_whichList 40 = .ok (.goto 4, 3) := by decide +kernel
theorem dX2_whichList_43 : decode cX2_whichList 43 = .ok (.iload_n 2, 1) := by decide +kernel
theorem dX2_whichList_44 : decode cX2_whichList 44 = .ok (.istore_n 2, 1) := by decide +kernel
theorem dX2_whichList_45 : decode cX2_whichList 45 = .ok (.iinc 4 1, 3) := by decide +kernel
theorem dX2_whichList_48 : decode cX2_whichList 48 = .ok (.goto (-36), 3) := by decide +kernel
theorem dX2_whichList_51 : decode cX2_whichList 51 = .ok (.iinc 3 1, 3) := by decide +kernel
theorem dX2_whichList_54 : decode cX2_whichList 54 = .ok (.goto (-50), 3) := by decide +kernel
theorem dX2_whichList_57 : decode cX2_whichList 57 = .ok (.iload_n 2, 1) := by decide +kernel
theorem dX2_whichList_58 : decode cX2_whichList 58 = .ok (.ireturn, 1) := by decide +kernel
set_option maxRecDepth 20000 in
theorem ggX2_leave_X2_whichList : GoodIn wsX2_leave wsX2_whichList := goodIn_r _ [7, 2, 1, 8, 9, 10, 11, 12, 13, 14, 15, 16, 17] (by decide +kernel) (by decide +kernel)
set_option maxRecDepth 20000 in
theorem gX2_leave_X2_whichList : GoodIn wsX2_leave (wsV RX2 42 RX2 yX2_whichList wsX2_whichList) := goodIn_app (goodIn_of _ (by decide +kernel)) ggX2_leave_X2_whichList
theorem dX2_leave_0 : decode cX2_leave 0 = .ok (.aload_n 0, 1) := by decide +kernel
theorem dX2_leave_1 : decode cX2_leave 1 = .ok (.iload_n 1, 1) := by decide +kernel
theorem dX2_leave_2 : decode cX2_leave 2 = .ok (.invokevirtual 42, 3) := by decide +kernel
theorem dX2_leave_5 : decode cX2_leave 5 = .ok (.istore_n 2, 1) := by decide +kernel
theorem dX2_leave_6 : decode cX2_leave 6 = .ok (.iload_n 2, 1) := by decide +kernel
theorem dX2_leave_7 : decode cX2_leave 7 = .ok (.ifCond .le 69, 3) := by decide +kernel
theorem dX2_leave_10 : decode cX2_leave 10 = .ok (.bipush 64, 2) := by decide +kernel
theorem dX2_leave_12 : decode cX2_leave 12 = .ok (.iload_n 2, 1) := by decide +kernel
theorem dX2_leave_13 : decode cX2_leave 13 = .ok (.imul, 1) := by decide +kernel
theorem dX2_leave_14 : decode cX2_leave 14 = .ok (.istore_n 3, 1) := by decide +kernel
theorem dX2_leave_15 : decode cX2_leave 15 = .ok (.aload_n 0, 1) := by decide +kernel
theorem dX2_leave_16 : decode cX2_leave 16 = .ok (.getfield 7, 3) := by decide +kernel
theorem dX2_leave_19 : decode cX2_leave 19 = .ok (.iload_n 3, 1) := by decide +kernel
theorem dX2_leave_20 : decode cX2_leave 20 = .ok (.iaload, 1) := by decide +kernel
theorem dX2_leave_21 : decode cX2_leave 21 = .ok (.iload_n 1, 1) := by decide +kernel
theorem dX2_leave_22 : decode cX2_leave 22 = .ok (.if_icmp .eq 9, 3) := by decide +kernel
theorem dX2_leave_25 : decode cX2_leave 25 = .ok (.iinc 3 1, 3) := by decide +kernel
theorem dX2_leave_28 : decode cX2_leave 28 = .ok (.goto (-13), 3) := by decide +kernel
theorem dX2_leave_31 : decode cX2_leave 31 = .ok (.aload_n 0, 1) := by decide +kernel
theorem dX2_leave_32 : decode cX2_leave 32 = .ok (.getfield 13, 3) := by decide +kernel
theorem dX2_leave_35 : decode cX2_leave 35 = .ok (.iload_n 2, 1) := by decide +kernel
theorem dX2_leave_36 : decode cX2_leave 36 = .ok (.dup2, 1) := by decide +kernel
theorem dX2_leave_37 : decode cX2_leave 37 = .ok (.iaload, 1) := by decide +kernel
theorem dX2_leave_38 : decode cX2_leave 38 = .ok (.iconst 1, 1) := by decide +kernel
theorem dX2_leave_39 : decode cX2_leave 39 = .ok (.isub, 1) := by decide +kernel
theorem dX2_leave_40 : decode cX2_leave 40 = .ok (.iastore, 1) := by decide +kernel
theorem dX2_leave_41 : decode cX2_leave 41 = .ok (.iload_n 3, 1) := by decide +kernel
theorem dX2_leave_42 : decode cX2_leave 42 = .ok (.bipush 64, 2) := by decide +kernel
theorem dX2_leave_44 : decode cX2_leave 44 = .ok (.iload_n 2, 1) := by decide +kernel
theorem dX2_leave_45 : decode cX2_leave 45 = .ok (.imul, 1) := by decide +kernel
theorem dX2_leave_46 : decode cX2_leave 46 = .ok (.aload_n 0, 1) := by decide +kernel
theorem dX2_leave_47 : decode cX2_leave 47 = .ok (.getfield 13, 3) := by decide +kernel
theorem dX2_leave_50 : decode cX2_leave 50 = .ok (.iload_n 2, 1) := by decide +kernel
theorem dX2_leave_51 : decode cX2_leave 51 = .ok (.iaload, 1) := by decide +kernel
theorem dX2_leave_52 : decode cX2_leave 52 = .ok (.iadd, 1) := by decide +kernel
theorem dX2_leave_53 : decode cX2_leave 53 = .ok (.if_icmp .ge 23, 3) := by decide +kernel
theorem dX2_leave_56 : decode cX2_leave 56 = .ok (.aload_n 0, 1) := by decide +kernel
theorem dX2_leave_57 : decode cX2_leave 57 = .ok (.getfield 7, 3) := by decide +kernel
theorem dX2_leave_60 : decode cX2_leave 60 = .ok (.iload_n 3, 1) := by decide +kernel
theorem dX2_leave_61 : decode cX2_leave 61 = .ok (.aload_n 0, 1) := by decide +kernel
theorem dX2_leave_62 : decode cX2_leave 62 = .ok (.getfield 7, 3) := by decide +kernel
theorem dX2_leave_65 : decode cX2_leave 65 = .ok (.iload_n 3, 1) := by decide +kernel
theorem dX2_leave_66 : decode cX2_leave 66 = .ok (.iconst 1, 1) := by decide +kernel
theorem dX2_leave_67 : decode cX2_leave 67 = .ok (.iadd, 1) := by decide +kernel
theorem dX2_leave_68 : decode cX2_leave 68 = .ok (.iaload, 1) := by decide +kernel
theorem dX2_leave_69 : decode cX2_leave 69 = .ok (.iastore, 1) := by decide +kernel
theorem dX2_leave_70 : decode cX2_leave 70 = .ok (.iinc 3 1, 3) := by decide +kernel
theorem dX2_leave_73 : decode cX2_leave 73 = .ok (.goto (-32), 3) := by decide +kernel
theorem dX2_leave_76 : decode cX2_leave 76 = .ok (.return_, 1) := by decide +kernel
set_option maxRecDepth 20000 in
theorem ggX2_come_X2_leave : GoodIn wsX2_come wsX2_leave := goodIn_r _ [7, 2, 1, 8, 9, 10, 6, 11, 12, 13, 14, 15, 16, 17, 18, 19, 20, 21] (by decide +kernel) (by decide +kernel)
set_option maxRecDepth 20000 in
theorem gX2_come_X2_leave : GoodIn wsX2_come (wsV RX2 46 RX2 yX2_leave wsX2_leave) := goodIn_app (goodIn_of _ (by decide +kernel)) ggX2_come_X2_leave
theorem dX2_come_0 : decode cX2_come 0 = .ok (.aload_n 0, 1) := by decide +kernel
theorem dX2_come_1 : decode cX2_come 1 = .ok (.iload_n 1, 1) := by decide +kernel
theorem dX2_come_2 : decode cX2_come 2 = .ok (.invokevirtual 46, 3) := by decide +kernel
theorem dX2_come_5 : decode cX2_come 5 = .ok (.bipush 64, 2) := by decide +kernel
theorem dX2_come_7 : decode cX2_come 7 = .ok (.iload_n 2, 1) := by decide +kernel
theorem dX2_come_8 : decode cX2_come 8 = .ok (.imul, 1) := by decide +kernel
theorem dX2_come_9 : decode cX2_come 9 = .ok (.aload_n 0, 1) := by decide +kernel
theorem dX2_come_10 : decode cX2_come 10 = .ok (.getfield 13, 3) := by decide +kernel
theorem dX2_come_13 : decode cX2_come 13 = .ok (.iload_n 2, 1) := by decide +kernel
theorem dX2_come_14 : decode cX2_come 14 = .ok (.iaload, 1) := by decide +kernel
theorem dX2_come_15 : decode cX2_come 15 = .ok (.iadd, 1) := by decide +kernel
theorem dX2_come_16 : decode cX2_come 16 = .ok (.istore_n 3, 1) := by decide +kernel
theorem dX2_come_17 : decode cX2_come 17 = .ok (.iload_n 3, 1) := by decide +kernel
theorem dX2_come_18 : decode cX2_come 18 = .ok (.bipush 64, 2) := by decide +kernel
theorem dX2_come_20 : decode cX2_come 20 = .ok (.iload_n 2, 1) := by decide +kernel
theorem dX2_come_21 : decode cX2_come 21 = .ok (.imul, 1) := by decide +kernel
theorem dX2_come_22 : decode cX2_come 22 = .ok (.if_icmp .le 23, 3) := by decide +kernel
theorem dX2_come_25 : decode cX2_come 25 = .ok (.aload_n 0, 1) := by decide +kernel
theorem dX2_come_26 : decode cX2_come 26 = .ok (.getfield 7, 3) := by decide +kernel
theorem dX2_come_29 : decode cX2_come 29 = .ok (.iload_n 3, 1) := by decide +kernel
theorem dX2_come_30 : decode cX2_come 30 = .ok (.aload_n 0, 1) := by decide +kernel
theorem dX2_come_31 : decode cX2_come 31 = .ok (.getfield 7, 3) := by decide +kernel
theorem dX2_come_34 : decode cX2_come 34 = .ok (.iload_n 3, 1) := by decide +kernel
theorem dX2_come_35 : decode cX2_come 35 = .ok (.iconst 1, 1) := by decide +kernel
theorem dX2_come_36 : decode cX2_come 36 = .ok (.isub, 1) := by decide +kernel
theorem dX2_come_37 : decode cX2_come 37 = .ok (.iaload, 1) := by decide +kernel
theorem dX2_come_38 : decode cX2_come 38 = .ok (.iastore, 1) := by decide +kernel
theorem dX2_come_39 : decode cX2_come 39 = .ok (.iinc 3 (-1), 3) := by decide +kernel
theorem dX2_come_42 : decode cX2_come 42 = .ok (.goto (-25), 3) := by decide +kernel
theorem dX2_come_45 : decode cX2_come 45 = .ok (.aload_n 0, 1) := by decide +kernel
theorem dX2_come_46 : decode cX2_come 46 = .ok (.getfield 7, 3) := by decide +kernel
theorem dX2_come_49 : decode cX2_come 49 = .ok (.bipush 64, 2) := by decide +kernel
theorem dX2_come_51 : decode cX2_come 51 = .ok (.iload_n 2, 1) := by decide +kernel
theorem dX2_come_52 : decode cX2_come 52 = .ok (.imul, 1) := by decide +kernel
theorem dX2_come_53 : decode cX2_come 53 = .ok (.iload_n 1, 1) := by decide +kernel
theorem dX2_come_54 : decode cX2_come 54 = .ok (.iastore, 1) := by decide +kernel
theorem dX2_come_55 : decode cX2_come 55 = .ok (.aload_n 0, 1) := by decide +kernel
theorem dX2_come_56 : decode cX2_come 56 = .ok (.getfield 13, 3) := by decide +kernel
theorem dX2_come_59 : decode cX2_come 59 = .ok (.iload_n 2, 1) := by decide +kernel
theorem dX2_come_60 : decode cX2_come 60 = .ok (.dup2, 1) := by decide +kernel
theorem dX2_come_61 : decode cX2_come 61 = .ok (.iaload, 1) := by decide +kernel
theorem dX2_come_62 : decode cX2_come 62 = .ok (.iconst 1, 1) := by decide +kernel
theorem dX2_come_63 : decode cX2_come 63 = .ok (.iadd, 1) := by decide +kernel
theorem dX2_come_64 : decode cX2_come 64 = .ok (.iastore, 1) := by decide +kernel
theorem dX2_come_65 : decode cX2_come 65 = .ok (.return_, 1) := by decide +kernel
theorem dX2_old_0 : decode cX2_old 0 = .ok (.aload_n 0, 1) := by decide +kernel
theorem dX2_old_1 : decode cX2_old 1 = .ok (.getfield 7, 3) := by decide +kernel
theorem dX2_old_4 : decode cX2_old 4 = .ok (.bipush 64, 2) := by decide +kernel
theorem dX2_old_6 : decode cX2_old 6 = .ok (.iload_n 1, 1) := by decide +kernel
theorem dX2_old_7 : decode cX2_old 7 = .ok (.imul, 1) := by decide +kernel
theorem dX2_old_8 : decode cX2_old 8 = .ok (.aload_n 0, 1) := by decide +kernel
theorem dX2_old_9 : decode cX2_old 9 = .ok (.getfield 13, 3) := by decide +kernel
theorem dX2_old_12 : decode cX2_old 12 = .ok (.iload_n 1, 1) := by decide +kernel
theorem dX2_old_13 : decode cX2_old 13 = .ok (.iaload, 1) := by decide +kernel
theorem dX2_old_14 : decode cX2_old 14 = .ok (.iadd, 1) := by decide +kernel
theorem dX2_old_15 : decode cX2_old 15 = .ok (.iconst 1, 1) := by decide +kernel
theorem dX2_old_16 : decode cX2_old 16 = .ok (.isub, 1) := by decide +kernel
theorem dX2_old_17 : decode cX2_old 17 = .ok (.iaload, 1) := by decide +kernel
theorem dX2_old_18 : decode cX2_old 18 = .ok (.ireturn, 1) := by decide +kernel
theorem dX2_clean_0 : decode cX2_clean 0 = .ok (.aload_n 0, 1) := by decide +kernel
theorem dX2_clean_1 : decode cX2_clean 1 = .ok (.getfield 16, 3) := by decide +kernel
theorem dX2_clean_4 : decode cX2_clean 4 = .ok (.iload_n 1, 1) := by decide +kernel
theorem dX2_clean_5 : decode cX2_clean 5 = .ok (.aload_n 0, 1) := by decide +kernel
theorem dX2_clean_6 : decode cX2_clean 6 = .ok (.getfield 22, 3) := by decide +kernel
theorem dX2_clean_9 : decode cX2_clean 9 = .ok (.iload_n 1, 1) := by decide +kernel
theorem dX2_clean_10 : decode cX2_clean 10 = .ok (.baload, 1) := by decide +kernel
theorem dX2_clean_11 : decode cX2_clean 11 = .ok (.ifCond .eq 12, 3) := by decide +kernel
theorem dX2_clean_14 : decode cX2_clean 14 = .ok (.aload_n 0, 1) := by decide +kernel
theorem dX2_clean_15 : decode cX2_clean 15 = .ok (.getfield 19, 3) := by decide +kernel
theorem dX2_clean_18 : decode cX2_clean 18 = .ok (.iload_n 1, 1) := by decide +kernel
theorem dX2_clean_19 : decode cX2_clean 19 = .ok (.iaload, 1) := by decide +kernel
theorem dX2_clean_20 : decode cX2_clean 20 = .ok (.goto 9, 3) := by decide +kernel
theorem dX2_clean_23 : decode cX2_clean 23 = .ok (.aload_n 0, 1) := by decide +kernel
theorem dX2_clean_24 : decode cX2_clean 24 = .ok (.getfield 16, 3) := by decide +kernel
theorem dX2_clean_27 : decode cX2_clean 27 = .ok (.iload_n 1, 1) := by decide +kernel
theorem dX2_clean_28 : decode cX2_clean 28 = .ok (.iaload, 1) := by decide +kernel
theorem dX2_clean_29 : decode cX2_clean 29 = .ok (.iastore, 1) := by decide +kernel
theorem dX2_clean_30 : decode cX2_clean 30 = .ok (.aload_n 0, 1) := by decide +kernel
theorem dX2_clean_31 : decode cX2_clean 31 = .ok (.getfield 22, 3) := by decide +kernel
theorem dX2_clean_34 : decode cX2_clean 34 = .ok (.iload_n 1, 1) := by decide +kernel
theorem dX2_clean_35 : decode cX2_clean 35 = .ok (.iconst 0, 1) := by decide +kernel
theorem dX2_clean_36 : decode cX2_clean 36 = .ok (.bastore, 1) := by decide +kernel
theorem dX2_clean_37 : decode cX2_clean 37 = .ok (.return_, 1) := by decide +kernel
set_option maxRecDepth 20000 in
theorem ggX2_go_X2_clean : GoodIn wsX2_go wsX2_clean := goodIn_r _ [6, 7, 8, 9, 10, 11, 12, 13, 14, 15, 16, 17, 18, 19] (by decide +kernel) (by decide +kernel)
set_option maxRecDepth 20000 in
theorem gX2_go_X2_clean : GoodIn wsX2_go (wsV RX2 50 RX2 yX2_clean wsX2_clean) := goodIn_app (goodIn_of _ (by decide +kernel)) ggX2_go_X2_clean
theorem dX2_go_0 : decode cX2_go 0 = .ok (.aload_n 0, 1) := by decide +kernel
theorem dX2_go_1 : decode cX2_go 1 = .ok (.iload_n 1, 1) := by decide +kernel
theorem dX2_go_2 : decode cX2_go 2 = .ok (.invokevirtual 50, 3) := by decide +kernel
theorem dX2_go_5 : decode cX2_go 5 = .ok (.aload_n 0, 1) := by decide +kernel
theorem dX2_go_6 : decode cX2_go 6 = .ok (.dup, 1) := by decide +kernel
theorem dX2_go_7 : decode cX2_go 7 = .ok (.getfield 39, 3) := by decide +kernel
theorem dX2_go_10 : decode cX2_go 10 = .ok (.iconst 1, 1) := by decide +kernel
theorem dX2_go_11 : decode cX2_go 11 = .ok (.iadd, 1) := by decide +kernel
theorem dX2_go_12 : decode cX2_go 12 = .ok (.putfield 39, 3) := by decide +kernel
theorem dX2_go_15 : decode cX2_go 15 = .ok (.return_, 1) := by decide +kernel
set_option maxRecDepth 20000 in
theorem ggX2_makeRoom_X2_whichList : GoodIn wsX2_makeRoom wsX2_whichList := goodIn_r _ [7, 1, 8, 33, 34, 35, 36, 37, 38, 39, 40, 41, 42] (by decide +kernel) (by decide +kernel)
set_option maxRecDepth 20000 in
theorem gX2_makeRoom_X2_whichList : GoodIn wsX2_makeRoom (wsV RX2 42 RX2 yX2_whichList wsX2_whichList) := goodIn_app (goodIn_of _ (by decide +kernel)) ggX2_makeRoom_X2_whichList
set_option maxRecDepth 20000 in
theorem ggX2_makeRoom_X2_old : GoodIn wsX2_makeRoom wsX2_old := goodIn_r _ [12, 8, 1, 33, 34, 35, 36, 37, 38, 39, 40, 41, 42] (by decide +kernel) (by decide +kernel)
set_option maxRecDepth 20000 in
theorem gX2_makeRoom_X2_old : GoodIn wsX2_makeRoom (wsV RX2 53 RX2 yX2_old wsX2_old) := goodIn_app (goodIn_of _ (by decide +kernel)) ggX2_makeRoom_X2_old
set_option maxRecDepth 20000 in
theorem ggX2_makeRoom_X2_go : GoodIn wsX2_makeRoom wsX2_go := goodIn_r _ [16, 17, 18, 19, 20, 6, 21, 22, 23, 24, 33, 34, 35, 36, 37, 38, 39, 40, 41, 42] (by decide +kernel) (by decide +kernel)
set_option maxRecDepth 20000 in
theorem gX2_makeRoom_X2_go : GoodIn wsX2_makeRoom (wsV RX2 56 RX2 yX2_go wsX2_go) := goodIn_app (goodIn_of _ (by decide +kernel)) ggX2_makeRoom_X2_go
set_option maxRecDepth 20000 in
theorem ggX2_makeRoom_X2_come : GoodIn wsX2_makeRoom wsX2_come := goodIn_r _ [28, 1, 8, 29, 30, 31, 6, 32, 3, 4, 5, 7, 33, 34, 35, 36, 37, 38, 39, 40, 41, 42] (by decide +kernel) (by decide +kernel)
set_option maxRecDepth 20000 in
theorem gX2_makeRoom_X2_come : GoodIn wsX2_makeRoom (wsV RX2 59 RX2 yX2_come wsX2_come) := goodIn_app (goodIn_of _ (by decide +kernel)) ggX2_makeRoom_X2_come
theorem dX2_makeRoom_0 : decode cX2_makeRoom 0 = .ok (.aload_n 0, 1) := by decide +kernel
theorem dX2_makeRoom_1 : decode cX2_makeRoom 1 = .ok (.getfield 13, 3) := by decide +kernel
theorem dX2_makeRoom_4 : decode cX2_makeRoom 4 = .ok (.iconst 1, 1) := by decide +kernel
theorem dX2_makeRoom_5 : decode cX2_makeRoom 5 = .ok (.iaload, 1) := by decide +kernel
theorem dX2_makeRoom_6 : decode cX2_makeRoom 6 = .ok (.aload_n 0, 1) := by decide +kernel
theorem dX2_makeRoom_7 : decode cX2_makeRoom 7 = .ok (.getfield 30, 3) := by decide +kernel
theorem dX2_makeRoom_10 : decode cX2_makeRoom 10 = .ok (.if_icmp .gt 32, 3) := by decide +kernel
theorem dX2_makeRoom_13 : decode cX2_makeRoom 13 = .ok (.aload_n 0, 1) := by decide +kernel
theorem dX2_makeRoom_14 : decode cX2_makeRoom 14 = .ok (.getfield 13, 3) := by decide +kernel
theorem dX2_makeRoom_17 : decode cX2_makeRoom 17 = .ok (.iconst 1, 1) := by decide +kernel
theorem dX2_makeRoom_18 : decode cX2_makeRoom 18 = .ok (.iaload, 1) := by decide +kernel
theorem dX2_makeRoom_19 : decode cX2_makeRoom 19 = .ok (.aload_n 0, 1) := by decide +kernel
theorem dX2_makeRoom_20 : decode cX2_makeRoom 20 = .ok (.getfield 30, 3) := by decide +kernel
theorem dX2_makeRoom_23 : decode cX2_makeRoom 23 = .ok (.if_icmp .ne 23, 3) := by decide +kernel
theorem dX2_makeRoom_26 : decode cX2_makeRoom 26 = .ok (.aload_n 0, 1) := by decide +kernel
theorem dX2_makeRoom_27 : decode cX2_makeRoom 27 = .ok (.getfield 30, 3) := by decide +kernel
theorem dX2_makeRoom_30 : decode cX2_makeRoom 30 = .ok (.ifCond .le 16, 3) := by decide +kernel
theorem dX2_makeRoom_33 : decode cX2_makeRoom 33 = .ok (.aload_n 0, 1) := by decide +kernel
theorem dX2_makeRoom_34 : decode cX2_makeRoom 34 = .ok (.iload_n 1, 1) := by decide +kernel
theorem dX2_makeRoom_35 : decode cX2_makeRoom 35 = .ok (.invokevirtual 42, 3) := by decide +kernel
theorem dX2_makeRoom_38 : decode cX2_makeRoom 38 = .ok (.iconst 4, 1) := by decide +kernel
theorem dX2_makeRoom_39 : decode cX2_makeRoom 39 = .ok (.if_icmp .ne 7, 3) := by decide +kernel
theorem dX2_makeRoom_42 : decode cX2_makeRoom 42 = .ok (.iconst 1, 1) := by decide +kernel
theorem dX2_makeRoom_43 : decode cX2_makeRoom 43 = .ok (.goto 4, 3) := by decide +kernel
theorem dX2_makeRoom_46 : decode cX2_makeRoom 46 = .ok (.iconst 0, 1) := by decide +kernel
theorem dX2_makeRoom_47 : decode cX2_makeRoom 47 = .ok (.istore_n 2, 1) := by decide +kernel
theorem dX2_makeRoom_48 : decode cX2_makeRoom 48 = .ok (.iload_n 2, 1) := by decide +kernel
theorem dX2_makeRoom_49 : decode cX2_makeRoom 49 = .ok (.ifCond .eq 7, 3) := by decide +kernel
theorem dX2_makeRoom_52 : decode cX2_makeRoom 52 = .ok (.iconst 1, 1) := by decide +kernel
theorem dX2_makeRoom_53 : decode cX2_makeRoom 53 = .ok (.goto 4, 3) := by decide +kernel
theorem dX2_makeRoom_56 : decode cX2_makeRoom 56 = .ok (.iconst 2, 1) := by decide +kernel
theorem dX2_makeRoom_57 : decode cX2_makeRoom 57 = .ok (.istore_n 3, 1) := by decide +kernel
theorem dX2_makeRoom_58 : decode cX2_makeRoom 58 = .ok (.aload_n 0, 1) := by decide +kernel
theorem dX2_makeRoom_59 : decode cX2_makeRoom 59 = .ok (.getfield 13, 3) := by decide +kernel
theorem dX2_makeRoom_62 : decode cX2_makeRoom 62 = .ok (.iload_n 3, 1) := by decide +kernel
theorem dX2_makeRoom_63 : decode cX2_makeRoom 63 = .ok (.iaload, 1) := by decide +kernel
theorem dX2_makeRoom_64 : decode cX2_makeRoom 64 = .ok (.ifCond .le 25, 3) := by decide +kernel
theorem dX2_makeRoom_67 : decode cX2_makeRoom 67 = .ok (.aload_n 0, 1) := by decide +kernel
theorem dX2_makeRoom_68 : decode cX2_makeRoom 68 = .ok (.iload_n 3, 1) := by decide +kernel
theorem dX2_makeRoom_69 : decode cX2_makeRoom 69 = .ok (.invokevirtual 53, 3) := by decide +kernel
theorem dX2_makeRoom_72 : decode cX2_makeRoom 72 = .ok (.istore 4, 2) := by decide +kernel
theorem dX2_makeRoom_74 : decode cX2_makeRoom 74 = .ok (.aload_n 0, 1) := by decide +kernel
theorem dX2_makeRoom_75 : decode cX2_makeRoom 75 = .ok (.iload 4, 2) := by decide +kernel
theorem dX2_makeRoom_77 : decode cX2_makeRoom 77 = .ok (.invokevirtual 56, 3) := by decide +kernel
theorem dX2_makeRoom_80 : decode cX2_makeRoom 80 = .ok (.aload_n 0, 1) := by decide +kernel
theorem dX2_makeRoom_81 : decode cX2_makeRoom 81 = .ok (.iload 4, 2) := by decide +kernel
theorem dX2_makeRoom_83 : decode cX2_makeRoom 83 = .ok (.iload_n 3, 1) := by decide +kernel
theorem dX2_makeRoom_84 : decode cX2_makeRoom 84 = .ok (.iconst 2, 1) := by decide +kernel
theorem dX2_makeRoom_85 : decode cX2_makeRoom 85 = .ok (.iadd, 1) := by decide +kernel
theorem dX2_makeRoom_86 : decode cX2_makeRoom 86 = .ok (.invokevirtual 59, 3) := by decide +kernel
theorem dX2_makeRoom_89 : decode cX2_makeRoom 89 = .ok (.return_, 1) := by decide +kernel
set_option maxRecDepth 20000 in
theorem ggX2_comeNew_X2_old : GoodIn wsX2_comeNew wsX2_old := goodIn_r _ [7, 8, 1, 38, 39, 40, 41, 42, 43, 44, 45, 46, 47] (by decide +kernel) (by decide +kernel)
set_option maxRecDepth 20000 in
theorem gX2_comeNew_X2_old : GoodIn wsX2_comeNew (wsV RX2 53 RX2 yX2_old wsX2_old) := goodIn_app (goodIn_of _ (by decide +kernel)) ggX2_comeNew_X2_old
set_option maxRecDepth 20000 in
theorem ggX2_comeNew_X2_leave : GoodIn wsX2_comeNew wsX2_leave := goodIn_r _ [12, 8, 1, 13, 14, 15, 6, 16, 38, 39, 40, 41, 42, 43, 44, 45, 46, 47] (by decide +kernel) (by decide +kernel)
set_option maxRecDepth 20000 in
theorem gX2_comeNew_X2_leave : GoodIn wsX2_comeNew (wsV RX2 46 RX2 yX2_leave wsX2_leave) := goodIn_app (goodIn_of _ (by decide +kernel)) ggX2_comeNew_X2_leave
set_option maxRecDepth 20000 in
theorem ggX2_comeNew_X2_makeRoom : GoodIn wsX2_comeNew wsX2_makeRoom := goodIn_r _ [20, 1, 21, 13, 14, 15, 6, 16, 8, 3, 4, 5, 7, 22, 23, 24, 25, 26, 27, 28, 29, 30, 31, 32, 33, 34, 35, 36, 37, 9, 10, 11, 12, 38, 39, 40, 41, 42, 43, 44, 45, 46, 47] (by decide +kernel) (by decide +kernel)
set_option maxRecDepth 20000 in
theorem gX2_comeNew_X2_makeRoom : GoodIn wsX2_comeNew (wsV RX2 63 RX2 yX2_makeRoom wsX2_makeRoom) := goodIn_app (goodIn_of _ (by decide +kernel)) ggX2_comeNew_X2_makeRoom
set_option maxRecDepth 20000 in
theorem ggX2_comeNew_X2_go : GoodIn wsX2_comeNew wsX2_go := goodIn_r _ [25, 26, 27, 28, 29, 6, 30, 31, 32, 33, 38, 39, 40, 41, 42, 43, 44, 45, 46, 47] (by decide +kernel) (by decide +kernel)
set_option maxRecDepth 20000 in
theorem gX2_comeNew_X2_go : GoodIn wsX2_comeNew (wsV RX2 56 RX2 yX2_go wsX2_go) := goodIn_app (goodIn_of _ (by decide +kernel)) ggX2_comeNew_X2_go
set_option maxRecDepth 20000 in
theorem ggX2_comeNew_X2_come : GoodIn wsX2_comeNew wsX2_come := goodIn_r _ [37, 1, 8, 9, 10, 11, 6, 12, 13, 14, 15, 16, 38, 39, 40, 41, 42, 43, 44, 45, 46, 47] (by decide +kernel) (by decide +kernel)
set_option maxRecDepth 20000 in
theorem gX2_comeNew_X2_come : GoodIn wsX2_comeNew (wsV RX2 59 RX2 yX2_come wsX2_come) := goodIn_app (goodIn_of _ (by decide +kernel)) ggX2_comeNew_X2_come
theorem dX2_comeNew_0 : decode cX2_comeNew 0 = .ok (.aload_n 0, 1) := by decide +kernel
theorem dX2_comeNew_1 : decode cX2_comeNew 1 = .ok (.getfield 13, 3) := by decide +kernel
theorem dX2_comeNew_4 : decode cX2_comeNew 4 = .ok (.iconst 1, 1) := by decide +kernel
theorem dX2_comeNew_5 : decode cX2_comeNew 5 = .ok (.iaload, 1) := by decide +kernel
theorem dX2_comeNew_6 : decode cX2_comeNew 6 = .ok (.aload_n 0, 1) := by decide +kernel
theorem dX2_comeNew_7 : decode cX2_comeNew 7 = .ok (.getfield 13, 3) := by decide +kernel
theorem dX2_comeNew_10 : decode cX2_comeNew 10 = .ok (.iconst 3, 1) := by decide +kernel
theorem dX2_comeNew_11 : decode cX2_comeNew 11 = .ok (.iaload, 1) := by decide +kernel
theorem dX2_comeNew_12 : decode cX2_comeNew 12 = .ok (.iadd, 1) := by decide +kernel
theorem dX2_comeNew_13 : decode cX2_comeNew 13 = .ok (.aload_n 0, 1) := by decide +kernel
theorem dX2_comeNew_14 : decode cX2_comeNew 14 = .ok (.getfield 26, 3) := by decide +kernel
theorem dX2_comeNew_17 : decode cX2_comeNew 17 = .ok (.if_icmp .ne 54, 3) := by decide +kernel
theorem dX2_comeNew_20 : decode cX2_comeNew 20 = .ok (.aload_n 0, 1) := by decide +kernel
theorem dX2_comeNew_21 : decode cX2_comeNew 21 = .ok (.getfield 13, 3) := by decide +kernel
theorem dX2_comeNew_24 : decode cX2_comeNew 24 = .ok (.iconst 1, 1) := by decide +kernel
theorem dX2_comeNew_25 : decode cX2_comeNew 25 = .ok (.iaload, 1) := by decide +kernel
theorem dX2_comeNew_26 : decode cX2_comeNew 26 = .ok (.aload_n 0, 1) := by decide +kernel
theorem dX2_comeNew_27 : decode cX2_comeNew 27 = .ok (.getfield 26, 3) := by decide +kernel
theorem dX2_comeNew_30 : decode cX2_comeNew 30 = .ok (.if_icmp .ge 20, 3) := by decide +kernel
theorem dX2_comeNew_33 : decode cX2_comeNew 33 = .ok (.aload_n 0, 1) := by decide +kernel
theorem dX2_comeNew_34 : decode cX2_comeNew 34 = .ok (.aload_n 0, 1) := by decide +kernel
theorem dX2_comeNew_35 : decode cX2_comeNew 35 = .ok (.iconst 3, 1) := by decide +kernel
theorem dX2_comeNew_36 : decode cX2_comeNew 36 = .ok (.invokevirtual 53, 3) := by decide +kernel
theorem dX2_comeNew_39 : decode cX2_comeNew 39 = .ok (.invokevirtual 46, 3) := by decide +kernel
theorem dX2_comeNew_42 : decode cX2_comeNew 42 = .ok (.aload_n 0, 1) := by decide +kernel
theorem dX2_comeNew_43 : decode cX2_comeNew 43 = .ok (.iload_n 1, 1) := by decide +kernel
theorem dX2_comeNew_44 : decode cX2_comeNew 44 = .ok (.invokevirtual 63, 3) := by decide +kernel
theorem dX2_comeNew_47 : decode cX2_comeNew 47 = .ok (.goto 84, 3) := by decide +kernel
theorem dX2_comeNew_50 : decode cX2_comeNew 50 = .ok (.aload_n 0, 1) := by decide +kernel
theorem dX2_comeNew_51 : decode cX2_comeNew 51 = .ok (.aload_n 0, 1) := by decide +kernel
theorem dX2_comeNew_52 : decode cX2_comeNew 52 = .ok (.iconst 1, 1) := by decide +kernel
theorem dX2_comeNew_53 : decode cX2_comeNew 53 = .ok (.invokevirtual 53, 3) := by decide +kernel
theorem dX2_comeNew_56 : decode cX2_comeNew 56 = .ok (.invokevirtual 56, 3) := by decide +kernel
theorem dX2_comeNew_59 : decode cX2_comeNew 59 = .ok (.aload_n 0, 1) := by decide +kernel
theorem dX2_comeNew_60 : decode cX2_comeNew 60 = .ok (.aload_n 0, 1) := by decide +kernel
theorem dX2_comeNew_61 : decode cX2_comeNew 61 = .ok (.iconst 1, 1) := by decide +kernel
theorem dX2_comeNew_62 : decode cX2_comeNew 62 = .ok (.invokevirtual 53, 3) := by decide +kernel
theorem dX2_comeNew_65 : decode cX2_comeNew 65 = .ok (.invokevirtual 46, 3) := by decide +kernel
theorem dX2_comeNew_68 : decode cX2_comeNew 68 = .ok (.goto 63, 3) := by decide +kernel
theorem dX2_comeNew_71 : decode cX2_comeNew 71 = .ok (.aload_n 0, 1) := by decide +kernel
theorem dX2_comeNew_72 : decode cX2_comeNew 72 = .ok (.getfield 13, 3) := by decide +kernel
theorem dX2_comeNew_75 : decode cX2_comeNew 75 = .ok (.iconst 1, 1) := by decide +kernel
theorem dX2_comeNew_76 : decode cX2_comeNew 76 = .ok (.iaload, 1) := by decide +kernel
theorem dX2_comeNew_77 : decode cX2_comeNew 77 = .ok (.aload_n 0, 1) := by decide +kernel
theorem dX2_comeNew_78 : decode cX2_comeNew 78 = .ok (.getfield 13, 3) := by decide +kernel
theorem dX2_comeNew_81 : decode cX2_comeNew 81 = .ok (.iconst 2, 1) := by decide +kernel
theorem dX2_comeNew_82 : decode cX2_comeNew 82 = .ok (.iaload, 1) := by decide +kernel
theorem dX2_comeNew_83 : decode cX2_comeNew 83 = .ok (.iadd, 1) := by decide +kernel
theorem dX2_comeNew_84 : decode cX2_comeNew 84 = .ok (.aload_n 0, 1) := by decide +kernel
theorem dX2_comeNew_85 : decode cX2_comeNew 85 = .ok (.getfield 13, 3) := by decide +kernel
theorem dX2_comeNew_88 : decode cX2_comeNew 88 = .ok (.iconst 3, 1) := by decide +kernel
theorem dX2_comeNew_89 : decode cX2_comeNew 89 = .ok (.iaload, 1) := by decide +kernel
theorem dX2_comeNew_90 : decode cX2_comeNew 90 = .ok (.iadd, 1) := by decide +kernel
theorem dX2_comeNew_91 : decode cX2_comeNew 91 = .ok (.aload_n 0, 1) := by decide +kernel
theorem dX2_comeNew_92 : decode cX2_comeNew 92 = .ok (.getfield 13, 3) := by decide +kernel
theorem dX2_comeNew_95 : decode cX2_comeNew 95 = .ok (.iconst 4, 1) := by decide +kernel
theorem dX2_comeNew_96 : decode cX2_comeNew 96 = .ok (.iaload, 1) := by decide +kernel
theorem dX2_comeNew_97 : decode cX2_comeNew 97 = .ok (.iadd, 1) := by decide +kernel
theorem dX2_comeNew_98 : decode cX2_comeNew 98 = .ok (.istore_n 2, 1) := by decide +kernel
theorem dX2_comeNew_99 : decode cX2_comeNew 99 = .ok (.iload_n 2, 1) := by decide +kernel
theorem dX2_comeNew_100 : decode cX2_comeNew 100 = .ok (.aload_n 0, 1) := by decide +kernel
theorem dX2_comeNew_101 : decode cX2_comeNew 101 = .ok (.getfield 26, 3) := by decide +kernel
theorem dX2_comeNew_104 : decode cX2_comeNew 104 = .ok (.if_icmp .lt 27, 3) := by decide +kernel
theorem dX2_comeNew_107 : decode cX2_comeNew 107 = .ok (.iload_n 2, 1) := by decide +kernel
theorem dX2_comeNew_108 : decode cX2_comeNew 108 = .ok (.iconst 2, 1) := by decide +kernel
theorem dX2_comeNew_109 : decode cX2_comeNew 109 = .ok (.aload_n 0, 1) := by decide +kernel
theorem dX2_comeNew_110 : decode cX2_comeNew 110 = .ok (.getfield 26, 3) := by decide +kernel
theorem dX2_comeNew_113 : decode cX2_comeNew 113 = .ok (.imul, 1) := by decide +kernel
theorem dX2_comeNew_114 : decode cX2_comeNew 114 = .ok (.if_icmp .ne 12, 3) := by decide +kernel
theorem dX2_comeNew_117 : decode cX2_comeNew 117 = .ok (.aload_n 0, 1) := by decide +kernel
theorem dX2_comeNew_118 : decode cX2_comeNew 118 = .ok (.aload_n 0, 1) := by decide +kernel
theorem dX2_comeNew_119 : decode cX2_comeNew 119 = .ok (.iconst 4, 1) := by decide +kernel
theorem dX2_comeNew_120 : decode cX2_comeNew 120 = .ok (.invokevirtual 53, 3) := by decide +kernel
theorem dX2_comeNew_123 : decode cX2_comeNew 123 = .ok (.invokevirtual 46, 3) := by decide +kernel
theorem dX2_comeNew_126 : decode cX2_comeNew 126 = .ok (.aload_n 0, 1) := by decide +kernel
theorem dX2_comeNew_127 : decode cX2_comeNew 127 = .ok (.iload_n 1, 1) := by decide +kernel
theorem dX2_comeNew_128 : decode cX2_comeNew 128 = .ok (.invokevirtual 63, 3) := by decide +kernel
theorem dX2_comeNew_131 : decode cX2_comeNew 131 = .ok (.aload_n 0, 1) := by decide +kernel
theorem dX2_comeNew_132 : decode cX2_comeNew 132 = .ok (.iload_n 1, 1) := by decide +kernel
theorem dX2_comeNew_133 : decode cX2_comeNew 133 = .ok (.iconst 1, 1) := by decide +kernel
theorem dX2_comeNew_134 : decode cX2_comeNew 134 = .ok (.invokevirtual 59, 3) := by decide +kernel
theorem dX2_comeNew_137 : decode cX2_comeNew 137 = .ok (.return_, 1) := by decide +kernel
set_option maxRecDepth 20000 in
theorem ggX2_request_X2_whichList : GoodIn wsX2_request wsX2_whichList := goodIn_r _ [13, 3, 14, 44, 45, 46, 47, 48, 49, 50, 51, 52, 53] (by decide +kernel) (by decide +kernel)
set_option maxRecDepth 20000 in
theorem gX2_request_X2_whichList : GoodIn wsX2_request (wsV RX2 42 RX2 yX2_whichList wsX2_whichList) := goodIn_app (goodIn_of _ (by decide +kernel)) ggX2_request_X2_whichList
set_option maxRecDepth 20000 in
theorem ggX2_request_X2_come : GoodIn wsX2_request wsX2_come := goodIn_r _ [18, 3, 14, 19, 20, 21, 12, 22, 9, 10, 11, 13, 44, 45, 46, 47, 48, 49, 50, 51, 52, 53] (by decide +kernel) (by decide +kernel)
set_option maxRecDepth 20000 in
theorem gX2_request_X2_come : GoodIn wsX2_request (wsV RX2 59 RX2 yX2_come wsX2_come) := goodIn_app (goodIn_of _ (by decide +kernel)) ggX2_request_X2_come
set_option maxRecDepth 20000 in
theorem ggX2_request_X2_comeNew : GoodIn wsX2_request wsX2_comeNew := goodIn_r _ [26, 3, 5, 27, 28, 29, 12, 30, 14, 19, 20, 21, 22, 9, 10, 11, 13, 31, 32, 33, 34, 4, 35, 36, 37, 38, 39, 40, 41, 42, 43, 7, 8, 6, 15, 16, 17, 18, 44, 45, 46, 47, 48, 49, 50, 51, 52, 53] (by decide +kernel) (by decide +kernel)
set_option maxRecDepth 20000 in
theorem gX2_request_X2_comeNew : GoodIn wsX2_request (wsV RX2 66 RX2 yX2_comeNew wsX2_comeNew) := goodIn_app (goodIn_of _ (by decide +kernel)) ggX2_request_X2_comeNew
set_option maxRecDepth 20000 in
theorem ggX2_request_X2_makeRoom : GoodIn wsX2_request wsX2_makeRoom := goodIn_r _ [34, 3, 4, 9, 10, 11, 12, 13, 14, 27, 28, 29, 30, 35, 36, 37, 38, 39, 40, 41, 42, 43, 7, 8, 6, 15, 16, 17, 18, 19, 20, 21, 22, 44, 45, 46, 47, 48, 49, 50, 51, 52, 53] (by decide +kernel) (by decide +kernel)
set_option maxRecDepth 20000 in
theorem gX2_request_X2_makeRoom : GoodIn wsX2_request (wsV RX2 63 RX2 yX2_makeRoom wsX2_makeRoom) := goodIn_app (goodIn_of _ (by decide +kernel)) ggX2_request_X2_makeRoom
theorem dX2_request_0 : decode cX2_request 0 = .ok (.aload_n 0, 1) := by decide +kernel
theorem dX2_request_1 : decode cX2_request 1 = .ok (.iload_n 1, 1) := by decide +kernel
theorem dX2_request_2 : decode cX2_request 2 = .ok (.invokevirtual 42, 3) := by decide +kernel
theorem dX2_request_5 : decode cX2_request 5 = .ok (.istore_n 2, 1) := by decide +kernel
theorem dX2_request_6 : decode cX2_request 6 = .ok (.iload_n 2, 1) := by decide +kernel
theorem dX2_request_7 : decode cX2_request 7 = .ok (.iconst 1, 1) := by decide +kernel
theorem dX2_request_8 : decode cX2_request 8 = .ok (.if_icmp .eq 8, 3) := by decide +kernel
theorem dX2_request_11 : decode cX2_request 11 = .ok (.iload_n 2, 1) := by decide +kernel
theorem dX2_request_12 : decode cX2_request 12 = .ok (.iconst 2, 1) := by decide +kernel
theorem dX2_request_13 : decode cX2_request 13 = .ok (.if_icmp .ne 20, 3) := by decide +kernel
theorem dX2_request_16 : decode cX2_request 16 = .ok (.aload_n 0, 1) := by decide +kernel
theorem dX2_request_17 : decode cX2_request 17 = .ok (.dup, 1) := by decide +kernel
theorem dX2_request_18 : decode cX2_request 18 = .ok (.getfield 33, 3) := by decide +kernel
theorem dX2_request_21 : decode cX2_request 21 = .ok (.iconst 1, 1) := by decide +kernel
theorem dX2_request_22 : decode cX2_request 22 = .ok (.iadd, 1) := by decide +kernel
theorem dX2_request_23 : decode cX2_request 23 = .ok (.putfield 33, 3) := by decide +kernel
theorem dX2_request_26 : decode cX2_request 26 = .ok (.aload_n 0, 1) := by decide +kernel
theorem dX2_request_27 : decode cX2_request 27 = .ok (.iload_n 1, 1) := by decide +kernel
theorem dX2_request_28 : decode cX2_request 28 = .ok (.iconst 2, 1) := by decide +kernel
theorem dX2_request_29 : decode cX2_request 29 = .ok (.invokevirtual 59, 3) := by decide +kernel
theorem dX2_request_32 : decode cX2_request 32 = .ok (.return_, 1) := by decide +kernel
theorem dX2_request_33 : decode cX2_request 33 = .ok (.aload_n 0, 1) := by decide +kernel
theorem dX2_request_34 : decode cX2_request 34 = .ok (.dup, 1) := by decide +kernel
theorem dX2_request_35 : decode cX2_request 35 = .ok (.getfield 36, 3) := by decide +kernel
theorem dX2_request_38 : decode cX2_request 38 = .ok (.iconst 1, 1) := by decide +kernel
theorem dX2_request_39 : decode cX2_request 39 = .ok (.iadd, 1) := by decide +kernel
theorem dX2_request_40 : decode cX2_request 40 = .ok (.putfield 36, 3) := by decide +kernel
theorem dX2_request_43 : decode cX2_request 43 = .ok (.iload_n 2, 1) := by decide +kernel
theorem dX2_request_44 : decode cX2_request 44 = .ok (.iconst 3, 1) := by decide +kernel
theorem dX2_request_45 : decode cX2_request 45 = .ok (.if_icmp .ne 65, 3) := by decide +kernel
theorem dX2_request_48 : decode cX2_request 48 = .ok (.aload_n 0, 1) := by decide +kernel
theorem dX2_request_49 : decode cX2_request 49 = .ok (.getfield 13, 3) := by decide +kernel
theorem dX2_request_52 : decode cX2_request 52 = .ok (.iconst 4, 1) := by decide +kernel
theorem dX2_request_53 : decode cX2_request 53 = .ok (.iaload, 1) := by decide +kernel
theorem dX2_request_54 : decode cX2_request 54 = .ok (.aload_n 0, 1) := by decide +kernel
theorem dX2_request_55 : decode cX2_request 55 = .ok (.getfield 13, 3) := by decide +kernel
theorem dX2_request_58 : decode cX2_request 58 = .ok (.iconst 3, 1) := by decide +kernel
theorem dX2_request_59 : decode cX2_request 59 = .ok (.iaload, 1) := by decide +kernel
theorem dX2_request_60 : decode cX2_request 60 = .ok (.idiv, 1) := by decide +kernel
theorem dX2_request_61 : decode cX2_request 61 = .ok (.istore_n 3, 1) := by decide +kernel
theorem dX2_request_62 : decode cX2_request 62 = .ok (.aload_n 0, 1) := by decide +kernel
theorem dX2_request_63 : decode cX2_request 63 = .ok (.dup, 1) := by decide +kernel
theorem dX2_request_64 : decode cX2_request 64 = .ok (.getfield 30, 3) := by decide +kernel
theorem dX2_request_67 : decode cX2_request 67 = .ok (.iload_n 3, 1) := by decide +kernel
theorem dX2_request_68 : decode cX2_request 68 = .ok (.iconst 1, 1) := by decide +kernel
theorem dX2_request_69 : decode cX2_request 69 = .ok (.if_icmp .ge 7, 3) := by decide +kernel
theorem dX2_request_72 : decode cX2_request 72 = .ok (.iconst 1, 1) := by decide +kernel
theorem dX2_request_73 : decode cX2_request 73 = .ok (.goto 4, 3) := by decide +kernel
theorem dX2_request_76 : decode cX2_request 76 = .ok (.iload_n 3, 1) := by decide +kernel
theorem dX2_request_77 : decode cX2_request 77 = .ok (.iadd, 1) := by decide +kernel
theorem dX2_request_78 : decode cX2_request 78 = .ok (.putfield 30, 3) := by decide +kernel
theorem dX2_request_81 : decode cX2_request 81 = .ok (.aload_n 0, 1) := by decide +kernel
theorem dX2_request_82 : decode cX2_request 82 = .ok (.aload_n 0, 1) := by decide +kernel
theorem dX2_request_83 : decode cX2_request 83 = .ok (.getfield 30, 3) := by decide +kernel
theorem dX2_request_86 : decode cX2_request 86 = .ok (.aload_n 0, 1) := by decide +kernel
theorem dX2_request_87 : decode cX2_request 87 = .ok (.getfield 26, 3) := by decide +kernel
theorem dX2_request_90 : decode cX2_request 90 = .ok (.if_icmp .le 10, 3) := by decide +kernel
theorem dX2_request_93 : decode cX2_request 93 = .ok (.aload_n 0, 1) := by decide +kernel
theorem dX2_request_94 : decode cX2_request 94 = .ok (.getfield 26, 3) := by decide +kernel
theorem dX2_request_97 : decode cX2_request 97 = .ok (.goto 7, 3) := by decide +kernel
theorem dX2_request_100 : decode cX2_request 100 = .ok (.aload_n 0, 1) := by decide +kernel
theorem dX2_request_101 : decode cX2_request 101 = .ok (.getfield 30, 3) := by decide +kernel
theorem dX2_request_104 : decode cX2_request 104 = .ok (.putfield 30, 3) := by decide +kernel
theorem dX2_request_107 : decode cX2_request 107 = .ok (.goto 60, 3) := by decide +kernel
theorem dX2_request_110 : decode cX2_request 110 = .ok (.iload_n 2, 1) := by decide +kernel
theorem dX2_request_111 : decode cX2_request 111 = .ok (.iconst 4, 1) := by decide +kernel
theorem dX2_request_112 : decode cX2_request 112 = .ok (.if_icmp .ne 55, 3) := by decide +kernel
theorem dX2_request_115 : decode cX2_request 115 = .ok (.aload_n 0, 1) := by decide +kernel
theorem dX2_request_116 : decode cX2_request 116 = .ok (.getfield 13, 3) := by decide +kernel
theorem dX2_request_119 : decode cX2_request 119 = .ok (.iconst 3, 1) := by decide +kernel
theorem dX2_request_120 : decode cX2_request 120 = .ok (.iaload, 1) := by decide +kernel
theorem dX2_request_121 : decode cX2_request 121 = .ok (.aload_n 0, 1) := by decide +kernel
theorem dX2_request_122 : decode cX2_request 122 = .ok (.getfield 13, 3) := by decide +kernel
theorem dX2_request_125 : decode cX2_request 125 = .ok (.iconst 4, 1) := by decide +kernel
theorem dX2_request_126 : decode cX2_request 126 = .ok (.iaload, 1) := by decide +kernel
theorem dX2_request_127 : decode cX2_request 127 = .ok (.idiv, 1) := by decide +kernel
theorem dX2_request_128 : decode cX2_request 128 = .ok (.istore_n 3, 1) := by decide +kernel
theorem dX2_request_129 : decode cX2_request 129 = .ok (.aload_n 0, 1) := by decide +kernel
theorem dX2_request_130 : decode cX2_request 130 = .ok (.dup, 1) := by decide +kernel
theorem dX2_request_131 : decode cX2_request 131 = .ok (.getfield 30, 3) := by decide +kernel
theorem dX2_request_134 : decode cX2_request 134 = .ok (.iload_n 3, 1) := by decide +kernel
theorem dX2_request_135 : decode cX2_request 135 = .ok (.iconst 1, 1) := by decide +kernel
theorem dX2_request_136 : decode cX2_request 136 = .ok (.if_icmp .ge 7, 3) := by decide +kernel
theorem dX2_request_139 : decode cX2_request 139 = .ok (.iconst 1, 1) := by decide +kernel
theorem dX2_request_140 : decode cX2_request 140 = .ok (.goto 4, 3) := by decide +kernel
theorem dX2_request_143 : decode cX2_request 143 = .ok (.iload_n 3, 1) := by decide +kernel
theorem dX2_request_144 : decode cX2_request 144 = .ok (.isub, 1) := by decide +kernel
theorem dX2_request_145 : decode cX2_request 145 = .ok (.putfield 30, 3) := by decide +kernel
theorem dX2_request_148 : decode cX2_request 148 = .ok (.aload_n 0, 1) := by decide +kernel
theorem dX2_request_149 : decode cX2_request 149 = .ok (.aload_n 0, 1) := by decide +kernel
theorem dX2_request_150 : decode cX2_request 150 = .ok (.getfield 30, 3) := by decide +kernel
theorem dX2_request_153 : decode cX2_request 153 = .ok (.ifCond .ge 7, 3) := by decide +kernel
theorem dX2_request_156 : decode cX2_request 156 = .ok (.iconst 0, 1) := by decide +kernel
theorem dX2_request_157 : decode cX2_request 157 = .ok (.goto 7, 3) := by decide +kernel
theorem dX2_request_160 : decode cX2_request 160 = .ok (.aload_n 0, 1) := by decide +kernel
theorem dX2_request_161 : decode cX2_request 161 = .ok (.getfield 30, 3) := by decide +kernel
theorem dX2_request_164 : decode cX2_request 164 = .ok (.putfield 30, 3) := by decide +kernel
theorem dX2_request_167 : decode cX2_request 167 = .ok (.iload_n 2, 1) := by decide +kernel
theorem dX2_request_168 : decode cX2_request 168 = .ok (.ifCond .ne 11, 3) := by decide +kernel
theorem dX2_request_171 : decode cX2_request 171 = .ok (.aload_n 0, 1) := by decide +kernel
theorem dX2_request_172 : decode cX2_request 172 = .ok (.iload_n 1, 1) := by decide +kernel
theorem dX2_request_173 : decode cX2_request 173 = .ok (.invokevirtual 66, 3) := by decide +kernel
theorem dX2_request_176 : decode cX2_request 176 = .ok (.goto 14, 3) := by decide +kernel
theorem dX2_request_179 : decode cX2_request 179 = .ok (.aload_n 0, 1) := by decide +kernel
theorem dX2_request_180 : decode cX2_request 180 = .ok (.iload_n 1, 1) := by decide +kernel
theorem dX2_request_181 : decode cX2_request 181 = .ok (.invokevirtual 63, 3) := by decide +kernel
theorem dX2_request_184 : decode cX2_request 184 = .ok (.aload_n 0, 1) := by decide +kernel
theorem dX2_request_185 : decode cX2_request 185 = .ok (.iload_n 1, 1) := by decide +kernel
theorem dX2_request_186 : decode cX2_request 186 = .ok (.iconst 2, 1) := by decide +kernel
theorem dX2_request_187 : decode cX2_request 187 = .ok (.invokevirtual 59, 3) := by decide +kernel
theorem dX2_request_190 : decode cX2_request 190 = .ok (.aload_n 0, 1) := by decide +kernel
theorem dX2_request_191 : decode cX2_request 191 = .ok (.getfield 19, 3) := by decide +kernel
theorem dX2_request_194 : decode cX2_request 194 = .ok (.iload_n 1, 1) := by decide +kernel
theorem dX2_request_195 : decode cX2_request 195 = .ok (.aload_n 0, 1) := by decide +kernel
theorem dX2_request_196 : decode cX2_request 196 = .ok (.getfield 16, 3) := by decide +kernel
theorem dX2_request_199 : decode cX2_request 199 = .ok (.iload_n 1, 1) := by decide +kernel
theorem dX2_request_200 : decode cX2_request 200 = .ok (.iaload, 1) := by decide +kernel
theorem dX2_request_201 : decode cX2_request 201 = .ok (.iastore, 1) := by decide +kernel
theorem dX2_request_202 : decode cX2_request 202 = .ok (.aload_n 0, 1) := by decide +kernel
theorem dX2_request_203 : decode cX2_request 203 = .ok (.getfield 22, 3) := by decide +kernel
theorem dX2_request_206 : decode cX2_request 206 = .ok (.iload_n 1, 1) := by decide +kernel
theorem dX2_request_207 : decode cX2_request 207 = .ok (.iconst 0, 1) := by decide +kernel
theorem dX2_request_208 : decode cX2_request 208 = .ok (.bastore, 1) := by decide +kernel
theorem dX2_request_209 : decode cX2_request 209 = .ok (.return_, 1) := by decide +kernel
set_option maxRecDepth 20000 in
theorem ggX2_read_X2_isAddress : GoodIn wsX2_read wsX2_isAddress := goodIn_r _ [5] (by decide +kernel) (by decide +kernel)
set_option maxRecDepth 20000 in
theorem gX2_read_X2_isAddress : GoodIn wsX2_read (va_wsS RX2 69 yX2_isAddress wsX2_isAddress) := goodIn_app (goodIn_of _ (by decide +kernel)) ggX2_read_X2_isAddress
set_option maxRecDepth 20000 in
theorem ggX2_read_X2_request : GoodIn wsX2_read wsX2_request := goodIn_r _ [9, 10, 11, 12, 13, 14, 1, 15, 16, 17, 18, 19, 4, 20, 21, 22, 23, 24, 25, 26, 27, 28, 29, 30, 31, 32, 33, 34, 35, 36, 37, 38, 39, 40, 41, 42, 43, 44, 45, 46, 47, 48, 49, 50, 51, 52, 53, 54, 55, 56, 57, 58, 59, 60] (by decide +kernel) (by decide +kernel)
set_option maxRecDepth 20000 in
theorem gX2_read_X2_request : GoodIn wsX2_read (wsV RX2 73 RX2 yX2_request wsX2_request) := goodIn_app (goodIn_of _ (by decide +kernel)) ggX2_read_X2_request
theorem dX2_read_0 : decode cX2_read 0 = .ok (.iload_n 1, 1) := by decide +kernel
theorem dX2_read_1 : decode cX2_read 1 = .ok (.invokestatic 69, 3) := by decide +kernel
theorem dX2_read_4 : decode cX2_read 4 = .ok (.ifCond .ne 5, 3) := by decide +kernel
theorem dX2_read_7 : decode cX2_read 7 = .ok (.iconst 0, 1) := by decide +kernel
theorem dX2_read_8 : decode cX2_read 8 = .ok (.ireturn, 1) := by decide +kernel
theorem dX2_read_9 : decode cX2_read 9 = .ok (.aload_n 0, 1) := by decide +kernel
theorem dX2_read_10 : decode cX2_read 10 = .ok (.iload_n 1, 1) := by decide +kernel
theorem dX2_read_11 : decode cX2_read 11 = .ok (.invokevirtual 73, 3) := by decide +kernel
theorem dX2_read_14 : decode cX2_read 14 = .ok (.aload_n 0, 1) := by decide +kernel
theorem dX2_read_15 : decode cX2_read 15 = .ok (.getfield 19, 3) := by decide +kernel
theorem dX2_read_18 : decode cX2_read 18 = .ok (.iload_n 1, 1) := by decide +kernel
theorem dX2_read_19 : decode cX2_read 19 = .ok (.iaload, 1) := by decide +kernel
theorem dX2_read_20 : decode cX2_read 20 = .ok (.ireturn, 1) := by decide +kernel
set_option maxRecDepth 20000 in
theorem ggX2_write_X2_isAddress : GoodIn wsX2_write wsX2_isAddress := goodIn_r _ [6] (by decide +kernel) (by decide +kernel)
set_option maxRecDepth 20000 in
theorem gX2_write_X2_isAddress : GoodIn wsX2_write (va_wsS RX2 69 yX2_isAddress wsX2_isAddress) := goodIn_app (goodIn_of _ (by decide +kernel)) ggX2_write_X2_isAddress
set_option maxRecDepth 20000 in
theorem ggX2_write_X2_request : GoodIn wsX2_write wsX2_request := goodIn_r _ [10, 11, 12, 13, 14, 15, 1, 16, 2, 17, 18, 19, 5, 20, 21, 22, 23, 24, 25, 26, 27, 28, 29, 30, 31, 32, 33, 34, 35, 36, 37, 38, 39, 40, 41, 42, 43, 44, 45, 46, 47, 48, 49, 50, 51, 52, 53, 54, 55, 56, 57, 58, 59, 60] (by decide +kernel) (by decide +kernel)
set_option maxRecDepth 20000 in
theorem gX2_write_X2_request : GoodIn wsX2_write (wsV RX2 73 RX2 yX2_request wsX2_request) := goodIn_app (goodIn_of _ (by decide +kernel)) ggX2_write_X2_request
theorem dX2_write_0 : decode cX2_write 0 = .ok (.iload_n 1, 1) := by decide +kernel
theorem dX2_write_1 : decode cX2_write 1 = .ok (.invokestatic 69, 3) := by decide +kernel
theorem dX2_write_4 : decode cX2_write 4 = .ok (.ifCond .ne 5, 3) := by decide +kernel
theorem dX2_write_7 : decode cX2_write 7 = .ok (.iconst 0, 1) := by decide +kernel
theorem dX2_write_8 : decode cX2_write 8 = .ok (.ireturn, 1) := by decide +kernel
theorem dX2_write_9 : decode cX2_write 9 = .ok (.aload_n 0, 1) := by decide +kernel
theorem dX2_write_10 : decode cX2_write 10 = .ok (.iload_n 1, 1) := by decide +kernel
theorem dX2_write_11 : decode cX2_write 11 = .ok (.invokevirtual 73, 3) := by decide +kernel
theorem dX2_write_14 : decode cX2_write 14 = .ok (.aload_n 0, 1) := by decide +kernel
theorem dX2_write_15 : decode cX2_write 15 = .ok (.getfield 19, 3) := by decide +kernel
theorem dX2_write_18 : decode cX2_write 18 = .ok (.iload_n 1, 1) := by decide +kernel
theorem dX2_write_19 : decode cX2_write 19 = .ok (.iload_n 2, 1) := by decide +kernel
theorem dX2_write_20 : decode cX2_write 20 = .ok (.iastore, 1) := by decide +kernel
theorem dX2_write_21 : decode cX2_write 21 = .ok (.aload_n 0, 1) := by decide +kernel
theorem dX2_write_22 : decode cX2_write 22 = .ok (.getfield 22, 3) := by decide +kernel
theorem dX2_write_25 : decode cX2_write 25 = .ok (.iload_n 1, 1) := by decide +kernel
theorem dX2_write_26 : decode cX2_write 26 = .ok (.iconst 1, 1) := by decide +kernel
theorem dX2_write_27 : decode cX2_write 27 = .ok (.bastore, 1) := by decide +kernel
theorem dX2_write_28 : decode cX2_write 28 = .ok (.iconst 1, 1) := by decide +kernel
theorem dX2_write_29 : decode cX2_write 29 = .ok (.ireturn, 1) := by decide +kernel
set_option maxRecDepth 20000 in
theorem ggX2_flush_X2_clean : GoodIn wsX2_flush wsX2_clean := goodIn_r _ [6, 7, 1, 8, 9, 10, 11, 12, 13, 14, 15, 16, 17, 18] (by decide +kernel) (by decide +kernel)
set_option maxRecDepth 20000 in
theorem gX2_flush_X2_clean : GoodIn wsX2_flush (wsV RX2 50 RX2 yX2_clean wsX2_clean) := goodIn_app (goodIn_of _ (by decide +kernel)) ggX2_flush_X2_clean
theorem dX2_flush_0 : decode cX2_flush 0 = .ok (.iconst 0, 1) := by decide +kernel
theorem dX2_flush_1 : decode cX2_flush 1 = .ok (.istore_n 1, 1) := by decide +kernel
theorem dX2_flush_2 : decode cX2_flush 2 = .ok (.iconst 0, 1) := by decide +kernel
theorem dX2_flush_3 : decode cX2_flush 3 = .ok (.istore_n 2, 1) := by decide +kernel
theorem dX2_flush_4 : decode cX2_flush 4 = .ok (.iload_n 2, 1) := by decide +kernel
theorem dX2_flush_5 : decode cX2_flush 5 = .ok (.bipush 64, 2) := by decide +kernel
theorem dX2_flush_7 : decode cX2_flush 7 = .ok (.if_icmp .ge 31, 3) := by decide +kernel
theorem dX2_flush_10 : decode cX2_flush 10 = .ok (.iload_n 1, 1) := by decide +kernel
theorem dX2_flush_11 : decode cX2_flush 11 = .ok (.aload_n 0, 1) := by decide +kernel
theorem dX2_flush_12 : decode cX2_flush 12 = .ok (.getfield 22, 3) := by decide +kernel
theorem dX2_flush_15 : decode cX2_flush 15 = .ok (.iload_n 2, 1) := by decide +kernel
theorem dX2_flush_16 : decode cX2_flush 16 = .ok (.baload, 1) := by decide +kernel
theorem dX2_flush_17 : decode cX2_flush 17 = .ok (.ifCond .eq 7, 3) := by decide +kernel
theorem dX2_flush_20 : decode cX2_flush 20 = .ok (.iconst 1, 1) := by decide +kernel
theorem dX2_flush_21 : decode cX2_flush 21 = .ok (.goto 4, 3) := by decide +kernel
theorem dX2_flush_24 : decode cX2_flush 24 = .ok (.iconst 0, 1) := by decide +kernel
theorem dX2_flush_25 : decode cX2_flush 25 = .ok (.iadd, 1) := by decide +kernel
theorem dX2_flush_26 : decode cX2_flush 26 = .ok (.istore_n 1, 1) := by decide +kernel
theorem dX2_flush_27 : decode cX2_flush 27 = .ok (.aload_n 0, 1) := by decide +kernel
theorem dX2_flush_28 : decode cX2_flush 28 = .ok (.iload_n 2, 1) := by decide +kernel
theorem dX2_flush_29 : decode cX2_flush 29 = .ok (.invokevirtual 50, 3) := by decide +kernel
theorem dX2_flush_32 : decode cX2_flush 32 = .ok (.iinc 2 1, 3) := by decide +kernel
theorem dX2_flush_35 : decode cX2_flush 35 = .ok (.goto (-31), 3) := by decide +kernel
theorem dX2_flush_38 : decode cX2_flush 38 = .ok (.iload_n 1, 1) := by decide +kernel
theorem dX2_flush_39 : decode cX2_flush 39 = .ok (.ireturn, 1) := by decide +kernel
theorem dX2_at_0 : decode cX2_at 0 = .ok (.iload_n 1, 1) := by decide +kernel
theorem dX2_at_1 : decode cX2_at 1 = .ok (.iconst 1, 1) := by decide +kernel
theorem dX2_at_2 : decode cX2_at 2 = .ok (.if_icmp .lt 22, 3) := by decide +kernel
theorem dX2_at_5 : decode cX2_at 5 = .ok (.iload_n 1, 1) := by decide +kernel
theorem dX2_at_6 : decode cX2_at 6 = .ok (.iconst 4, 1) := by decide +kernel
theorem dX2_at_7 : decode cX2_at 7 = .ok (.if_icmp .gt 17, 3) := by decide +kernel
theorem dX2_at_10 : decode cX2_at 10 = .ok (.iload_n 2, 1) := by decide +kernel
theorem dX2_at_11 : decode cX2_at 11 = .ok (.ifCond .lt 13, 3) := by decide +kernel
theorem dX2_at_14 : decode cX2_at 14 = .ok (.iload_n 2, 1) := by decide +kernel
theorem dX2_at_15 : decode cX2_at 15 = .ok (.aload_n 0, 1) := by decide +kernel
theorem dX2_at_16 : decode cX2_at 16 = .ok (.getfield 13, 3) := by decide +kernel
theorem dX2_at_19 : decode cX2_at 19 = .ok (.iload_n 1, 1) := by decide +kernel
theorem dX2_at_20 : decode cX2_at 20 = .ok (.iaload, 1) := by decide +kernel
theorem dX2_at_21 : decode cX2_at 21 = .ok (.if_icmp .lt 7, 3) := by decide +kernel
theorem dX2_at_24 : decode cX2_at 24 = .ok (.iconst (-1), 1) := by decide +kernel
theorem dX2_at_25 : decode cX2_at 25 = .ok (.goto 14, 3) := by decide +kernel
theorem dX2_at_28 : decode cX2_at 28 = .ok (.aload_n 0, 1) := by decide +kernel
theorem dX2_at_29 : decode cX2_at 29 = .ok (.getfield 7, 3) := by decide +kernel
theorem dX2_at_32 : decode cX2_at 32 = .ok (.bipush 64, 2) := by decide +kernel
theorem dX2_at_34 : decode cX2_at 34 = .ok (.iload_n 1, 1) := by decide +kernel
theorem dX2_at_35 : decode cX2_at 35 = .ok (.imul, 1) := by decide +kernel
theorem dX2_at_36 : decode cX2_at 36 = .ok (.iload_n 2, 1) := by decide +kernel
theorem dX2_at_37 : decode cX2_at 37 = .ok (.iadd, 1) := by decide +kernel
theorem dX2_at_38 : decode cX2_at 38 = .ok (.iaload, 1) := by decide +kernel
theorem dX2_at_39 : decode cX2_at 39 = .ok (.ireturn, 1) := by decide +kernel
theorem dX2_length_0 : decode cX2_length 0 = .ok (.iload_n 1, 1) := by decide +kernel
theorem dX2_length_1 : decode cX2_length 1 = .ok (.iconst 1, 1) := by decide +kernel
theorem dX2_length_2 : decode cX2_length 2 = .ok (.if_icmp .lt 8, 3) := by decide +kernel
theorem dX2_length_5 : decode cX2_length 5 = .ok (.iload_n 1, 1) := by decide +kernel
theorem dX2_length_6 : decode cX2_length 6 = .ok (.iconst 4, 1) := by decide +kernel
theorem dX2_length_7 : decode cX2_length 7 = .ok (.if_icmp .le 7, 3) := by decide +kernel
theorem dX2_length_10 : decode cX2_length 10 = .ok (.iconst (-1), 1) := by decide +kernel
theorem dX2_length_11 : decode cX2_length 11 = .ok (.goto 9, 3) := by decide +kernel
theorem dX2_length_14 : decode cX2_length 14 = .ok (.aload_n 0, 1) := by decide +kernel
theorem dX2_length_15 : decode cX2_length 15 = .ok (.getfield 13, 3) := by decide +kernel
theorem dX2_length_18 : decode cX2_length 18 = .ok (.iload_n 1, 1) := by decide +kernel
theorem dX2_length_19 : decode cX2_length 19 = .ok (.iaload, 1) := by decide +kernel
theorem dX2_length_20 : decode cX2_length 20 = .ok (.ireturn, 1) := by decide +kernel
theorem dX2_target_0 : decode cX2_target 0 = .ok (.aload_n 0, 1) := by decide +kernel
theorem dX2_target_1 : decode cX2_target 1 = .ok (.getfield 30, 3) := by decide +kernel
theorem dX2_target_4 : decode cX2_target 4 = .ok (.ireturn, 1) := by decide +kernel
theorem dX2_hits_0 : decode cX2_hits 0 = .ok (.aload_n 0, 1) := by decide +kernel
theorem dX2_hits_1 : decode cX2_hits 1 = .ok (.getfield 33, 3) := by decide +kernel
theorem dX2_hits_4 : decode cX2_hits 4 = .ok (.ireturn, 1) := by decide +kernel
theorem dX2_misses_0 : decode cX2_misses 0 = .ok (.aload_n 0, 1) := by decide +kernel
theorem dX2_misses_1 : decode cX2_misses 1 = .ok (.getfield 36, 3) := by decide +kernel
theorem dX2_misses_4 : decode cX2_misses 4 = .ok (.ireturn, 1) := by decide +kernel
set_option maxRecDepth 20000 in
theorem ggX2_store_X2_isAddress : GoodIn wsX2_store wsX2_isAddress := goodIn_r _ [5] (by decide +kernel) (by decide +kernel)
set_option maxRecDepth 20000 in
theorem gX2_store_X2_isAddress : GoodIn wsX2_store (va_wsS RX2 69 yX2_isAddress wsX2_isAddress) := goodIn_app (goodIn_of _ (by decide +kernel)) ggX2_store_X2_isAddress
theorem dX2_store_0 : decode cX2_store 0 = .ok (.iload_n 1, 1) := by decide +kernel
theorem dX2_store_1 : decode cX2_store 1 = .ok (.invokestatic 69, 3) := by decide +kernel
theorem dX2_store_4 : decode cX2_store 4 = .ok (.ifCond .eq 12, 3) := by decide +kernel
theorem dX2_store_7 : decode cX2_store 7 = .ok (.aload_n 0, 1) := by decide +kernel
theorem dX2_store_8 : decode cX2_store 8 = .ok (.getfield 16, 3) := by decide +kernel
theorem dX2_store_11 : decode cX2_store 11 = .ok (.iload_n 1, 1) := by decide +kernel
theorem dX2_store_12 : decode cX2_store 12 = .ok (.iaload, 1) := by decide +kernel
theorem dX2_store_13 : decode cX2_store 13 = .ok (.goto 4, 3) := by decide +kernel
theorem dX2_store_16 : decode cX2_store 16 = .ok (.iconst 0, 1) := by decide +kernel
theorem dX2_store_17 : decode cX2_store 17 = .ok (.ireturn, 1) := by decide +kernel
set_option maxRecDepth 20000 in
theorem ggX2_isDirty_X2_isAddress : GoodIn wsX2_isDirty wsX2_isAddress := goodIn_r _ [5] (by decide +kernel) (by decide +kernel)
set_option maxRecDepth 20000 in
theorem gX2_isDirty_X2_isAddress : GoodIn wsX2_isDirty (va_wsS RX2 69 yX2_isAddress wsX2_isAddress) := goodIn_app (goodIn_of _ (by decide +kernel)) ggX2_isDirty_X2_isAddress
theorem dX2_isDirty_0 : decode cX2_isDirty 0 = .ok (.iload_n 1, 1) := by decide +kernel
theorem dX2_isDirty_1 : decode cX2_isDirty 1 = .ok (.invokestatic 69, 3) := by decide +kernel
theorem dX2_isDirty_4 : decode cX2_isDirty 4 = .ok (.ifCond .eq 16, 3) := by decide +kernel
theorem dX2_isDirty_7 : decode cX2_isDirty 7 = .ok (.aload_n 0, 1) := by decide +kernel
theorem dX2_isDirty_8 : decode cX2_isDirty 8 = .ok (.getfield 22, 3) := by decide +kernel
theorem dX2_isDirty_11 : decode cX2_isDirty 11 = .ok (.iload_n 1, 1) := by decide +kernel
theorem dX2_isDirty_12 : decode cX2_isDirty 12 = .ok (.baload, 1) := by decide +kernel
theorem dX2_isDirty_13 : decode cX2_isDirty 13 = .ok (.ifCond .eq 7, 3) := by decide +kernel
theorem dX2_isDirty_16 : decode cX2_isDirty 16 = .ok (.iconst 1, 1) := by decide +kernel
theorem dX2_isDirty_17 : decode cX2_isDirty 17 = .ok (.goto 4, 3) := by decide +kernel
theorem dX2_isDirty_20 : decode cX2_isDirty 20 = .ok (.iconst 0, 1) := by decide +kernel
theorem dX2_isDirty_21 : decode cX2_isDirty 21 = .ok (.ireturn, 1) := by decide +kernel
theorem dX2_gone_0 : decode cX2_gone 0 = .ok (.aload_n 0, 1) := by decide +kernel
theorem dX2_gone_1 : decode cX2_gone 1 = .ok (.getfield 39, 3) := by decide +kernel
theorem dX2_gone_4 : decode cX2_gone 4 = .ok (.ireturn, 1) := by decide +kernel
theorem dJ9_floorMod_7cf53_0 : decode cJ9_floorMod_7cf53 0 = .ok (.iload_n 0, 1) := by decide +kernel
theorem dJ9_floorMod_7cf53_1 : decode cJ9_floorMod_7cf53 1 = .ok (.iload_n 1, 1) := by decide +kernel
theorem dJ9_floorMod_7cf53_2 : decode cJ9_floorMod_7cf53 2 = .ok (.irem, 1) := by decide +kernel
theorem dJ9_floorMod_7cf53_3 : decode cJ9_floorMod_7cf53 3 = .ok (.istore_n 2, 1) := by decide +kernel
theorem dJ9_floorMod_7cf53_4 : decode cJ9_floorMod_7cf53 4 = .ok (.iload_n 0, 1) := by decide +kernel
theorem dJ9_floorMod_7cf53_5 : decode cJ9_floorMod_7cf53 5 = .ok (.iload_n 1, 1) := by decide +kernel
theorem dJ9_floorMod_7cf53_6 : decode cJ9_floorMod_7cf53 6 = .ok (.ixor, 1) := by decide +kernel
theorem dJ9_floorMod_7cf53_7 : decode cJ9_floorMod_7cf53 7 = .ok (.ifCond .ge 11, 3) := by decide +kernel
theorem dJ9_floorMod_7cf53_10 : decode cJ9_floorMod_7cf53 10 = .ok (.iload_n 2, 1) := by decide +kernel
theorem dJ9_floorMod_7cf53_11 : decode cJ9_floorMod_7cf53 11 = .ok (.ifCond .eq 7, 3) := by decide +kernel
theorem dJ9_floorMod_7cf53_14 : decode cJ9_floorMod_7cf53 14 = .ok (.iload_n 2, 1) := by decide +kernel
theorem dJ9_floorMod_7cf53_15 : decode cJ9_floorMod_7cf53 15 = .ok (.iload_n 1, 1) := by decide +kernel
theorem dJ9_floorMod_7cf53_16 : decode cJ9_floorMod_7cf53 16 = .ok (.iadd, 1) := by decide +kernel
theorem dJ9_floorMod_7cf53_17 : decode cJ9_floorMod_7cf53 17 = .ok (.ireturn, 1) := by decide +kernel
theorem dJ9_floorMod_7cf53_18 : decode cJ9_floorMod_7cf53 18 = .ok (.iload_n 2, 1) := by decide +kernel
theorem dJ9_floorMod_7cf53_19 : decode cJ9_floorMod_7cf53 19 = .ok (.ireturn, 1) := by decide +kernel
theorem dJ9_max_7cf53_0 : decode cJ9_max_7cf53 0 = .ok (.iload_n 0, 1) := by decide +kernel
theorem dJ9_max_7cf53_1 : decode cJ9_max_7cf53 1 = .ok (.iload_n 1, 1) := by decide +kernel
theorem dJ9_max_7cf53_2 : decode cJ9_max_7cf53 2 = .ok (.if_icmp .lt 7, 3) := by decide +kernel
theorem dJ9_max_7cf53_5 : decode cJ9_max_7cf53 5 = .ok (.iload_n 0, 1) := by decide +kernel
theorem dJ9_max_7cf53_6 : decode cJ9_max_7cf53 6 = .ok (.goto 4, 3) := by decide +kernel
theorem dJ9_max_7cf53_9 : decode cJ9_max_7cf53 9 = .ok (.iload_n 1, 1) := by decide +kernel
theorem dJ9_max_7cf53_10 : decode cJ9_max_7cf53 10 = .ok (.ireturn, 1) := by decide +kernel
theorem dJ9_min_7cf53_0 : decode cJ9_min_7cf53 0 = .ok (.iload_n 0, 1) := by decide +kernel
theorem dJ9_min_7cf53_1 : decode cJ9_min_7cf53 1 = .ok (.iload_n 1, 1) := by decide +kernel
theorem dJ9_min_7cf53_2 : decode cJ9_min_7cf53 2 = .ok (.if_icmp .gt 7, 3) := by decide +kernel
theorem dJ9_min_7cf53_5 : decode cJ9_min_7cf53 5 = .ok (.iload_n 0, 1) := by decide +kernel
theorem dJ9_min_7cf53_6 : decode cJ9_min_7cf53 6 = .ok (.goto 4, 3) := by decide +kernel
theorem dJ9_min_7cf53_9 : decode cJ9_min_7cf53 9 = .ok (.iload_n 1, 1) := by decide +kernel
theorem dJ9_min_7cf53_10 : decode cJ9_min_7cf53 10 = .ok (.ireturn, 1) := by decide +kernel
theorem dJ7_fill_53178_0 : decode cJ7_fill_53178 0 = .ok (.iconst 0, 1) := by decide +kernel
theorem dJ7_fill_53178_1 : decode cJ7_fill_53178 1 = .ok (.istore_n 2, 1) := by decide +kernel
theorem dJ7_fill_53178_2 : decode cJ7_fill_53178 2 = .ok (.aload_n 0, 1) := by decide +kernel
theorem dJ7_fill_53178_3 : decode cJ7_fill_53178 3 = .ok (.arraylength, 1) := by decide +kernel
theorem dJ7_fill_53178_4 : decode cJ7_fill_53178 4 = .ok (.istore_n 3, 1) := by decide +kernel
theorem dJ7_fill_53178_5 : decode cJ7_fill_53178 5 = .ok (.iload_n 2, 1) := by decide +kernel
theorem dJ7_fill_53178_6 : decode cJ7_fill_53178 6 = .ok (.iload_n 3, 1) := by decide +kernel
theorem dJ7_fill_53178_7 : decode cJ7_fill_53178 7 = .ok (.if_icmp .ge 13, 3) := by decide +kernel
theorem dJ7_fill_53178_10 : decode cJ7_fill_53178 10 = .ok (.aload_n 0, 1) := by decide +kernel
theorem dJ7_fill_53178_11 : decode cJ7_fill_53178 11 = .ok (.iload_n 2, 1) := by decide +kernel
theorem dJ7_fill_53178_12 : decode cJ7_fill_53178 12 = .ok (.iload_n 1, 1) := by decide +kernel
theorem dJ7_fill_53178_13 : decode cJ7_fill_53178 13 = .ok (.iastore, 1) := by decide +kernel
theorem dJ7_fill_53178_14 : decode cJ7_fill_53178 14 = .ok (.iinc 2 1, 3) := by decide +kernel
theorem dJ7_fill_53178_17 : decode cJ7_fill_53178 17 = .ok (.goto (-12), 3) := by decide +kernel
theorem dJ7_fill_53178_20 : decode cJ7_fill_53178 20 = .ok (.return_, 1) := by decide +kernel
theorem dL_cell_0 : decode cL_cell 0 = .ok (.iload_n 1, 1) := by decide +kernel
theorem dL_cell_1 : decode cL_cell 1 = .ok (.aload_n 0, 1) := by decide +kernel
theorem dL_cell_2 : decode cL_cell 2 = .ok (.arraylength, 1) := by decide +kernel
theorem dL_cell_3 : decode cL_cell 3 = .ok (.if_icmp .ge 9, 3) := by decide +kernel
theorem dL_cell_6 : decode cL_cell 6 = .ok (.aload_n 0, 1) := by decide +kernel
theorem dL_cell_7 : decode cL_cell 7 = .ok (.iload_n 1, 1) := by decide +kernel
theorem dL_cell_8 : decode cL_cell 8 = .ok (.iaload, 1) := by decide +kernel
theorem dL_cell_9 : decode cL_cell 9 = .ok (.goto 4, 3) := by decide +kernel
theorem dL_cell_12 : decode cL_cell 12 = .ok (.iconst 0, 1) := by decide +kernel
theorem dL_cell_13 : decode cL_cell 13 = .ok (.ireturn, 1) := by decide +kernel
set_option maxRecDepth 20000 in
theorem ggL_law_L_cell : GoodIn wsL_law wsL_cell := goodIn_r _ [9] (by decide +kernel) (by decide +kernel)
set_option maxRecDepth 20000 in
theorem gL_law_L_cell : GoodIn wsL_law (va_wsS RL 9 yL_cell wsL_cell) := goodIn_app (goodIn_of _ (by decide +kernel)) ggL_law_L_cell
set_option maxRecDepth 20000 in
theorem ggL_law_X1_init : GoodIn wsL_law wsX1_init := goodIn_r _ [12, 13, 14, 15, 16, 17, 18, 19, 20, 21, 22, 23, 24, 25, 26, 27, 28, 29, 30, 31, 32, 33, 34, 35, 36, 322, 323, 300, 301, 302, 303, 304, 305, 306, 307, 308, 309, 310, 311] (by decide +kernel) (by decide +kernel)
set_option maxRecDepth 20000 in
theorem gL_law_X1_init : GoodIn wsL_law (wsX1_init) := ggL_law_X1_init
set_option maxRecDepth 20000 in
theorem ggL_law_X2_init : GoodIn wsL_law wsX2_init := goodIn_r _ [39, 40, 14, 15, 23, 41, 42, 43, 44, 25, 45, 46, 312, 313, 314, 315, 316, 317, 318, 319, 320, 321] (by decide +kernel) (by decide +kernel)
set_option maxRecDepth 20000 in
theorem gL_law_X2_init : GoodIn wsL_law (wsX2_init) := ggL_law_X2_init
set_option maxRecDepth 20000 in
theorem ggL_law_X1_init_ : GoodIn wsL_law wsX1_init_ := goodIn_r _ [50, 19, 20, 21, 22, 24, 27, 26, 51, 52, 53, 54, 55, 56, 57, 18, 58, 59, 60, 61, 62, 63, 300, 301, 302, 303, 304, 305, 306, 307, 308, 309, 310, 311, 322, 323] (by decide +kernel) (by decide +kernel)
set_option maxRecDepth 20000 in
theorem gL_law_X1_init_ : GoodIn wsL_law (wsV RL 21 RX1 yX1_init_ wsX1_init_) := goodIn_app (goodIn_of _ (by decide +kernel)) ggL_law_X1_init_
set_option maxRecDepth 20000 in
theorem ggL_law_X2_init_ : GoodIn wsL_law wsX2_init_ := goodIn_r _ [67, 42, 43, 44, 45, 68, 69, 70, 71, 312, 313, 314, 315, 316, 317, 318, 319, 320, 321] (by decide +kernel) (by decide +kernel)
set_option maxRecDepth 20000 in
theorem gL_law_X2_init_ : GoodIn wsL_law (wsV RL 24 RX2 yX2_init_ wsX2_init_) := goodIn_app (goodIn_of _ (by decide +kernel)) ggL_law_X2_init_
set_option maxRecDepth 20000 in
theorem ggL_law_X1_read : GoodIn wsL_law wsX1_read := goodIn_r _ [75, 24, 76, 77, 2, 78, 79, 80, 81, 82, 52, 53, 19, 83, 84, 85, 86, 87, 88, 89, 90, 20, 21, 22, 91, 92, 93, 18, 94, 95, 96, 97, 98, 59, 32, 99, 100, 101, 102, 103, 104, 105, 106, 107, 108, 109, 110, 111, 112, 113, 114, 115, 116, 117, 118, 28, 119, 120, 121, 122, 123, 124, 125, 126, 127, 128, 129, 130, 131, 132, 133, 134, 26, 54, 135, 136, 137, 138, 27, 139, 140, 141, 142, 143, 144, 145, 146, 147, 148, 51, 149, 150, 151, 152, 153, 154, 155, 156, 157, 158, 159, 160, 161, 162, 163, 164, 165, 166, 167, 168, 169, 170, 300, 301, 302, 303, 304, 305, 306, 307, 308, 309, 310, 311, 322, 323] (by decide +kernel) (by decide +kernel)
set_option maxRecDepth 20000 in
theorem gL_law_X1_read : GoodIn wsL_law (wsV RL 25 RX1 yX1_read wsX1_read) := goodIn_app (goodIn_of _ (by decide +kernel)) ggL_law_X1_read
set_option maxRecDepth 20000 in
theorem ggL_law_X2_read : GoodIn wsL_law wsX2_read := goodIn_r _ [174, 44, 175, 176, 5, 177, 178, 179, 180, 181, 69, 70, 42, 68, 46, 43, 45, 182, 183, 184, 185, 41, 186, 187, 188, 189, 190, 191, 192, 193, 194, 195, 196, 197, 198, 199, 200, 201, 202, 203, 204, 205, 206, 207, 208, 209, 71, 210, 211, 212, 213, 312, 313, 314, 315, 316, 317, 318, 319, 320, 321] (by decide +kernel) (by decide +kernel)
set_option maxRecDepth 20000 in
theorem gL_law_X2_read : GoodIn wsL_law (wsV RL 29 RX2 yX2_read wsX2_read) := goodIn_app (goodIn_of _ (by decide +kernel)) ggL_law_X2_read
set_option maxRecDepth 20000 in
theorem ggL_law_X1_write : GoodIn wsL_law wsX1_write := goodIn_r _ [217, 24, 26, 76, 77, 2, 78, 79, 80, 81, 82, 52, 53, 19, 83, 84, 85, 86, 87, 88, 89, 90, 20, 21, 22, 91, 92, 93, 18, 94, 95, 96, 97, 98, 59, 32, 99, 100, 101, 102, 103, 104, 105, 106, 107, 108, 109, 110, 111, 112, 113, 114, 115, 116, 117, 118, 28, 119, 120, 121, 122, 123, 124, 125, 126, 127, 128, 129, 130, 131, 132, 133, 134, 54, 135, 136, 137, 138, 27, 139, 140, 141, 142, 143, 144, 145, 146, 147, 148, 51, 149, 150, 151, 152, 153, 154, 155, 156, 157, 158, 159, 160, 161, 162, 163, 164, 165, 166, 167, 168, 169, 170, 300, 301, 302, 303, 304, 305, 306, 307, 308, 309, 310, 311, 322, 323] (by decide +kernel) (by decide +kernel)
set_option maxRecDepth 20000 in
theorem gL_law_X1_write : GoodIn wsL_law (wsV RL 30 RX1 yX1_write wsX1_write) := goodIn_app (goodIn_of _ (by decide +kernel)) ggL_law_X1_write
set_option maxRecDepth 20000 in
theorem ggL_law_X2_write : GoodIn wsL_law wsX2_write := goodIn_r _ [221, 44, 45, 175, 176, 5, 177, 178, 179, 180, 181, 69, 70, 42, 68, 46, 43, 182, 183, 184, 185, 41, 186, 187, 188, 189, 190, 191, 192, 193, 194, 195, 196, 197, 198, 199, 200, 201, 202, 203, 204, 205, 206, 207, 208, 209, 71, 210, 211, 212, 213, 312, 313, 314, 315, 316, 317, 318, 319, 320, 321] (by decide +kernel) (by decide +kernel)
set_option maxRecDepth 20000 in
theorem gL_law_X2_write : GoodIn wsL_law (wsV RL 34 RX2 yX2_write wsX2_write) := goodIn_app (goodIn_of _ (by decide +kernel)) ggL_law_X2_write
set_option maxRecDepth 20000 in
theorem ggL_law_X1_flush : GoodIn wsL_law wsX1_flush := goodIn_r _ [225, 26, 135, 136, 137, 2, 138, 27, 24, 300, 301, 302, 303, 304, 305, 306, 307, 308, 309, 310, 311] (by decide +kernel) (by decide +kernel)
set_option maxRecDepth 20000 in
theorem gL_law_X1_flush : GoodIn wsL_law (wsV RL 35 RX1 yX1_flush wsX1_flush) := goodIn_app (goodIn_of _ (by decide +kernel)) ggL_law_X1_flush
set_option maxRecDepth 20000 in
theorem ggL_law_X2_flush : GoodIn wsL_law wsX2_flush := goodIn_r _ [229, 45, 210, 211, 212, 5, 213, 43, 44, 312, 313, 314, 315, 316, 317, 318, 319, 320, 321] (by decide +kernel) (by decide +kernel)
set_option maxRecDepth 20000 in
theorem gL_law_X2_flush : GoodIn wsL_law (wsV RL 39 RX2 yX2_flush wsX2_flush) := goodIn_app (goodIn_of _ (by decide +kernel)) ggL_law_X2_flush
set_option maxRecDepth 20000 in
theorem ggL_law_X1_whichList : GoodIn wsL_law wsX1_whichList := goodIn_r _ [86, 87, 88, 89, 2, 90, 19, 20, 21, 22, 91, 92, 93, 18, 94, 95, 96, 97, 98, 59, 32, 300, 301, 302, 303, 304, 305, 306, 307, 308, 309, 310, 311, 322, 323] (by decide +kernel) (by decide +kernel)
set_option maxRecDepth 20000 in
theorem gL_law_X1_whichList : GoodIn wsL_law (wsV RL 40 RX1 yX1_whichList wsX1_whichList) := goodIn_app (goodIn_of _ (by decide +kernel)) ggL_law_X1_whichList
set_option maxRecDepth 20000 in
theorem ggL_law_X2_whichList : GoodIn wsL_law wsX2_whichList := goodIn_r _ [185, 42, 41, 312, 313, 314, 315, 316, 317, 318, 319, 320, 321] (by decide +kernel) (by decide +kernel)
set_option maxRecDepth 20000 in
theorem gL_law_X2_whichList : GoodIn wsL_law (wsV RL 43 RX2 yX2_whichList wsX2_whichList) := goodIn_app (goodIn_of _ (by decide +kernel)) ggL_law_X2_whichList
set_option maxRecDepth 20000 in
theorem ggL_law_X1_at : GoodIn wsL_law wsX1_at := goodIn_r _ [235, 236, 237, 2, 238, 87, 88, 89, 90, 19, 20, 21, 22, 239, 128, 129, 18, 130, 59, 32, 300, 301, 302, 303, 304, 305, 306, 307, 308, 309, 310, 311, 322, 323] (by decide +kernel) (by decide +kernel)
set_option maxRecDepth 20000 in
theorem gL_law_X1_at : GoodIn wsL_law (wsV RL 44 RX1 yX1_at wsX1_at) := goodIn_app (goodIn_of _ (by decide +kernel)) ggL_law_X1_at
set_option maxRecDepth 20000 in
theorem ggL_law_X2_at : GoodIn wsL_law wsX2_at := goodIn_r _ [243, 42, 41, 312, 313, 314, 315, 316, 317, 318, 319, 320, 321] (by decide +kernel) (by decide +kernel)
set_option maxRecDepth 20000 in
theorem gL_law_X2_at : GoodIn wsL_law (wsV RL 48 RX2 yX2_at wsX2_at) := goodIn_app (goodIn_of _ (by decide +kernel)) ggL_law_X2_at
set_option maxRecDepth 20000 in
theorem ggL_law_X1_length : GoodIn wsL_law wsX1_length := goodIn_r _ [247, 236, 237, 2, 238, 87, 88, 89, 90, 19, 20, 21, 22, 119, 120, 121, 18, 122, 59, 300, 301, 302, 303, 304, 305, 306, 307, 308, 309, 310, 311, 322, 323] (by decide +kernel) (by decide +kernel)
set_option maxRecDepth 20000 in
theorem gL_law_X1_length : GoodIn wsL_law (wsV RL 49 RX1 yX1_length wsX1_length) := goodIn_app (goodIn_of _ (by decide +kernel)) ggL_law_X1_length
set_option maxRecDepth 20000 in
theorem ggL_law_X2_length : GoodIn wsL_law wsX2_length := goodIn_r _ [251, 42, 312, 313, 314, 315, 316, 317, 318, 319, 320, 321] (by decide +kernel) (by decide +kernel)
set_option maxRecDepth 20000 in
theorem gL_law_X2_length : GoodIn wsL_law (wsV RL 52 RX2 yX2_length wsX2_length) := goodIn_app (goodIn_of _ (by decide +kernel)) ggL_law_X2_length
set_option maxRecDepth 20000 in
theorem ggL_law_X1_target : GoodIn wsL_law wsX1_target := goodIn_r _ [255, 51, 300, 301, 302, 303, 304, 305, 306, 307, 308, 309, 310, 311] (by decide +kernel) (by decide +kernel)
set_option maxRecDepth 20000 in
theorem gL_law_X1_target : GoodIn wsL_law (wsV RL 53 RX1 yX1_target wsX1_target) := goodIn_app (goodIn_of _ (by decide +kernel)) ggL_law_X1_target
set_option maxRecDepth 20000 in
theorem ggL_law_X2_target : GoodIn wsL_law wsX2_target := goodIn_r _ [259, 68, 312, 313, 314, 315, 316, 317, 318, 319, 320, 321] (by decide +kernel) (by decide +kernel)
set_option maxRecDepth 20000 in
theorem gL_law_X2_target : GoodIn wsL_law (wsV RL 56 RX2 yX2_target wsX2_target) := goodIn_app (goodIn_of _ (by decide +kernel)) ggL_law_X2_target
set_option maxRecDepth 20000 in
theorem ggL_law_X1_hits : GoodIn wsL_law wsX1_hits := goodIn_r _ [263, 52, 300, 301, 302, 303, 304, 305, 306, 307, 308, 309, 310, 311] (by decide +kernel) (by decide +kernel)
set_option maxRecDepth 20000 in
theorem gL_law_X1_hits : GoodIn wsL_law (wsV RL 57 RX1 yX1_hits wsX1_hits) := goodIn_app (goodIn_of _ (by decide +kernel)) ggL_law_X1_hits
set_option maxRecDepth 20000 in
theorem ggL_law_X2_hits : GoodIn wsL_law wsX2_hits := goodIn_r _ [267, 69, 312, 313, 314, 315, 316, 317, 318, 319, 320, 321] (by decide +kernel) (by decide +kernel)
set_option maxRecDepth 20000 in
theorem gL_law_X2_hits : GoodIn wsL_law (wsV RL 60 RX2 yX2_hits wsX2_hits) := goodIn_app (goodIn_of _ (by decide +kernel)) ggL_law_X2_hits
set_option maxRecDepth 20000 in
theorem ggL_law_X1_misses : GoodIn wsL_law wsX1_misses := goodIn_r _ [271, 53, 300, 301, 302, 303, 304, 305, 306, 307, 308, 309, 310, 311] (by decide +kernel) (by decide +kernel)
set_option maxRecDepth 20000 in
theorem gL_law_X1_misses : GoodIn wsL_law (wsV RL 61 RX1 yX1_misses wsX1_misses) := goodIn_app (goodIn_of _ (by decide +kernel)) ggL_law_X1_misses
set_option maxRecDepth 20000 in
theorem ggL_law_X2_misses : GoodIn wsL_law wsX2_misses := goodIn_r _ [275, 70, 312, 313, 314, 315, 316, 317, 318, 319, 320, 321] (by decide +kernel) (by decide +kernel)
set_option maxRecDepth 20000 in
theorem gL_law_X2_misses : GoodIn wsL_law (wsV RL 64 RX2 yX2_misses wsX2_misses) := goodIn_app (goodIn_of _ (by decide +kernel)) ggL_law_X2_misses
set_option maxRecDepth 20000 in
theorem ggL_law_X1_store : GoodIn wsL_law wsX1_store := goodIn_r _ [279, 27, 76, 77, 2, 78, 300, 301, 302, 303, 304, 305, 306, 307, 308, 309, 310, 311] (by decide +kernel) (by decide +kernel)
set_option maxRecDepth 20000 in
theorem gL_law_X1_store : GoodIn wsL_law (wsV RL 65 RX1 yX1_store wsX1_store) := goodIn_app (goodIn_of _ (by decide +kernel)) ggL_law_X1_store
set_option maxRecDepth 20000 in
theorem ggL_law_X2_store : GoodIn wsL_law wsX2_store := goodIn_r _ [283, 43, 175, 176, 5, 177, 312, 313, 314, 315, 316, 317, 318, 319, 320, 321] (by decide +kernel) (by decide +kernel)
set_option maxRecDepth 20000 in
theorem gL_law_X2_store : GoodIn wsL_law (wsV RL 68 RX2 yX2_store wsX2_store) := goodIn_app (goodIn_of _ (by decide +kernel)) ggL_law_X2_store
set_option maxRecDepth 20000 in
theorem ggL_law_X1_isDirty : GoodIn wsL_law wsX1_isDirty := goodIn_r _ [287, 26, 76, 77, 2, 78, 300, 301, 302, 303, 304, 305, 306, 307, 308, 309, 310, 311] (by decide +kernel) (by decide +kernel)
set_option maxRecDepth 20000 in
theorem gL_law_X1_isDirty : GoodIn wsL_law (wsV RL 69 RX1 yX1_isDirty wsX1_isDirty) := goodIn_app (goodIn_of _ (by decide +kernel)) ggL_law_X1_isDirty
set_option maxRecDepth 20000 in
theorem ggL_law_X2_isDirty : GoodIn wsL_law wsX2_isDirty := goodIn_r _ [291, 45, 175, 176, 5, 177, 312, 313, 314, 315, 316, 317, 318, 319, 320, 321] (by decide +kernel) (by decide +kernel)
set_option maxRecDepth 20000 in
theorem gL_law_X2_isDirty : GoodIn wsL_law (wsV RL 73 RX2 yX2_isDirty wsX2_isDirty) := goodIn_app (goodIn_of _ (by decide +kernel)) ggL_law_X2_isDirty
set_option maxRecDepth 20000 in
theorem ggL_law_X1_gone : GoodIn wsL_law wsX1_gone := goodIn_r _ [295, 54, 300, 301, 302, 303, 304, 305, 306, 307, 308, 309, 310, 311] (by decide +kernel) (by decide +kernel)
set_option maxRecDepth 20000 in
theorem gL_law_X1_gone : GoodIn wsL_law (wsV RL 74 RX1 yX1_gone wsX1_gone) := goodIn_app (goodIn_of _ (by decide +kernel)) ggL_law_X1_gone
set_option maxRecDepth 20000 in
theorem ggL_law_X2_gone : GoodIn wsL_law wsX2_gone := goodIn_r _ [299, 71, 312, 313, 314, 315, 316, 317, 318, 319, 320, 321] (by decide +kernel) (by decide +kernel)
set_option maxRecDepth 20000 in
theorem gL_law_X2_gone : GoodIn wsL_law (wsV RL 77 RX2 yX2_gone wsX2_gone) := goodIn_app (goodIn_of _ (by decide +kernel)) ggL_law_X2_gone
theorem dL_law_0 : decode cL_law 0 = .ok (.new 7, 3) := by decide +kernel
theorem dL_law_3 : decode cL_law 3 = .ok (.dup, 1) := by decide +kernel
theorem dL_law_4 : decode cL_law 4 = .ok (.aload_n 0, 1) := by decide +kernel
theorem dL_law_5 : decode cL_law 5 = .ok (.iconst 0, 1) := by decide +kernel
theorem dL_law_6 : decode cL_law 6 = .ok (.invokestatic 9, 3) := by decide +kernel
theorem dL_law_9 : decode cL_law 9 = .ok (.invokespecial 15, 3) := by decide +kernel
theorem dL_law_12 : decode cL_law 12 = .ok (.astore_n 1, 1) := by decide +kernel
theorem dL_law_13 : decode cL_law 13 = .ok (.new 18, 3) := by decide +kernel
theorem dL_law_16 : decode cL_law 16 = .ok (.dup, 1) := by decide +kernel
theorem dL_law_17 : decode cL_law 17 = .ok (.aload_n 0, 1) := by decide +kernel
theorem dL_law_18 : decode cL_law 18 = .ok (.iconst 0, 1) := by decide +kernel
theorem dL_law_19 : decode cL_law 19 = .ok (.invokestatic 9, 3) := by decide +kernel
theorem dL_law_22 : decode cL_law 22 = .ok (.invokespecial 20, 3) := by decide +kernel
theorem dL_law_25 : decode cL_law 25 = .ok (.astore_n 2, 1) := by decide +kernel
theorem dL_law_26 : decode cL_law 26 = .ok (.iconst 1, 1) := by decide +kernel
theorem dL_law_27 : decode cL_law 27 = .ok (.istore_n 3, 1) := by decide +kernel
theorem dL_law_28 : decode cL_law 28 = .ok (.iload_n 3, 1) := by decide +kernel
theorem dL_law_29 : decode cL_law 29 = .ok (.aload_n 0, 1) := by decide +kernel
theorem dL_law_30 : decode cL_law 30 = .ok (.arraylength, 1) := by decide +kernel
theorem dL_law_31 : decode cL_law 31 = .ok (.iconst 3, 1) := by decide +kernel
theorem dL_law_32 : decode cL_law 32 = .ok (.isub, 1) := by decide +kernel
theorem dL_law_33 : decode cL_law 33 = .ok (.if_icmp .gt 338, 3) := by decide +kernel
theorem dL_law_36 : decode cL_law 36 = .ok (.aload_n 0, 1) := by decide +kernel
theorem dL_law_37 : decode cL_law 37 = .ok (.iload_n 3, 1) := by decide +kernel
theorem dL_law_38 : decode cL_law 38 = .ok (.iaload, 1) := by decide +kernel
theorem dL_law_39 : decode cL_law 39 = .ok (.bipush 15, 2) := by decide +kernel
theorem dL_law_41 : decode cL_law 41 = .ok (.iand, 1) := by decide +kernel
theorem dL_law_42 : decode cL_law 42 = .ok (.tableswitch 323 0 12 #[66, 77, 100, 133, 146, 169, 202, 225, 238, 251, 264, 287, 310], 66) := by decide +kernel
theorem dL_law_108 : decode cL_law 108 = .ok (.aload_n 1, 1) := by decide +kernel
theorem dL_law_109 : decode cL_law 109 = .ok (.invokevirtual 21, 3) := by decide +kernel
theorem dL_law_112 : decode cL_law 112 = .ok (.aload_n 2, 1) := by decide +kernel
theorem dL_law_113 : decode cL_law 113 = .ok (.invokevirtual 24, 3) := by decide +kernel
theorem dL_law_116 : decode cL_law 116 = .ok (.goto 249, 3) := by decide +kernel
theorem dL_law_119 : decode cL_law 119 = .ok (.aload_n 1, 1) := by decide +kernel
theorem dL_law_120 : decode cL_law 120 = .ok (.aload_n 0, 1) := by decide +kernel
theorem dL_law_121 : decode cL_law 121 = .ok (.iload_n 3, 1) := by decide +kernel
theorem dL_law_122 : decode cL_law 122 = .ok (.iconst 1, 1) := by decide +kernel
theorem dL_law_123 : decode cL_law 123 = .ok (.iadd, 1) := by decide +kernel
theorem dL_law_124 : decode cL_law 124 = .ok (.iaload, 1) := by decide +kernel
theorem dL_law_125 : decode cL_law 125 = .ok (.invokevirtual 25, 3) := by decide +kernel
theorem dL_law_128 : decode cL_law 128 = .ok (.aload_n 2, 1) := by decide +kernel
theorem dL_law_129 : decode cL_law 129 = .ok (.aload_n 0, 1) := by decide +kernel
theorem dL_law_130 : decode cL_law 130 = .ok (.iload_n 3, 1) := by decide +kernel
theorem dL_law_131 : decode cL_law 131 = .ok (.iconst 1, 1) := by decide +kernel
theorem dL_law_132 : decode cL_law 132 = .ok (.iadd, 1) := by decide +kernel
theorem dL_law_133 : decode cL_law 133 = .ok (.iaload, 1) := by decide +kernel
theorem dL_law_134 : decode cL_law 134 = .ok (.invokevirtual 29, 3) := by decide +kernel
theorem dL_law_137 : decode cL_law 137 = .ok (.if_icmp .eq 228, 3) := by decide +kernel
theorem dL_law_140 : decode cL_law 140 = .ok (.iconst 0, 1) := by decide +kernel
theorem dL_law_141 : decode cL_law 141 = .ok (.ireturn, 1) := by decide +kernel
theorem dL_law_142 : decode cL_law 142 = .ok (.aload_n 1, 1) := by decide +kernel
theorem dL_law_143 : decode cL_law 143 = .ok (.aload_n 0, 1) := by decide +kernel
theorem dL_law_144 : decode cL_law 144 = .ok (.iload_n 3, 1) := by decide +kernel
theorem dL_law_145 : decode cL_law 145 = .ok (.iconst 1, 1) := by decide +kernel
theorem dL_law_146 : decode cL_law 146 = .ok (.iadd, 1) := by decide +kernel
theorem dL_law_147 : decode cL_law 147 = .ok (.iaload, 1) := by decide +kernel
theorem dL_law_148 : decode cL_law 148 = .ok (.aload_n 0, 1) := by decide +kernel
theorem dL_law_149 : decode cL_law 149 = .ok (.iload_n 3, 1) := by decide +kernel
theorem dL_law_150 : decode cL_law 150 = .ok (.iconst 2, 1) := by decide +kernel
theorem dL_law_151 : decode cL_law 151 = .ok (.iadd, 1) := by decide +kernel
theorem dL_law_152 : decode cL_law 152 = .ok (.iaload, 1) := by decide +kernel
theorem dL_law_153 : decode cL_law 153 = .ok (.invokevirtual 30, 3) := by decide +kernel
theorem dL_law_156 : decode cL_law 156 = .ok (.aload_n 2, 1) := by decide +kernel
theorem dL_law_157 : decode cL_law 157 = .ok (.aload_n 0, 1) := by decide +kernel
theorem dL_law_158 : decode cL_law 158 = .ok (.iload_n 3, 1) := by decide +kernel
theorem dL_law_159 : decode cL_law 159 = .ok (.iconst 1, 1) := by decide +kernel
theorem dL_law_160 : decode cL_law 160 = .ok (.iadd, 1) := by decide +kernel
theorem dL_law_161 : decode cL_law 161 = .ok (.iaload, 1) := by decide +kernel
theorem dL_law_162 : decode cL_law 162 = .ok (.aload_n 0, 1) := by decide +kernel
theorem dL_law_163 : decode cL_law 163 = .ok (.iload_n 3, 1) := by decide +kernel
theorem dL_law_164 : decode cL_law 164 = .ok (.iconst 2, 1) := by decide +kernel
theorem dL_law_165 : decode cL_law 165 = .ok (.iadd, 1) := by decide +kernel
theorem dL_law_166 : decode cL_law 166 = .ok (.iaload, 1) := by decide +kernel
theorem dL_law_167 : decode cL_law 167 = .ok (.invokevirtual 34, 3) := by decide +kernel
theorem dL_law_170 : decode cL_law 170 = .ok (.if_icmp .eq 195, 3) := by decide +kernel
theorem dL_law_173 : decode cL_law 173 = .ok (.iconst 0, 1) := by decide +kernel
theorem dL_law_174 : decode cL_law 174 = .ok (.ireturn, 1) := by decide +kernel
theorem dL_law_175 : decode cL_law 175 = .ok (.aload_n 1, 1) := by decide +kernel
theorem dL_law_176 : decode cL_law 176 = .ok (.invokevirtual 35, 3) := by decide +kernel
theorem dL_law_179 : decode cL_law 179 = .ok (.aload_n 2, 1) := by decide +kernel
theorem dL_law_180 : decode cL_law 180 = .ok (.invokevirtual 39, 3) := by decide +kernel
theorem dL_law_183 : decode cL_law 183 = .ok (.if_icmp .eq 182, 3) := by decide +kernel
theorem dL_law_186 : decode cL_law 186 = .ok (.iconst 0, 1) := by decide +kernel
theorem dL_law_187 : decode cL_law 187 = .ok (.ireturn, 1) := by decide +kernel
theorem dL_law_188 : decode cL_law 188 = .ok (.aload_n 1, 1) := by decide +kernel
theorem dL_law_189 : decode cL_law 189 = .ok (.aload_n 0, 1) := by decide +kernel
theorem dL_law_190 : decode cL_law 190 = .ok (.iload_n 3, 1) := by decide +kernel
theorem dL_law_191 : decode cL_law 191 = .ok (.iconst 1, 1) := by decide +kernel
theorem dL_law_192 : decode cL_law 192 = .ok (.iadd, 1) := by decide +kernel
theorem dL_law_193 : decode cL_law 193 = .ok (.iaload, 1) := by decide +kernel
theorem dL_law_194 : decode cL_law 194 = .ok (.invokevirtual 40, 3) := by decide +kernel
theorem dL_law_197 : decode cL_law 197 = .ok (.aload_n 2, 1) := by decide +kernel
theorem dL_law_198 : decode cL_law 198 = .ok (.aload_n 0, 1) := by decide +kernel
theorem dL_law_199 : decode cL_law 199 = .ok (.iload_n 3, 1) := by decide +kernel
theorem dL_law_200 : decode cL_law 200 = .ok (.iconst 1, 1) := by decide +kernel
theorem dL_law_201 : decode cL_law 201 = .ok (.iadd, 1) := by decide +kernel
theorem dL_law_202 : decode cL_law 202 = .ok (.iaload, 1) := by decide +kernel
theorem dL_law_203 : decode cL_law 203 = .ok (.invokevirtual 43, 3) := by decide +kernel
theorem dL_law_206 : decode cL_law 206 = .ok (.if_icmp .eq 159, 3) := by decide +kernel
theorem dL_law_209 : decode cL_law 209 = .ok (.iconst 0, 1) := by decide +kernel
theorem dL_law_210 : decode cL_law 210 = .ok (.ireturn, 1) := by decide +kernel
theorem dL_law_211 : decode cL_law 211 = .ok (.aload_n 1, 1) := by decide +kernel
theorem dL_law_212 : decode cL_law 212 = .ok (.aload_n 0, 1) := by decide +kernel
theorem dL_law_213 : decode cL_law 213 = .ok (.iload_n 3, 1) := by decide +kernel
theorem dL_law_214 : decode cL_law 214 = .ok (.iconst 1, 1) := by decide +kernel
theorem dL_law_215 : decode cL_law 215 = .ok (.iadd, 1) := by decide +kernel
theorem dL_law_216 : decode cL_law 216 = .ok (.iaload, 1) := by decide +kernel
theorem dL_law_217 : decode cL_law 217 = .ok (.aload_n 0, 1) := by decide +kernel
theorem dL_law_218 : decode cL_law 218 = .ok (.iload_n 3, 1) := by decide +kernel
theorem dL_law_219 : decode cL_law 219 = .ok (.iconst 2, 1) := by decide +kernel
theorem dL_law_220 : decode cL_law 220 = .ok (.iadd, 1) := by decide +kernel
theorem dL_law_221 : decode cL_law 221 = .ok (.iaload, 1) := by decide +kernel
theorem dL_law_222 : decode cL_law 222 = .ok (.invokevirtual 44, 3) := by decide +kernel
theorem dL_law_225 : decode cL_law 225 = .ok (.aload_n 2, 1) := by decide +kernel
theorem dL_law_226 : decode cL_law 226 = .ok (.aload_n 0, 1) := by decide +kernel
theorem dL_law_227 : decode cL_law 227 = .ok (.iload_n 3, 1) := by decide +kernel
theorem dL_law_228 : decode cL_law 228 = .ok (.iconst 1, 1) := by decide +kernel
theorem dL_law_229 : decode cL_law 229 = .ok (.iadd, 1) := by decide +kernel
theorem dL_law_230 : decode cL_law 230 = .ok (.iaload, 1) := by decide +kernel
theorem dL_law_231 : decode cL_law 231 = .ok (.aload_n 0, 1) := by decide +kernel
theorem dL_law_232 : decode cL_law 232 = .ok (.iload_n 3, 1) := by decide +kernel
theorem dL_law_233 : decode cL_law 233 = .ok (.iconst 2, 1) := by decide +kernel
theorem dL_law_234 : decode cL_law 234 = .ok (.iadd, 1) := by decide +kernel
theorem dL_law_235 : decode cL_law 235 = .ok (.iaload, 1) := by decide +kernel
theorem dL_law_236 : decode cL_law 236 = .ok (.invokevirtual 48, 3) := by decide +kernel
theorem dL_law_239 : decode cL_law 239 = .ok (.if_icmp .eq 126, 3) := by decide +kernel
theorem dL_law_242 : decode cL_law 242 = .ok (.iconst 0, 1) := by decide +kernel
theorem dL_law_243 : decode cL_law 243 = .ok (.ireturn, 1) := by decide +kernel
theorem dL_law_244 : decode cL_law 244 = .ok (.aload_n 1, 1) := by decide +kernel
theorem dL_law_245 : decode cL_law 245 = .ok (.aload_n 0, 1) := by decide +kernel
theorem dL_law_246 : decode cL_law 246 = .ok (.iload_n 3, 1) := by decide +kernel
theorem dL_law_247 : decode cL_law 247 = .ok (.iconst 1, 1) := by decide +kernel
theorem dL_law_248 : decode cL_law 248 = .ok (.iadd, 1) := by decide +kernel
theorem dL_law_249 : decode cL_law 249 = .ok (.iaload, 1) := by decide +kernel
theorem dL_law_250 : decode cL_law 250 = .ok (.invokevirtual 49, 3) := by decide +kernel
theorem dL_law_253 : decode cL_law 253 = .ok (.aload_n 2, 1) := by decide +kernel
theorem dL_law_254 : decode cL_law 254 = .ok (.aload_n 0, 1) := by decide +kernel
theorem dL_law_255 : decode cL_law 255 = .ok (.iload_n 3, 1) := by decide +kernel
theorem dL_law_256 : decode cL_law 256 = .ok (.iconst 1, 1) := by decide +kernel
theorem dL_law_257 : decode cL_law 257 = .ok (.iadd, 1) := by decide +kernel
theorem dL_law_258 : decode cL_law 258 = .ok (.iaload, 1) := by decide +kernel
theorem dL_law_259 : decode cL_law 259 = .ok (.invokevirtual 52, 3) := by decide +kernel
theorem dL_law_262 : decode cL_law 262 = .ok (.if_icmp .eq 103, 3) := by decide +kernel
theorem dL_law_265 : decode cL_law 265 = .ok (.iconst 0, 1) := by decide +kernel
theorem dL_law_266 : decode cL_law 266 = .ok (.ireturn, 1) := by decide +kernel
theorem dL_law_267 : decode cL_law 267 = .ok (.aload_n 1, 1) := by decide +kernel
theorem dL_law_268 : decode cL_law 268 = .ok (.invokevirtual 53, 3) := by decide +kernel
theorem dL_law_271 : decode cL_law 271 = .ok (.aload_n 2, 1) := by decide +kernel
theorem dL_law_272 : decode cL_law 272 = .ok (.invokevirtual 56, 3) := by decide +kernel
theorem dL_law_275 : decode cL_law 275 = .ok (.if_icmp .eq 90, 3) := by decide +kernel
theorem dL_law_278 : decode cL_law 278 = .ok (.iconst 0, 1) := by decide +kernel
theorem dL_law_279 : decode cL_law 279 = .ok (.ireturn, 1) := by decide +kernel
theorem dL_law_280 : decode cL_law 280 = .ok (.aload_n 1, 1) := by decide +kernel
theorem dL_law_281 : decode cL_law 281 = .ok (.invokevirtual 57, 3) := by decide +kernel
theorem dL_law_284 : decode cL_law 284 = .ok (.aload_n 2, 1) := by decide +kernel
theorem dL_law_285 : decode cL_law 285 = .ok (.invokevirtual 60, 3) := by decide +kernel
theorem dL_law_288 : decode cL_law 288 = .ok (.if_icmp .eq 77, 3) := by decide +kernel
theorem dL_law_291 : decode cL_law 291 = .ok (.iconst 0, 1) := by decide +kernel
theorem dL_law_292 : decode cL_law 292 = .ok (.ireturn, 1) := by decide +kernel
theorem dL_law_293 : decode cL_law 293 = .ok (.aload_n 1, 1) := by decide +kernel
theorem dL_law_294 : decode cL_law 294 = .ok (.invokevirtual 61, 3) := by decide +kernel
theorem dL_law_297 : decode cL_law 297 = .ok (.aload_n 2, 1) := by decide +kernel
theorem dL_law_298 : decode cL_law 298 = .ok (.invokevirtual 64, 3) := by decide +kernel
theorem dL_law_301 : decode cL_law 301 = .ok (.if_icmp .eq 64, 3) := by decide +kernel
theorem dL_law_304 : decode cL_law 304 = .ok (.iconst 0, 1) := by decide +kernel
theorem dL_law_305 : decode cL_law 305 = .ok (.ireturn, 1) := by decide +kernel
theorem dL_law_306 : decode cL_law 306 = .ok (.aload_n 1, 1) := by decide +kernel
theorem dL_law_307 : decode cL_law 307 = .ok (.aload_n 0, 1) := by decide +kernel
theorem dL_law_308 : decode cL_law 308 = .ok (.iload_n 3, 1) := by decide +kernel
theorem dL_law_309 : decode cL_law 309 = .ok (.iconst 1, 1) := by decide +kernel
theorem dL_law_310 : decode cL_law 310 = .ok (.iadd, 1) := by decide +kernel
theorem dL_law_311 : decode cL_law 311 = .ok (.iaload, 1) := by decide +kernel
theorem dL_law_312 : decode cL_law 312 = .ok (.invokevirtual 65, 3) := by decide +kernel
theorem dL_law_315 : decode cL_law 315 = .ok (.aload_n 2, 1) := by decide +kernel
theorem dL_law_316 : decode cL_law 316 = .ok (.aload_n 0, 1) := by decide +kernel
theorem dL_law_317 : decode cL_law 317 = .ok (.iload_n 3, 1) := by decide +kernel
theorem dL_law_318 : decode cL_law 318 = .ok (.iconst 1, 1) := by decide +kernel
theorem dL_law_319 : decode cL_law 319 = .ok (.iadd, 1) := by decide +kernel
theorem dL_law_320 : decode cL_law 320 = .ok (.iaload, 1) := by decide +kernel
theorem dL_law_321 : decode cL_law 321 = .ok (.invokevirtual 68, 3) := by decide +kernel
theorem dL_law_324 : decode cL_law 324 = .ok (.if_icmp .eq 41, 3) := by decide +kernel
theorem dL_law_327 : decode cL_law 327 = .ok (.iconst 0, 1) := by decide +kernel
theorem dL_law_328 : decode cL_law 328 = .ok (.ireturn, 1) := by decide +kernel
theorem dL_law_329 : decode cL_law 329 = .ok (.aload_n 1, 1) := by decide +kernel
theorem dL_law_330 : decode cL_law 330 = .ok (.aload_n 0, 1) := by decide +kernel
theorem dL_law_331 : decode cL_law 331 = .ok (.iload_n 3, 1) := by decide +kernel
theorem dL_law_332 : decode cL_law 332 = .ok (.iconst 1, 1) := by decide +kernel
theorem dL_law_333 : decode cL_law 333 = .ok (.iadd, 1) := by decide +kernel
theorem dL_law_334 : decode cL_law 334 = .ok (.iaload, 1) := by decide +kernel
theorem dL_law_335 : decode cL_law 335 = .ok (.invokevirtual 69, 3) := by decide +kernel
theorem dL_law_338 : decode cL_law 338 = .ok (.aload_n 2, 1) := by decide +kernel
theorem dL_law_339 : decode cL_law 339 = .ok (.aload_n 0, 1) := by decide +kernel
theorem dL_law_340 : decode cL_law 340 = .ok (.iload_n 3, 1) := by decide +kernel
theorem dL_law_341 : decode cL_law 341 = .ok (.iconst 1, 1) := by decide +kernel
theorem dL_law_342 : decode cL_law 342 = .ok (.iadd, 1) := by decide +kernel
theorem dL_law_343 : decode cL_law 343 = .ok (.iaload, 1) := by decide +kernel
theorem dL_law_344 : decode cL_law 344 = .ok (.invokevirtual 73, 3) := by decide +kernel
theorem dL_law_347 : decode cL_law 347 = .ok (.if_icmp .eq 18, 3) := by decide +kernel
theorem dL_law_350 : decode cL_law 350 = .ok (.iconst 0, 1) := by decide +kernel
theorem dL_law_351 : decode cL_law 351 = .ok (.ireturn, 1) := by decide +kernel
theorem dL_law_352 : decode cL_law 352 = .ok (.aload_n 1, 1) := by decide +kernel
theorem dL_law_353 : decode cL_law 353 = .ok (.invokevirtual 74, 3) := by decide +kernel
theorem dL_law_356 : decode cL_law 356 = .ok (.aload_n 2, 1) := by decide +kernel
theorem dL_law_357 : decode cL_law 357 = .ok (.invokevirtual 77, 3) := by decide +kernel
theorem dL_law_360 : decode cL_law 360 = .ok (.if_icmp .eq 5, 3) := by decide +kernel
theorem dL_law_363 : decode cL_law 363 = .ok (.iconst 0, 1) := by decide +kernel
theorem dL_law_364 : decode cL_law 364 = .ok (.ireturn, 1) := by decide +kernel
theorem dL_law_365 : decode cL_law 365 = .ok (.iinc 3 3, 3) := by decide +kernel
theorem dL_law_368 : decode cL_law 368 = .ok (.goto (-340), 3) := by decide +kernel
theorem dL_law_371 : decode cL_law 371 = .ok (.iconst 1, 1) := by decide +kernel
theorem dL_law_372 : decode cL_law 372 = .ok (.ireturn, 1) := by decide +kernel
abbrev vwCl : List vw_C := [(RX0, TX0, 2), (RX1, TX1, 12), (RX2, TX2, 10)]
/-! ===== END printed: names ===== -/
end
section
-- PURE ROWS: lists of addresses held in arrays, and the steps of the cache as functions
def ar_is (f : Nat → Int32) (r : List Int32) : Prop := ∀ j, j < r.length → r[j]? = some (f j)
def ap_rm (a : Int32) (l : List Int32) : List Int32 := l.filter (fun x => decide (x ≠ a))
theorem ar_nil {f : Nat → Int32} : ar_is f [] := fun j h => absurd h (Nat.not_lt_zero j)
theorem ar_push {f : Nat → Int32} {r : List Int32} {a : Int32} (h : ar_is f r) : ar_is (upd f r.length a) (r ++ [a]) := by
  intro j hj
  rw [List.length_append, List.length_singleton] at hj
  rw [List.getElem?_append]
  by_cases h1 : j < r.length
  · rw [if_pos h1, h j h1, pk_un (by omega)]
  · have e : j = r.length := by omega
    subst e
    rw [if_neg h1, pk_us]
    simp
theorem ar_del {f f' : Nat → Int32} {r : List Int32} {p : Nat} (h : ar_is f r) (hp : p < r.length) (h1 : ∀ j, j < p → f' j = f j) (h2 : ∀ j, p ≤ j → j + 1 < r.length → f' j = f (j + 1)) : ar_is f' (r.eraseIdx p) := by
  intro j hj
  rw [List.length_eraseIdx, if_pos hp] at hj
  rw [List.getElem?_eraseIdx]
  by_cases hjp : j < p
  · rw [if_pos hjp, h j (by omega), h1 j hjp]
  · rw [if_neg hjp, h (j + 1) (by omega), h2 j (by omega) (by omega)]
theorem ar_cons {f f' : Nat → Int32} {r : List Int32} {a : Int32} (h : ar_is f r) (h0 : f' 0 = a) (h1 : ∀ j, j < r.length → f' (j + 1) = f j) : ar_is f' (a :: r) := by
  intro j hj
  cases j with
  | zero => rw [h0]; rfl
  | succ j =>
    have hj' : j < r.length := by simpa using hj
    rw [List.getElem?_cons_succ, h j hj', h1 j hj']
theorem ar_cong {f f' : Nat → Int32} {r : List Int32} (h : ar_is f r) (he : ∀ j, j < r.length → f' j = f j) : ar_is f' r := fun j hj => by rw [h j hj, he j hj]
theorem ar_mem {f : Nat → Int32} {r : List Int32} (h : ar_is f r) {j : Nat} (hj : j < r.length) : f j ∈ r := List.mem_of_getElem? (h j hj)
theorem ar_of {f : Nat → Int32} {r : List Int32} {a : Int32} (h : ar_is f r) (ha : a ∈ r) : ∃ j, j < r.length ∧ f j = a := by
  obtain ⟨j, hj⟩ := List.mem_iff_getElem?.mp ha
  have hl : j < r.length := (List.getElem?_eq_some_iff.mp hj).1
  exact ⟨j, hl, Option.some.inj ((h j hl).symm.trans hj)⟩
theorem ap_rm_idx {a : Int32} : ∀ (r : List Int32) (p : Nat), r.Nodup → r[p]? = some a → ap_rm a r = r.eraseIdx p
  | [], p, _, h => by simp at h
  | x :: r, 0, hn, h => by
    have hx : x = a := by simpa using h
    subst hx
    have hni : x ∉ r := (List.nodup_cons.mp hn).1
    show List.filter _ (x :: r) = r
    rw [List.filter_cons_of_neg (by simp)]
    exact List.filter_eq_self.mpr (fun y hy => by
      have : y ≠ x := fun e => hni (e ▸ hy)
      simpa using this)
  | x :: r, p + 1, hn, h => by
    have h' : r[p]? = some a := by simpa using h
    have hne : x ≠ a := fun e => (List.nodup_cons.mp hn).1 (e ▸ List.mem_of_getElem? h')
    have ih := ap_rm_idx r p (List.nodup_cons.mp hn).2 h'
    show List.filter _ (x :: r) = x :: r.eraseIdx p
    rw [List.filter_cons_of_pos (by simpa using hne)]
    exact congrArg _ ih
theorem ap_rm_out {a : Int32} {l : List Int32} (h : a ∉ l) : ap_rm a l = l := List.filter_eq_self.mpr (fun y hy => by
  have : y ≠ a := fun e => h (e ▸ hy)
  simpa using this)
theorem ap_rm_rev {a : Int32} {l : List Int32} : (ap_rm a l).reverse = ap_rm a l.reverse := by
  unfold ap_rm
  rw [List.filter_reverse]
theorem ap_rm_mem {a x : Int32} {l : List Int32} : x ∈ ap_rm a l ↔ x ∈ l ∧ x ≠ a := by
  unfold ap_rm
  rw [List.mem_filter]
  simp
theorem ap_rm_nodup {a : Int32} {l : List Int32} (h : l.Nodup) : (ap_rm a l).Nodup := List.Pairwise.filter _ h
theorem ap_rm_len {a : Int32} {l : List Int32} (hn : l.Nodup) (ha : a ∈ l) : (ap_rm a l).length + 1 = l.length := by
  obtain ⟨j, hj⟩ := List.mem_iff_getElem?.mp ha
  have hl : j < l.length := (List.getElem?_eq_some_iff.mp hj).1
  rw [ap_rm_idx l j hn hj, List.length_eraseIdx, if_pos hl]
  omega
theorem ap_rm_le {a : Int32} {l : List Int32} : (ap_rm a l).length ≤ l.length := List.length_filter_le _ _
/-- the old end of a list (new end first); -1 where there is none -/
def ap_old (l : List Int32) : Int32 := l.getLastD (-1)
theorem ap_old_nil : ap_old [] = -1 := rfl
theorem ap_old_at {l : List Int32} (h : l ≠ []) : l[l.length - 1]? = some (ap_old l) := by
  unfold ap_old
  rw [← List.getLast?_eq_getElem?, List.getLastD_eq_getLast?, List.getLast?_eq_some_getLast h]
  rfl
theorem ap_old_mem {l : List Int32} (h : l ≠ []) : ap_old l ∈ l := List.mem_of_getElem? (ap_old_at h)
theorem ap_old_rev {f : Nat → Int32} {l : List Int32} (h : l ≠ []) (hf : ar_is f l.reverse) : f 0 = ap_old l := by
  have hl : 0 < l.length := List.length_pos_iff.mpr h
  have h0 := hf 0 (by simpa using hl)
  have h1 := ap_old_at h
  rw [List.getElem?_reverse hl] at h0
  have : l.length - 1 - 0 = l.length - 1 := by omega
  rw [this, h1] at h0
  exact (Option.some.inj h0).symm
/-- the lists: no repeats, apart, of addresses alone, numbers 1 .. 4 -/
def ap_inv (L : Nat → List Int32) : Prop := (∀ k, (L k).Nodup) ∧ (∀ j k x, x ∈ L j → x ∈ L k → j = k) ∧ ∀ k x, x ∈ L k → vp_in x 64 ∧ 1 ≤ k ∧ k ≤ 4
def ap_wl (L : Nat → List Int32) (a : Int32) : Nat := if a ∈ L 1 then 1 else if a ∈ L 2 then 2 else if a ∈ L 3 then 3 else if a ∈ L 4 then 4 else 0
theorem ap_wl_of {L : Nat → List Int32} {a : Int32} {k : Nat} (hI : ap_inv L) (h : a ∈ L k) : ap_wl L a = k := by
  have hk := (hI.2.2 k a h).2
  have one : ∀ j, a ∈ L j → j = k := fun j hj => hI.2.1 j k a hj h
  unfold ap_wl
  by_cases h1 : a ∈ L 1
  · rw [if_pos h1]; exact one 1 h1
  · rw [if_neg h1]
    by_cases h2 : a ∈ L 2
    · rw [if_pos h2]; exact one 2 h2
    · rw [if_neg h2]
      by_cases h3 : a ∈ L 3
      · rw [if_pos h3]; exact one 3 h3
      · rw [if_neg h3]
        by_cases h4 : a ∈ L 4
        · rw [if_pos h4]; exact one 4 h4
        · exfalso
          have : k = 1 ∨ k = 2 ∨ k = 3 ∨ k = 4 := by omega
          rcases this with rfl | rfl | rfl | rfl <;> contradiction
theorem ap_wl_le (L : Nat → List Int32) (a : Int32) : ap_wl L a ≤ 4 := by
  unfold ap_wl
  repeat' split
  all_goals omega
theorem ap_wl_mem {L : Nat → List Int32} {a : Int32} (h : ap_wl L a ≠ 0) : a ∈ L (ap_wl L a) := by
  unfold ap_wl at h ⊢
  by_cases h1 : a ∈ L 1
  · rw [if_pos h1]; exact h1
  · rw [if_neg h1] at h ⊢
    by_cases h2 : a ∈ L 2
    · rw [if_pos h2]; exact h2
    · rw [if_neg h2] at h ⊢
      by_cases h3 : a ∈ L 3
      · rw [if_pos h3]; exact h3
      · rw [if_neg h3] at h ⊢
        by_cases h4 : a ∈ L 4
        · rw [if_pos h4]; exact h4
        · rw [if_neg h4] at h; exact absurd rfl h
theorem ap_wl_zero {L : Nat → List Int32} {a : Int32} (hI : ap_inv L) (h : ap_wl L a = 0) : ∀ k, a ∉ L k := fun k hk => by
  have h1 := ap_wl_of hI hk
  have h2 := (hI.2.2 k a hk).2.1
  omega
theorem ap_wl_none {L : Nat → List Int32} {a : Int32} (h : ∀ k, a ∉ L k) : ap_wl L a = 0 := by
  unfold ap_wl
  rw [if_neg (h 1), if_neg (h 2), if_neg (h 3), if_neg (h 4)]
theorem ap_up_mem {L : Nat → List Int32} {k j : Nat} {l : List Int32} {x : Int32} (h : x ∈ va_up L k l j) : (j = k ∧ x ∈ l) ∨ (j ≠ k ∧ x ∈ L j) := by
  by_cases e : j = k
  · subst e
    rw [va_up_self] at h
    exact Or.inl ⟨rfl, h⟩
  · rw [va_up_ne _ _ e] at h
    exact Or.inr ⟨e, h⟩
theorem ap_inv_rm {L : Nat → List Int32} (hI : ap_inv L) (k : Nat) (a : Int32) : ap_inv (va_up L k (ap_rm a (L k))) := by
  have sub : ∀ j x, x ∈ va_up L k (ap_rm a (L k)) j → x ∈ L j := fun j x h => by
    rcases ap_up_mem h with ⟨rfl, h⟩ | ⟨_, h⟩
    · exact (ap_rm_mem.mp h).1
    · exact h
  refine ⟨fun j => ?_, fun i j x h1 h2 => hI.2.1 i j x (sub i x h1) (sub j x h2), fun j x h => hI.2.2 j x (sub j x h)⟩
  by_cases e : j = k
  · subst e
    rw [va_up_self]
    exact ap_rm_nodup (hI.1 j)
  · rw [va_up_ne _ _ e]
    exact hI.1 j
theorem ap_inv_add {L : Nat → List Int32} (hI : ap_inv L) {k : Nat} {a : Int32} (ha : ∀ j, a ∉ L j) (h64 : vp_in a 64) (hk : 1 ≤ k ∧ k ≤ 4) : ap_inv (va_up L k (a :: L k)) := by
  have sub : ∀ j x, x ∈ va_up L k (a :: L k) j → (j = k ∧ x = a) ∨ x ∈ L j := fun j x h => by
    rcases ap_up_mem h with ⟨rfl, h⟩ | ⟨_, h⟩
    · rcases List.mem_cons.mp h with h | h
      · exact Or.inl ⟨rfl, h⟩
      · exact Or.inr h
    · exact Or.inr h
  refine ⟨fun j => ?_, fun i j x h1 h2 => ?_, fun j x h => ?_⟩
  · by_cases e : j = k
    · subst e
      rw [va_up_self]
      exact List.nodup_cons.mpr ⟨ha j, hI.1 j⟩
    · rw [va_up_ne _ _ e]
      exact hI.1 j
  · rcases sub i x h1 with ⟨e1, e2⟩ | h1
    · rcases sub j x h2 with ⟨e3, e4⟩ | h2
      · omega
      · exact absurd (e2 ▸ h2) (ha j)
    · rcases sub j x h2 with ⟨e3, e4⟩ | h2
      · exact absurd (e4 ▸ h1) (ha i)
      · exact hI.2.1 i j x h1 h2
  · rcases sub j x h with ⟨rfl, rfl⟩ | h
    · exact ⟨h64, hk⟩
    · exact hI.2.2 j x h
/-- an address taken out of its list is in none -/
theorem ap_rm_none {L : Nat → List Int32} (hI : ap_inv L) {k : Nat} {a : Int32} (ha : a ∈ L k) : ∀ j, a ∉ va_up L k (ap_rm a (L k)) j := fun j h => by
  rcases ap_up_mem h with ⟨rfl, h⟩ | ⟨e, h⟩
  · exact (ap_rm_mem.mp h).2 rfl
  · exact e (hI.2.1 j k a h ha)
/-- o moves from list j to the new end of list k -/
def ap_mv (L : Nat → List Int32) (o : Int32) (j k : Nat) : Nat → List Int32 := va_up (va_up L j (ap_rm o (L j))) k (o :: va_up L j (ap_rm o (L j)) k)
theorem ap_inv_mv {L : Nat → List Int32} (hI : ap_inv L) {o : Int32} {j k : Nat} (ho : o ∈ L j) (hk : 1 ≤ k ∧ k ≤ 4) : ap_inv (ap_mv L o j k) :=
  ap_inv_add (ap_inv_rm hI j o) (ap_rm_none hI ho) (hI.2.2 j o ho).1 hk
theorem ap_wl_rm {L : Nat → List Int32} {a o : Int32} (h : a ≠ o) (k : Nat) : ap_wl (va_up L k (ap_rm o (L k))) a = ap_wl L a := by
  have iff : ∀ j, a ∈ va_up L k (ap_rm o (L k)) j ↔ a ∈ L j := fun j => by
    by_cases e : j = k
    · subst e
      rw [va_up_self, ap_rm_mem]
      exact ⟨fun h => h.1, fun h' => ⟨h', h⟩⟩
    · rw [va_up_ne _ _ e]
  unfold ap_wl
  simp only [iff]
theorem ap_wl_add {L : Nat → List Int32} {a o : Int32} (h : a ≠ o) (k : Nat) : ap_wl (va_up L k (o :: L k)) a = ap_wl L a := by
  have iff : ∀ j, a ∈ va_up L k (o :: L k) j ↔ a ∈ L j := fun j => by
    by_cases e : j = k
    · subst e
      rw [va_up_self, List.mem_cons]
      exact ⟨fun h' => h'.elim (fun e => absurd e h) id, Or.inr⟩
    · rw [va_up_ne _ _ e]
  unfold ap_wl
  simp only [iff]
theorem ap_wl_mv {L : Nat → List Int32} {a o : Int32} (h : a ≠ o) (j k : Nat) : ap_wl (ap_mv L o j k) a = ap_wl L a := by
  unfold ap_mv
  rw [ap_wl_add h, ap_wl_rm h]
-- THE STEPS
abbrev ap_T : Type := (Nat → List Int32) × (Nat → Int32) × (Nat → Int32) × Int32
abbrev ap_U : Type := (Nat → List Int32) × (Nat → Int32) × (Nat → Int32) × (Nat → Int32) × Nat × Int32 × Int32 × Int32
/-- an address's page is written back: the store, the marks -/
def ap_cs (w d st : Nat → Int32) (o : Int32) : Nat → Int32 := upd st o.toNatClampNeg (if d o.toNatClampNeg = 0 then st o.toNatClampNeg else w o.toNatClampNeg)
def ap_cd (d : Nat → Int32) (o : Int32) : Nat → Int32 := upd d o.toNatClampNeg 0
/-- the old end of list k goes, and comes to list k + 2 -/
def ap_og (w : Nat → Int32) (k : Nat) (S : ap_T) : ap_T := if S.1 k = [] then S else (ap_mv S.1 (ap_old (S.1 k)) k (k + 2), ap_cd S.2.1 (ap_old (S.1 k)), ap_cs w S.2.1 S.2.2.1 (ap_old (S.1 k)), S.2.2.2 + 1)
def ap_from (L : Nat → List Int32) (t : Nat) (a : Int32) : Nat := if t < (L 1).length ∨ ((L 1).length = t ∧ 0 < t ∧ ap_wl L a = 4) then 1 else 2
def ap_mk (w : Nat → Int32) (t : Nat) (a : Int32) (S : ap_T) : ap_T := ap_og w (ap_from S.1 t a) S
def ap_dr (L : Nat → List Int32) (k : Nat) : Nat → List Int32 := va_up L k (ap_rm (ap_old (L k)) (L k))
def ap_tot (L : Nat → List Int32) : Nat := (L 1).length + (L 2).length + (L 3).length + (L 4).length
def ap_un (w : Nat → Int32) (C t : Nat) (a : Int32) (S : ap_T) : ap_T :=
  if (S.1 1).length + (S.1 3).length = C then
    if (S.1 1).length = C then (ap_dr S.1 1, ap_cd S.2.1 (ap_old (S.1 1)), ap_cs w S.2.1 S.2.2.1 (ap_old (S.1 1)), S.2.2.2 + 1)
    else ap_mk w t a (ap_dr S.1 3, S.2)
  else if C ≤ ap_tot S.1 then
    if ap_tot S.1 = 2 * C then ap_mk w t a (ap_dr S.1 4, S.2) else ap_mk w t a S
  else S
def ap_tg (L : Nat → List Int32) (C t k : Nat) : Nat := if k = 3 then min C (t + max 1 ((L 4).length / (L 3).length)) else t - max 1 ((L 3).length / (L 4).length)
def ap_rq (C : Nat) (a : Int32) (u : ap_U) : ap_U := match u with
  | (L, w, d, st, t, hi, mi, go) =>
    if ap_wl L a = 1 ∨ ap_wl L a = 2 then (ap_mv L a (ap_wl L a) 2, w, d, st, t, hi + 1, mi, go)
    else if ap_wl L a = 0 then
      match ap_un w C t a (L, d, st, go) with
      | (L', d', st', go') => (va_up L' 1 (a :: L' 1), upd w a.toNatClampNeg (st' a.toNatClampNeg), upd d' a.toNatClampNeg 0, st', t, hi, mi + 1, go')
    else
      match ap_mk w (ap_tg L C t (ap_wl L a)) a (L, d, st, go) with
      | (L', d', st', go') => (ap_mv L' a (ap_wl L a) 2, upd w a.toNatClampNeg (st' a.toNatClampNeg), upd d' a.toNatClampNeg 0, st', ap_tg L C t (ap_wl L a), hi, mi + 1, go')
end
section
-- WHAT THE STEPS KEEP
theorem ap_mv_len {L : Nat → List Int32} (hI : ap_inv L) {o : Int32} {j k : Nat} (ho : o ∈ L j) (i : Nat) : (ap_mv L o j k i).length + (if i = j then 1 else 0) = (L i).length + (if i = k then 1 else 0) := by
  have h1 := ap_rm_len (hI.1 j) ho
  unfold ap_mv
  by_cases ek : i = k
  · subst ek
    rw [va_up_self, List.length_cons, if_pos rfl]
    by_cases ej : i = j
    · subst ej
      rw [va_up_self, if_pos rfl]
      omega
    · rw [va_up_ne _ _ ej, if_neg ej]
  · rw [va_up_ne _ _ ek, if_neg ek]
    by_cases ej : i = j
    · subst ej
      rw [va_up_self, if_pos rfl]
      omega
    · rw [va_up_ne _ _ ej, if_neg ej]
theorem ap_dr_len {L : Nat → List Int32} (hI : ap_inv L) {k : Nat} (h : L k ≠ []) (i : Nat) : (ap_dr L k i).length + (if i = k then 1 else 0) = (L i).length := by
  have h1 := ap_rm_len (hI.1 k) (ap_old_mem h)
  unfold ap_dr
  by_cases ej : i = k
  · subst ej
    rw [va_up_self, if_pos rfl]
    omega
  · rw [va_up_ne _ _ ej, if_neg ej]
    rfl
theorem ap_inv_dr {L : Nat → List Int32} (hI : ap_inv L) (k : Nat) : ap_inv (ap_dr L k) := ap_inv_rm hI k _
theorem ap_add_len {L : Nat → List Int32} {a : Int32} {k : Nat} (i : Nat) : (va_up L k (a :: L k) i).length = (L i).length + (if i = k then 1 else 0) := by
  by_cases ej : i = k
  · subst ej
    rw [va_up_self, if_pos rfl]
    rfl
  · rw [va_up_ne _ _ ej, if_neg ej]
    rfl
theorem ap_from_cases (L : Nat → List Int32) (t : Nat) (a : Int32) : (ap_from L t a = 1 ∧ L 1 ≠ []) ∨ (ap_from L t a = 2 ∧ (L 1).length ≤ t) := by
  unfold ap_from
  by_cases h : t < (L 1).length ∨ ((L 1).length = t ∧ 0 < t ∧ ap_wl L a = 4)
  · rw [if_pos h]
    refine Or.inl ⟨rfl, fun e => ?_⟩
    rw [e] at h
    simp at h
    omega
  · rw [if_neg h]
    refine Or.inr ⟨rfl, ?_⟩
    omega
def ap_mkF (S S' : ap_T) (t : Nat) : Prop := ap_inv S'.1 ∧ (S'.1 1).length + (S'.1 3).length = (S.1 1).length + (S.1 3).length ∧ (S'.1 2).length + (S'.1 4).length = (S.1 2).length + (S.1 4).length ∧ (((S'.1 1).length + (S'.1 2).length + 1 = (S.1 1).length + (S.1 2).length) ∨ (S'.1 = S.1 ∧ (S.1 2).length = 0 ∧ (S.1 1).length ≤ t)) ∧ ∀ x, ap_wl S.1 x ≠ 1 → ap_wl S.1 x ≠ 2 → ap_wl S'.1 x = ap_wl S.1 x
theorem ap_mk_facts {w : Nat → Int32} {t : Nat} {a : Int32} {S : ap_T} (hI : ap_inv S.1) : ap_mkF S (ap_mk w t a S) t := by
  have key : ∀ k, (k = 1 ∨ k = 2) → S.1 k ≠ [] → ap_mkF S (ap_og w k S) t := by
    intro k hk h
    have ho := ap_old_mem h
    have e : ap_og w k S = (ap_mv S.1 (ap_old (S.1 k)) k (k + 2), ap_cd S.2.1 (ap_old (S.1 k)), ap_cs w S.2.1 S.2.2.1 (ap_old (S.1 k)), S.2.2.2 + 1) := by
      unfold ap_og
      rw [if_neg h]
    rw [e]
    have hl := fun i => ap_mv_len (k := k + 2) hI ho i
    have l1 := hl 1
    have l2 := hl 2
    have l3 := hl 3
    have l4 := hl 4
    refine ⟨ap_inv_mv hI ho (by omega), ?_, ?_, Or.inl ?_, fun x h1 h2 => ?_⟩
    · dsimp only
      rcases hk with rfl | rfl <;> simp at l1 l2 l3 l4 ⊢ <;> omega
    · dsimp only
      rcases hk with rfl | rfl <;> simp at l1 l2 l3 l4 ⊢ <;> omega
    · dsimp only
      rcases hk with rfl | rfl <;> simp at l1 l2 l3 l4 ⊢ <;> omega
    · refine ap_wl_mv (fun e => ?_) _ _
      have hw := ap_wl_of hI ho
      rw [← e] at hw
      omega
  unfold ap_mk
  rcases ap_from_cases S.1 t a with ⟨e, h⟩ | ⟨e, h⟩
  · rw [e]
    exact key 1 (Or.inl rfl) h
  · rw [e]
    by_cases h2 : S.1 2 = []
    · have e2 : ap_og w 2 S = S := by
        unfold ap_og
        rw [if_pos h2]
      rw [e2]
      exact ⟨hI, rfl, rfl, Or.inr ⟨rfl, by rw [h2]; rfl, h⟩, fun _ _ _ => rfl⟩
    · exact key 2 (Or.inr rfl) h2
def ap_ok (C t : Nat) (L : Nat → List Int32) : Prop := ap_inv L ∧ 1 ≤ C ∧ C ≤ 24 ∧ t ≤ C ∧ (L 1).length + (L 2).length ≤ C ∧ (L 1).length + (L 3).length ≤ C ∧ ap_tot L ≤ 2 * C
theorem ap_ne {l : List Int32} (h : 0 < l.length) : l ≠ [] := fun e => by rw [e] at h; exact absurd h (Nat.lt_irrefl 0)
/-- behind ap_un: the lists are as they must be, the address is in none, and one more fits -/
theorem ap_un_ok {w d st : Nat → Int32} {C t : Nat} {a : Int32} {L : Nat → List Int32} {go : Int32} (h : ap_ok C t L) (hw : ap_wl L a = 0) : ap_inv (ap_un w C t a (L, d, st, go)).1 ∧ ap_wl (ap_un w C t a (L, d, st, go)).1 a = 0 ∧ ap_tot (ap_un w C t a (L, d, st, go)).1 + 1 ≤ 2 * C ∧ ((ap_un w C t a (L, d, st, go)).1 1).length + ((ap_un w C t a (L, d, st, go)).1 3).length + 1 ≤ C ∧ ((ap_un w C t a (L, d, st, go)).1 1).length + ((ap_un w C t a (L, d, st, go)).1 2).length + 1 ≤ C := by
  obtain ⟨hI, c1, c2, ht, s1, s2, s3⟩ := h
  have h0 := ap_wl_zero hI hw
  have hnd : ∀ k, L k ≠ [] → ap_wl (ap_dr L k) a = 0 := fun k hk => by
    unfold ap_dr
    have hne : a ≠ ap_old (L k) := fun e => by
      have hm := ap_old_mem hk
      rw [← e] at hm
      exact h0 k hm
    rw [ap_wl_rm hne]
    exact hw
  unfold ap_un
  dsimp only
  by_cases e1 : (L 1).length + (L 3).length = C
  · rw [if_pos e1]
    by_cases e2 : (L 1).length = C
    · rw [if_pos e2]
      dsimp only
      have hne : L 1 ≠ [] := ap_ne (by omega)
      have hl := ap_dr_len hI hne
      have l1 := hl 1
      have l2 := hl 2
      have l3 := hl 3
      have l4 := hl 4
      simp at l1 l2 l3 l4
      unfold ap_tot at s3 ⊢
      exact ⟨ap_inv_dr hI 1, hnd 1 hne, by omega, by omega, by omega⟩
    · rw [if_neg e2]
      have hne : L 3 ≠ [] := ap_ne (by omega)
      have hl := ap_dr_len hI hne
      have l1 := hl 1
      have l2 := hl 2
      have l3 := hl 3
      have l4 := hl 4
      simp at l1 l2 l3 l4
      obtain ⟨f1, f2, f3, f4, f5⟩ := ap_mk_facts (w := w) (t := t) (a := a) (S := (ap_dr L 3, d, st, go)) (ap_inv_dr hI 3)
      dsimp only at f1 f2 f3 f4 f5
      unfold ap_tot at s3 ⊢
      refine ⟨f1, ?_, by omega, by omega, ?_⟩
      · rw [f5 a (by rw [hnd 3 hne]; omega) (by rw [hnd 3 hne]; omega)]
        exact hnd 3 hne
      · rcases f4 with f4 | ⟨f4, g4, g5⟩
        · omega
        · rw [f4]
          omega
  · rw [if_neg e1]
    by_cases e3 : C ≤ ap_tot L
    · rw [if_pos e3]
      by_cases e4 : ap_tot L = 2 * C
      · rw [if_pos e4]
        have hne : L 4 ≠ [] := ap_ne (by unfold ap_tot at e4; omega)
        have hl := ap_dr_len hI hne
        have l1 := hl 1
        have l2 := hl 2
        have l3 := hl 3
        have l4 := hl 4
        simp at l1 l2 l3 l4
        obtain ⟨f1, f2, f3, f4, f5⟩ := ap_mk_facts (w := w) (t := t) (a := a) (S := (ap_dr L 4, d, st, go)) (ap_inv_dr hI 4)
        dsimp only at f1 f2 f3 f4 f5
        unfold ap_tot at s3 e4 ⊢
        refine ⟨f1, ?_, by omega, by omega, ?_⟩
        · rw [f5 a (by rw [hnd 4 hne]; omega) (by rw [hnd 4 hne]; omega)]
          exact hnd 4 hne
        · rcases f4 with f4 | ⟨f4, g4, g5⟩
          · omega
          · rw [f4]
            omega
      · rw [if_neg e4]
        obtain ⟨f1, f2, f3, f4, f5⟩ := ap_mk_facts (w := w) (t := t) (a := a) (S := (L, d, st, go)) hI
        dsimp only at f1 f2 f3 f4 f5
        unfold ap_tot at s3 e4 e3 ⊢
        refine ⟨f1, ?_, by omega, by omega, ?_⟩
        · rw [f5 a (by omega) (by omega)]
          exact hw
        · rcases f4 with f4 | ⟨f4, g4, g5⟩
          · omega
          · rw [f4]
            omega
    · rw [if_neg e3]
      dsimp only
      unfold ap_tot at s3 e3 ⊢
      exact ⟨hI, hw, by omega, by omega, by omega⟩
theorem ap_tg_le {L : Nat → List Int32} {C t k : Nat} (ht : t ≤ C) : ap_tg L C t k ≤ C := by
  unfold ap_tg
  split <;> omega
theorem ap_rq_ok {C t : Nat} {a : Int32} {L : Nat → List Int32} {w d st : Nat → Int32} {hi mi go : Int32} (h : ap_ok C t L) (ha : vp_in a 64) : ap_ok C (ap_rq C a (L, w, d, st, t, hi, mi, go)).2.2.2.2.1 (ap_rq C a (L, w, d, st, t, hi, mi, go)).1 := by
  have h' := h
  obtain ⟨hI, c1, c2, ht, s1, s2, s3⟩ := h'
  unfold ap_rq
  dsimp only
  by_cases e1 : ap_wl L a = 1 ∨ ap_wl L a = 2
  · rw [if_pos e1]
    dsimp only
    have hm : a ∈ L (ap_wl L a) := ap_wl_mem (by omega)
    have hl := ap_mv_len (k := 2) hI hm
    have l1 := hl 1
    have l2 := hl 2
    have l3 := hl 3
    have l4 := hl 4
    refine ⟨ap_inv_mv hI hm (by omega), c1, c2, ht, ?_, ?_, ?_⟩
    · rcases e1 with e1 | e1 <;> rw [e1] at l1 l2 l3 l4 ⊢ <;> simp at l1 l2 l3 l4 <;> omega
    · rcases e1 with e1 | e1 <;> rw [e1] at l1 l2 l3 l4 ⊢ <;> simp at l1 l2 l3 l4 <;> omega
    · unfold ap_tot at s3 ⊢
      rcases e1 with e1 | e1 <;> rw [e1] at l1 l2 l3 l4 ⊢ <;> simp at l1 l2 l3 l4 <;> omega
  · rw [if_neg e1]
    by_cases e0 : ap_wl L a = 0
    · rw [if_pos e0]
      obtain ⟨g1, g2, g3, g4, g5⟩ := ap_un_ok (w := w) (d := d) (st := st) (go := go) h e0
      dsimp only
      have hl := fun i => ap_add_len (L := (ap_un w C t a (L, d, st, go)).1) (a := a) (k := 1) i
      have l1 := hl 1
      have l2 := hl 2
      have l3 := hl 3
      have l4 := hl 4
      simp at l1 l2 l3 l4
      unfold ap_tot at g3
      refine ⟨ap_inv_add g1 (ap_wl_zero g1 g2) ha (by omega), c1, c2, ht, ?_, ?_, ?_⟩
      · rw [l1, l2]; omega
      · rw [l1, l3]; omega
      · unfold ap_tot; rw [l1, l2, l3, l4]; omega
    · rw [if_neg e0]
      have e34 : ap_wl L a = 3 ∨ ap_wl L a = 4 := by have := ap_wl_le L a; omega
      obtain ⟨f1, f2, f3, f4, f5⟩ := ap_mk_facts (w := w) (t := ap_tg L C t (ap_wl L a)) (a := a) (S := (L, d, st, go)) hI
      dsimp only at f1 f2 f3 f4 f5 ⊢
      have hwl := f5 a (by omega) (by omega)
      have hm0 : a ∈ L (ap_wl L a) := ap_wl_mem (by omega)
      have hm : a ∈ (ap_mk w (ap_tg L C t (ap_wl L a)) a (L, d, st, go)).1 (ap_wl L a) := by
        have := ap_wl_mem (L := (ap_mk w (ap_tg L C t (ap_wl L a)) a (L, d, st, go)).1) (a := a) (by rw [hwl]; omega)
        rw [hwl] at this
        exact this
      have hp0 : 0 < (L (ap_wl L a)).length := List.length_pos_of_mem hm0
      have hl := ap_mv_len (k := 2) f1 hm
      have l1 := hl 1
      have l2 := hl 2
      have l3 := hl 3
      have l4 := hl 4
      have htg := ap_tg_le (L := L) (C := C) (t := t) (k := ap_wl L a) ht
      have htg4 : ap_wl L a = 4 → ap_tg L C t (ap_wl L a) + 1 ≤ C := fun e => by
        rw [e]
        unfold ap_tg
        rw [if_neg (by omega)]
        omega
      refine ⟨ap_inv_mv f1 hm (by omega), c1, c2, htg, ?_, ?_, ?_⟩
      · generalize (ap_mk w (ap_tg L C t (ap_wl L a)) a (L, d, st, go)).1 = L' at *
        generalize ap_tg L C t (ap_wl L a) = t' at *
        rcases e34 with e | e <;> rw [e] at l1 l2 l3 l4 hp0 ⊢ <;> simp at l1 l2 l3 l4
        · rcases f4 with f4 | ⟨f4, g4, g5⟩
          · omega
          · subst f4; omega
        · have htg4 := htg4 e
          rcases f4 with f4 | ⟨f4, g4, g5⟩
          · omega
          · subst f4; omega
      · generalize (ap_mk w (ap_tg L C t (ap_wl L a)) a (L, d, st, go)).1 = L' at *
        rcases e34 with e | e <;> rw [e] at l1 l2 l3 l4 ⊢ <;> simp at l1 l2 l3 l4 <;> omega
      · unfold ap_tot at s3 ⊢
        generalize (ap_mk w (ap_tg L C t (ap_wl L a)) a (L, d, st, go)).1 = L' at *
        rcases e34 with e | e <;> rw [e] at l1 l2 l3 l4 ⊢ <;> simp at l1 l2 l3 l4 <;> omega
end
section
-- WORLDS: an AddressList (object, array); the class; the reference
abbrev cal (q a : Nat) (cA : ClassId) (n : Nat) (f : Nat → Int32) : va_W := [(q, .inr (0, [.ref a, .int (nI n)])), (a, .inl (cA, 64, .inl f))]
abbrev kal (cA : ClassId) : List (ClassId × FieldType) := [(cA, .int)]
abbrev at_A (dC : Nat → ClassId) (dI : Nat → Nat → Nat) (A : Nat → Prop) (q a : Nat) (cA : ClassId) (u : Nat × (Nat → Int32)) (t : State) : Prop := va_P (dC, dI) vwCl (cal q a cA u.1 u.2) t.heap ∧ va_K (dC, dI) vwCl (kal cA) t ∧ va_D A (cal q a cA u.1 u.2)
abbrev cx (q : Nat → Nat) (c : Nat → ClassId) (C : Nat) (L : Nat → List Int32) (f : Nat → Nat → Int32) (w d st : Nat → Int32) (t : Nat) (hi mi go : Int32) : va_W := [(q 0, .inr (1, [.int (nI C), .ref (q 1), .ref (q 2), .ref (q 3), .ref (q 4), .ref (q 9), .ref (q 10), .ref (q 11), .int (nI t), .int hi, .int mi, .int go])), (q 1, .inr (0, [.ref (q 5), .int (nI (L 1).length)])), (q 5, .inl (c 1, 64, .inl (f 1))), (q 2, .inr (0, [.ref (q 6), .int (nI (L 2).length)])), (q 6, .inl (c 2, 64, .inl (f 2))), (q 3, .inr (0, [.ref (q 7), .int (nI (L 3).length)])), (q 7, .inl (c 3, 64, .inl (f 3))), (q 4, .inr (0, [.ref (q 8), .int (nI (L 4).length)])), (q 8, .inl (c 4, 64, .inl (f 4))), (q 9, .inl (c 5, 64, .inl w)), (q 10, .inl (c 6, 64, .inl d)), (q 11, .inl (c 7, 64, .inl st))]
abbrev kx (c : Nat → ClassId) : List (ClassId × FieldType) := [(c 1, .int), (c 2, .int), (c 3, .int), (c 4, .int), (c 5, .int), (c 6, .boolean), (c 7, .int)]
def fx_ok (f : Nat → Nat → Int32) (L : Nat → List Int32) : Prop := ∀ k, 1 ≤ k → k ≤ 4 → ar_is (f k) (L k).reverse
abbrev at_X (dC : Nat → ClassId) (dI : Nat → Nat → Nat) (A : Nat → Prop) (q : Nat → Nat) (c : Nat → ClassId) (C : Nat) (u : ap_U) (t : State) : Prop := match u with
  | (L, w, d, st, tt, hi, mi, go) => ∃ f, fx_ok f L ∧ va_P (dC, dI) vwCl (cx q c C L f w d st tt hi mi go) t.heap ∧ va_K (dC, dI) vwCl (kx c) t ∧ va_D A (cx q c C L f w d st tt hi mi go)
abbrev cm (q : Nat → Nat) (c : Nat → ClassId) (C : Nat) (f n w d st : Nat → Int32) (t : Nat) (hi mi go : Int32) : va_W := [(q 0, .inr (2, [.int (nI C), .ref (q 1), .ref (q 2), .ref (q 3), .ref (q 4), .ref (q 5), .int (nI t), .int hi, .int mi, .int go])), (q 1, .inl (c 1, 320, .inl f)), (q 2, .inl (c 2, 5, .inl n)), (q 3, .inl (c 3, 64, .inl st)), (q 4, .inl (c 4, 64, .inl w)), (q 5, .inl (c 5, 64, .inl d))]
abbrev km (c : Nat → ClassId) : List (ClassId × FieldType) := [(c 1, .int), (c 2, .int), (c 3, .int), (c 4, .int), (c 5, .boolean)]
/-- the reference's arrays hold the lists -/
def fm_ok (f n : Nat → Int32) (L : Nat → List Int32) : Prop := ∀ k, 1 ≤ k → k ≤ 4 → n k = nI (L k).length ∧ ar_is (fun i => f (64 * k + i)) (L k)
abbrev at_M (dC : Nat → ClassId) (dI : Nat → Nat → Nat) (A : Nat → Prop) (q : Nat → Nat) (c : Nat → ClassId) (C : Nat) (u : ap_U) (t : State) : Prop := match u with
  | (L, w, d, st, tt, hi, mi, go) => ∃ f n, fm_ok f n L ∧ va_P (dC, dI) vwCl (cm q c C f n w d st tt hi mi go) t.heap ∧ va_K (dC, dI) vwCl (km c) t ∧ va_D A (cm q c C f n w d st tt hi mi go)
theorem fx_up {f : Nat → Nat → Int32} {L : Nat → List Int32} (h : fx_ok f L) {k : Nat} {g : Nat → Int32} {l : List Int32} (hg : ar_is g l.reverse) : fx_ok (va_up f k g) (va_up L k l) := by
  intro j h1 h4
  by_cases e : j = k
  · subst e
    rw [va_up_self, va_up_self]
    exact hg
  · rw [va_up_ne _ _ e, va_up_ne _ _ e]
    exact h j h1 h4
-- an index from the new end on
def al_at (l : List Int32) (i : Int32) : Int32 := if i < 0 ∨ nI l.length ≤ i then -1 else l.getD i.toNatClampNeg 0
def al_add (l : List Int32) (x : Int32) : List Int32 := if x < 0 ∨ nI 64 ≤ x then l else x :: l
theorem al_ix {i : Int32} {n : Nat} (h0 : ¬ i < 0) (h1 : ¬ nI n ≤ i) (hn : n < 2 ^ 31) : ∃ j : Nat, j < n ∧ i = nI j := by
  obtain ⟨j, a, b, -⟩ := pk_mu h0 h1 hn
  exact ⟨j, a, b⟩
theorem al_at_in {l : List Int32} {f : Nat → Int32} (hf : ar_is f l.reverse) {j : Nat} (hj : j < l.length) (hl : l.length ≤ 64) : f (l.length - 1 - j) = al_at l (nI j) := by
  unfold al_at
  rw [if_neg (fun h => h.elim (nI_pos (by omega)) (nI_ge hj (by omega))), nI_clamp (by omega)]
  have h1 := hf (l.length - 1 - j) (by rw [List.length_reverse]; omega)
  rw [List.getElem?_reverse (by omega)] at h1
  have e : l.length - 1 - (l.length - 1 - j) = j := by omega
  rw [e] at h1
  rw [List.getD_eq_getElem?_getD, h1]
  rfl
theorem al_at_old {l : List Int32} (hl : l.length ≤ 64) : al_at l (nI l.length - nI 1) = ap_old l := by
  by_cases h : l = []
  · subst h
    decide
  · have hp : 0 < l.length := List.length_pos_iff.mpr h
    rw [pk_sub (by omega)]
    unfold al_at
    rw [if_neg (fun h => h.elim (nI_pos (by omega)) (nI_ge (by omega) (by omega))), nI_clamp (by omega), List.getD_eq_getElem?_getD, ap_old_at h]
    rfl
theorem vp_in_64 {x : Int32} : vp_in x 64 ↔ ¬ (x < 0 ∨ nI 64 ≤ x) := by
  constructor
  · intro h
    obtain ⟨j, hj, rfl⟩ := vp_in_of h (by decide)
    exact fun h => h.elim (nI_pos (by omega)) (nI_ge hj (by omega))
  · intro h
    obtain ⟨j, hj, rfl⟩ := al_ix (fun a => h (Or.inl a)) (fun a => h (Or.inr a)) (by decide)
    exact vp_in_nI hj (by decide)
theorem al_rm_del {l : List Int32} {f f' : Nat → Int32} {x : Int32} {p : Nat} (hnd : l.Nodup) (hf : ar_is f l.reverse) (hp : p < l.length) (hx : f p = x) (h1 : ∀ j, j < p → f' j = f j) (h2 : ∀ j, p ≤ j → j + 1 < l.length → f' j = f (j + 1)) : (ap_rm x l).length = l.length - 1 ∧ ar_is f' (ap_rm x l).reverse := by
  have hpr : p < l.reverse.length := by rw [List.length_reverse]; exact hp
  have e : ap_rm x l.reverse = l.reverse.eraseIdx p := ap_rm_idx _ _ (List.pairwise_reverse.mpr (List.Pairwise.imp (fun h => Ne.symm h) hnd)) (by rw [hf p hpr, hx])
  constructor
  · have hm : x ∈ l := List.mem_reverse.mp (hx ▸ ar_mem hf hpr)
    have := ap_rm_len hnd hm
    omega
  · rw [ap_rm_rev, e]
    exact ar_del hf hpr h1 (fun j a b => h2 j a (by rw [List.length_reverse] at b; exact b))
theorem al_not_mem {l : List Int32} {f : Nat → Int32} {x : Int32} (hf : ar_is f l.reverse) (h : ∀ j, j < l.length → f j ≠ x) : x ∉ l := fun hm => by
  obtain ⟨j, hj, e⟩ := ar_of hf (List.mem_reverse.mpr hm)
  exact h j (by rw [List.length_reverse] at hj; exact hj) e
theorem al_mem {l : List Int32} {f : Nat → Int32} {x : Int32} (hf : ar_is f l.reverse) {p : Nat} (hp : p < l.length) (h : f p = x) : x ∈ l := List.mem_reverse.mp (h ▸ ar_mem hf (by rw [List.length_reverse]; exact hp))
theorem al_push {l : List Int32} {f : Nat → Int32} {x : Int32} (hf : ar_is f l.reverse) : ar_is (upd f l.length x) (x :: l).reverse := by
  rw [List.reverse_cons]
  have := ar_push (a := x) hf
  rw [List.length_reverse] at this
  exact this
end
section
-- THE ADDRESS LIST: contracts (laid by wip/gen/al.py)
set_option maxHeartbeats 4000000 in
set_option maxRecDepth 100000 in
theorem c_A_size (l : Launch) (dC : Nat → ClassId) (dI : Nat → Nat → Nat) (q a : Nat) (cA : ClassId) (n : Nat) (f : Nat → Int32) (sz : Nat)  : Met l yX0_size wsX0_size ({ frames := 0, cells := 0, slots := 0, locals := 0 }) (va_Pc [.ref q] (fun U => U.heap.size = sz ∧ va_P (dC, dI) vwCl (cal q a cA n f) U.heap ∧ va_K (dC, dI) vwCl (kal cA) U ∧ va_D (fun _ => True) (cal q a cA n f))) (va_Qi (fun (r : Int32) (u : Nat × (Nat → Int32)) => r = nI n ∧ u = (n, f)) (at_A dC dI (va_A (cal q a cA n f) sz) q a cA) (va_A (cal q a cA n f) sz)) 0 0 (va_A (cal q a cA n f) sz) := by
  refine Met.ofW (cc := cX0_size) (maxL := 1) (ret := (some .int)) (by decide) rfl ?_
  intro p e s m args below meth c s₁ B hml hv
  obtain ⟨rfl, hsz, hP, hK, hD0⟩ := hv
  have hx := B.exec
  have hb := B.bytes
  have hr := B.returns
  have hts := atoms_spec (ws := wsX0_size) B.pre
  have hown : s.vm.findClass RX0 = some m.cls := findClass_of_methodNamed B.named
  have hlocks := B.notSynchronized
  have hwX0 : ∀ w ∈ u_ws RX0 TX0 2, w ∈ wsX0_size := by decide +kernel
  subst hsz
  have hD := hD0.self (sz := s.heap.size)
  generalize hAe : va_A (cal q a cA n f) s.heap.size = A at hD ⊢
  have hA : ∀ q : Nat, s.heap.size ≤ q → A q := fun q h => by rw [← hAe]; exact Or.inr h
  have hS0 : ∀ H, s.heap = H → va_S A s.heap H [] := fun H h => by subst h; exact va_S.rf
  have hl := lv_entry ([.ref q]) (n := 1) (Nat.le_of_ble_eq_true rfl)
  rw [lg_entry_eq]
  generalize (lg_sl ([.ref q]) ++ List.replicate (1 - (lg_sl ([.ref q])).length) Slot.unset).toArray = ls at hl ⊢
  have hl : lv_has ls 1 [(0, .ref q)] := hl
  generalize hHe : s.heap = H at hP ⊢
  have hS := hS0 H hHe
  refine lv_aload_n hx hb dX0_size_0 rfl (lv_at hl 0 rfl) ?_
  refine va_get (D := (dC, dI)) (ci := 0) (v := .int (nI n)) (C := RX0) (T := TX0) (N := 2) hx hb hts hwX0 hown hK hP 0 rfl rfl 1 (by decide) (hts (.fieldLink RX0 15 "ArcCache$AddressList" "count" "I") (by decide +kernel)) (fun _ h9 => h9) rfl dX0_size_1 ?_
  exact W.iret (v := nI n) hx hb hr (fun t ht hW => ⟨⟨nI n, (n, f), rfl, ⟨rfl, rfl⟩, by rw [ht]; exact hP, va_K.moved hW.alike hK, hD⟩, hS.F ht⟩) hS.2.2 dX0_size_4
set_option maxHeartbeats 4000000 in
set_option maxRecDepth 100000 in
theorem c_A_empty (l : Launch) (dC : Nat → ClassId) (dI : Nat → Nat → Nat) (q a : Nat) (cA : ClassId) (n : Nat) (f : Nat → Int32) (sz : Nat)  : Met l yX0_empty wsX0_empty ({ frames := 0, cells := 0, slots := 0, locals := 0 }) (va_Pc [.ref q] (fun U => U.heap.size = sz ∧ va_P (dC, dI) vwCl (cal q a cA n f) U.heap ∧ va_K (dC, dI) vwCl (kal cA) U ∧ va_D (fun _ => True) (cal q a cA n f))) (va_Qv (fun (u : Nat × (Nat → Int32)) => u = (0, f)) (at_A dC dI (va_A (cal q a cA n f) sz) q a cA) (va_A (cal q a cA n f) sz)) 0 0 (va_A (cal q a cA n f) sz) := by
  refine Met.ofW (cc := cX0_empty) (maxL := 1) (ret := none) (by decide) rfl ?_
  intro p e s m args below meth c s₁ B hml hv
  obtain ⟨rfl, hsz, hP, hK, hD0⟩ := hv
  have hx := B.exec
  have hb := B.bytes
  have hr := B.returns
  have hts := atoms_spec (ws := wsX0_empty) B.pre
  have hown : s.vm.findClass RX0 = some m.cls := findClass_of_methodNamed B.named
  have hlocks := B.notSynchronized
  have hwX0 : ∀ w ∈ u_ws RX0 TX0 2, w ∈ wsX0_empty := by decide +kernel
  subst hsz
  have hD := hD0.self (sz := s.heap.size)
  generalize hAe : va_A (cal q a cA n f) s.heap.size = A at hD ⊢
  have hA : ∀ q : Nat, s.heap.size ≤ q → A q := fun q h => by rw [← hAe]; exact Or.inr h
  have hS0 : ∀ H, s.heap = H → va_S A s.heap H [] := fun H h => by subst h; exact va_S.rf
  have hl := lv_entry ([.ref q]) (n := 1) (Nat.le_of_ble_eq_true rfl)
  rw [lg_entry_eq]
  generalize (lg_sl ([.ref q]) ++ List.replicate (1 - (lg_sl ([.ref q])).length) Slot.unset).toArray = ls at hl ⊢
  have hl : lv_has ls 1 [(0, .ref q)] := hl
  generalize hHe : s.heap = H at hP ⊢
  have hS := hS0 H hHe
  refine lv_aload_n hx hb dX0_empty_0 rfl (lv_at hl 0 rfl) ?_
  refine lv_iconst (v := nI 0) hx hb dX0_empty_1 (by decide) ?_
  refine va_put (D := (dC, dI)) (ci := 0) (v := .int (nI 0)) (ty := .int) (C := RX0) (T := TX0) (N := 2) hx hb hts hwX0 tyX0 tyX0_ok nmX0 hown hK hP hD hS 0 rfl rfl 1 (by decide) (hts (.fieldLink RX0 15 "ArcCache$AddressList" "count" "I") (by decide +kernel)) (fun _ h9 => h9) rfl (by decide +kernel) rfl rfl (Nat.le_of_ble_eq_true rfl) dX0_empty_2 (fun H locs hP hD hS => ?_)
  replace hP : va_P (dC, dI) vwCl (cal q a cA 0 f) H := hP
  replace hD : va_D A (cal q a cA 0 f) := hD
  exact W.vret hx hb hr (fun t ht hW => ⟨⟨(0, f), rfl, rfl, by rw [ht]; exact hP, va_K.moved hW.alike hK, hD⟩, hS.F ht⟩) hS.2.2 dX0_empty_5
set_option maxHeartbeats 4000000 in
set_option maxRecDepth 100000 in
theorem c_A_placeOf (l : Launch) (dC : Nat → ClassId) (dI : Nat → Nat → Nat) (q a : Nat) (cA : ClassId) (n : Nat) (f : Nat → Int32) (x : Int32) (sz : Nat) (hn : n ≤ 64) : Met l yX0_placeOf wsX0_placeOf ({ frames := 0, cells := 0, slots := 0, locals := 0 }) (va_Pc [.ref q, .int x] (fun U => U.heap.size = sz ∧ va_P (dC, dI) vwCl (cal q a cA n f) U.heap ∧ va_K (dC, dI) vwCl (kal cA) U ∧ va_D (fun _ => True) (cal q a cA n f))) (va_Qi (fun (r : Int32) (u : Nat × (Nat → Int32)) => u = (n, f) ∧ ((r = -1 ∧ ∀ j, j < n → f j ≠ x) ∨ ∃ p, r = nI p ∧ p < n ∧ f p = x)) (at_A dC dI (va_A (cal q a cA n f) sz) q a cA) (va_A (cal q a cA n f) sz)) 0 0 (va_A (cal q a cA n f) sz) := by
  refine Met.ofW (cc := cX0_placeOf) (maxL := 3) (ret := (some .int)) (by decide) rfl ?_
  intro p e s m args below meth c s₁ B hml hv
  obtain ⟨rfl, hsz, hP, hK, hD0⟩ := hv
  have hx := B.exec
  have hb := B.bytes
  have hr := B.returns
  have hts := atoms_spec (ws := wsX0_placeOf) B.pre
  have hown : s.vm.findClass RX0 = some m.cls := findClass_of_methodNamed B.named
  have hlocks := B.notSynchronized
  have hwX0 : ∀ w ∈ u_ws RX0 TX0 2, w ∈ wsX0_placeOf := by decide +kernel
  subst hsz
  have hD := hD0.self (sz := s.heap.size)
  generalize hAe : va_A (cal q a cA n f) s.heap.size = A at hD ⊢
  have hA : ∀ q : Nat, s.heap.size ≤ q → A q := fun q h => by rw [← hAe]; exact Or.inr h
  have hS0 : ∀ H, s.heap = H → va_S A s.heap H [] := fun H h => by subst h; exact va_S.rf
  have hl := lv_entry ([.ref q, .int x]) (n := 3) (Nat.le_of_ble_eq_true rfl)
  rw [lg_entry_eq]
  generalize (lg_sl ([.ref q, .int x]) ++ List.replicate (3 - (lg_sl ([.ref q, .int x])).length) Slot.unset).toArray = ls at hl ⊢
  have hl : lv_has ls 3 [(0, .ref q), (1, .int x)] := hl
  generalize hHe : s.heap = H at hP ⊢
  have hS := hS0 H hHe
  refine lv_iconst (v := nI 0) hx hb dX0_placeOf_0 (by decide) ?_
  refine lv_istore_n (lv' := [(2, .int (nI 0)), (0, .ref q), (1, .int x)]) hx hb dX0_placeOf_1 rfl hl (by decide) rfl (fun ls hl => ?_)
  have loop : ∀ (k : Nat) (i : Nat) (ls : Array Slot) (H : Heap) (locs : List Loc), (i ≤ n) → (∀ j, j < i → f j ≠ x) → lv_has ls 3 [(0, .ref q), (1, .int x), (2, .int (nI i))] → va_P (dC, dI) vwCl (cal q a cA n f) H → va_D A (cal q a cA n f) → va_S A s.heap H locs → n + 1 ≤ i + k → W p l e (headSpec wsX0_placeOf ({ frames := 0, cells := 0, slots := 0, locals := 0 })).room s m ([.ref q, .int x] : List Value).toArray below meth c H locs 0 0 (MQ below (va_Qi (fun (r : Int32) (u : Nat × (Nat → Int32)) => u = (n, f) ∧ ((r = -1 ∧ ∀ j, j < n → f j ≠ x) ∨ ∃ p, r = nI p ∧ p < n ∧ f p = x)) (at_A dC dI A q a cA) A) ([.ref q, .int x] : List Value).toArray s 0 0 A) (F0 m 2 ls []) := by
    intro k
    induction k with
    | zero => intro i ls H locs hile hinv hl hP hD hS hk; exact absurd hk (by omega)
    | succ k ih =>
      intro i ls H locs hile hinv hl hP hD hS hk
      refine lv_iload_n hx hb dX0_placeOf_2 rfl (lv_at hl 2 rfl) ?_
      refine lv_aload_n hx hb dX0_placeOf_3 rfl (lv_at hl 0 rfl) ?_
      refine va_get (D := (dC, dI)) (ci := 0) (v := .int (nI n)) (C := RX0) (T := TX0) (N := 2) hx hb hts hwX0 hown hK hP 0 rfl rfl 1 (by decide) (hts (.fieldLink RX0 15 "ArcCache$AddressList" "count" "I") (by decide +kernel)) (fun _ h9 => h9) rfl dX0_placeOf_4 ?_
      refine lv_icmp_ge (tgt := 28) hx hb dX0_placeOf_7 (by decide) (fun c_7 => ?_) (fun c_7 => ?_)
      · skip
        replace c_7 : n ≤ i := (nI_leI (a := n) (b := i) (by omega) (by omega)).mp c_7
        refine lv_iconst (v := -1) hx hb dX0_placeOf_28 (by decide) ?_
        exact W.iret (v := -1) hx hb hr (fun t ht hW => ⟨⟨-1, (n, f), rfl, ⟨rfl, Or.inl ⟨rfl, fun j hj => hinv j (by omega)⟩⟩, by rw [ht]; exact hP, va_K.moved hW.alike hK, hD⟩, hS.F ht⟩) hS.2.2 dX0_placeOf_29
      · skip
        replace c_7 : ¬ (n ≤ i) := fun h9 => c_7 ((nI_leI (a := n) (b := i) (by omega) (by omega)).mpr h9)
        refine lv_aload_n hx hb dX0_placeOf_10 rfl (lv_at hl 0 rfl) ?_
        refine va_get (D := (dC, dI)) (ci := 0) (v := .ref a) (C := RX0) (T := TX0) (N := 2) hx hb hts hwX0 hown hK hP 0 rfl rfl 0 (by decide) (hts (.fieldLink RX0 9 "ArcCache$AddressList" "oldestFirst" "[I") (by decide +kernel)) (fun _ h9 => h9) rfl dX0_placeOf_11 ?_
        refine lv_iload_n hx hb dX0_placeOf_14 rfl (lv_at hl 2 rfl) ?_
        refine va_iald hx hb hK hP 1 0 rfl rfl (vp_in_nI (show i < 64 by omega) (by decide)) dX0_placeOf_15 ?_
        refine lv_topi (fun x_2 e_x_2 => ?_)
        have e_x_2 : x_2 = f i := by rw [e_x_2]; rw [nI_clamp (by omega)]
        subst e_x_2
        refine lv_iload_n hx hb dX0_placeOf_16 rfl (lv_at hl 1 rfl) ?_
        refine lv_icmp_ne (tgt := 22) hx hb dX0_placeOf_17 (by decide) (fun c_17 => ?_) (fun c_17 => ?_)
        · skip
          refine lv_iinc (v := nI (i + 1)) (lv' := [(2, .int (nI (i + 1))), (0, .ref q), (1, .int x)]) hx hb dX0_placeOf_22 hl (k := 2) rfl (nI_add _ _) (by decide) rfl (fun ls hl => ?_)
          refine lv_goto (tgt := 2) hx hb dX0_placeOf_25 (by decide) ?_
          exact ih (i + 1) _ _ _ (by omega) (lt_s (p := fun j => f j ≠ x) hinv c_17) (lv_sub hl [1, 2, 0] rfl) hP hD hS (by omega)
        · skip
          refine lv_iload_n hx hb dX0_placeOf_20 rfl (lv_at hl 2 rfl) ?_
          exact W.iret (v := nI i) hx hb hr (fun t ht hW => ⟨⟨nI i, (n, f), rfl, ⟨rfl, Or.inr ⟨i, rfl, by omega, c_17⟩⟩, by rw [ht]; exact hP, va_K.moved hW.alike hK, hD⟩, hS.F ht⟩) hS.2.2 dX0_placeOf_21
  exact loop (n + 1) 0 ls H _ (Nat.zero_le _) (fun j hj => absurd hj (Nat.not_lt_zero j)) (lv_sub hl [1, 2, 0] rfl) hP hD hS (by omega)
set_option maxHeartbeats 4000000 in
set_option maxRecDepth 100000 in
theorem c_A_has (l : Launch) (dC : Nat → ClassId) (dI : Nat → Nat → Nat) (q a : Nat) (cA : ClassId) (l0 : List Int32) (f : Nat → Int32) (x : Int32) (sz : Nat) (hn : l0.length ≤ 64) (hf : ar_is f l0.reverse) : Met l yX0_has wsX0_has ({ frames := 1, cells := 0, slots := 0, locals := 22 }) (va_Pc [.ref q, .int x] (fun U => U.heap.size = sz ∧ va_P (dC, dI) vwCl (cal q a cA l0.length f) U.heap ∧ va_K (dC, dI) vwCl (kal cA) U ∧ va_D (fun _ => True) (cal q a cA l0.length f))) (va_Qi (fun (r : Int32) (u : Nat × (Nat → Int32)) => r = (if x ∈ l0 then nI 1 else nI 0) ∧ u = (l0.length, f)) (at_A dC dI (va_A (cal q a cA l0.length f) sz) q a cA) (va_A (cal q a cA l0.length f) sz)) 0 0 (va_A (cal q a cA l0.length f) sz) := by
  refine Met.ofW (cc := cX0_has) (maxL := 2) (ret := (some .boolean)) (by decide) rfl ?_
  intro p e s m args below meth c s₁ B hml hv
  obtain ⟨rfl, hsz, hP, hK, hD0⟩ := hv
  have hx := B.exec
  have hb := B.bytes
  have hr := B.returns
  have hts := atoms_spec (ws := wsX0_has) B.pre
  have hown : s.vm.findClass RX0 = some m.cls := findClass_of_methodNamed B.named
  have hlocks := B.notSynchronized
  have hwX0 : ∀ w ∈ u_ws RX0 TX0 2, w ∈ wsX0_has := by decide +kernel
  subst hsz
  have hD := hD0.self (sz := s.heap.size)
  generalize hAe : va_A (cal q a cA l0.length f) s.heap.size = A at hD ⊢
  have hA : ∀ q : Nat, s.heap.size ≤ q → A q := fun q h => by rw [← hAe]; exact Or.inr h
  have hS0 : ∀ H, s.heap = H → va_S A s.heap H [] := fun H h => by subst h; exact va_S.rf
  have hl := lv_entry ([.ref q, .int x]) (n := 2) (Nat.le_of_ble_eq_true rfl)
  rw [lg_entry_eq]
  generalize (lg_sl ([.ref q, .int x]) ++ List.replicate (2 - (lg_sl ([.ref q, .int x])).length) Slot.unset).toArray = ls at hl ⊢
  have hl : lv_has ls 2 [(0, .ref q), (1, .int x)] := hl
  generalize hHe : s.heap = H at hP ⊢
  have hS := hS0 H hHe
  refine lv_aload_n hx hb dX0_has_0 rfl (lv_at hl 0 rfl) ?_
  refine lv_iload_n hx hb dX0_has_1 rfl (lv_at hl 1 rfl) ?_
  have hPc := hP.sub (ws' := (cal q a cA l0.length f)) [0, 1] rfl
  have hDc := hD.sub (ws' := (cal q a cA l0.length f)) [0, 1] (by decide) rfl
  have hKc := hK.sub (tys' := (kal cA)) [0] rfl
  have hFc := va_free (wc := (cal q a cA l0.length f)) hD hS hA [0, 1] rfl
  refine va_calli (va_runV (As := [.int x]) (rest := []) ⟨hx, hb, hml, hown, hts⟩ (c_A_placeOf l dC dI q a cA l0.length f x H.size hn) (cwV 1 hts gX0_has_X0_placeOf rfl rfl rfl (by decide +kernel) ⟨Nat.le_of_ble_eq_true rfl, Nat.le_of_ble_eq_true rfl⟩) ⟨fun a U g mk q => by obtain ⟨q0, q1, qP, qK, qD⟩ := q; exact ⟨q0, q1, qP, va_K.moved (u := U) (U := U.calling g mk a) (Vm.Alike.refl U.vm) qK, qD⟩, va_recv hKc hPc (ci := 0) (q0 := 0) rfl rfl, fun U hU hW => ⟨rfl, by rw [hU], by rw [hU]; exact hPc, va_K.moved hW.alike hKc, hDc.weaken (fun _ _ _ _ => trivial)⟩⟩ rfl rfl hl.1 rfl (lv_room (Nat.le_of_ble_eq_true rfl)) dX0_has_2 ⟨Nat.le_of_ble_eq_true rfl, Nat.le_of_ble_eq_true rfl⟩) hS (fun q _ h => hFc q h) hFc (fun r u t H1 locs ht hvm hw hB hz1 hk1 hS => ?_)
  obtain ⟨n1, f1⟩ := u
  obtain ⟨hP1, hK1, hD1⟩ := hB
  rw [ht] at hP1
  try dsimp only at hw hP1 hD1
  obtain ⟨hu, hcase⟩ := hw
  cases hu
  obtain ⟨hP, hD⟩ := va_join (wr := []) (w1 := (cal q a cA l0.length f)) hP hD [0, 1] [] rfl rfl (by decide) (by decide) hk1 hFc hP1 hD1
  generalize H1 = H at hP hS ⊢
  replace hP : va_P (dC, dI) vwCl (cal q a cA l0.length f) H := hP
  replace hD : va_D A (cal q a cA l0.length f) := hD
  rcases hcase with ⟨e9, hno⟩ | ⟨p9, e9, hp9, hf9⟩
  · subst e9
    refine lv_if_lt (tgt := 12) hx hb dX0_has_5 (by decide) (fun c_5 => ?_) (fun c_5 => ?_)
    · skip
      refine lv_iconst (v := nI 0) hx hb dX0_has_12 (by decide) ?_
      exact W.zret (v := nI 0) (ty := .boolean) hx hb hr (by decide) (fun t ht hW => ⟨⟨nI 0, (l0.length, f), rfl, ⟨(if_neg (al_not_mem hf hno)).symm, rfl⟩, by rw [ht]; exact hP, va_K.moved hW.alike hK, hD⟩, hS.F ht⟩) hS.2.2 dX0_has_13
    · skip
      exact absurd (by decide) c_5
  · subst e9
    refine lv_if_lt (tgt := 12) hx hb dX0_has_5 (by decide) (fun c_5 => ?_) (fun c_5 => ?_)
    · skip
      replace c_5 : p9 < 0 := (nI_ltI (a := p9) (b := 0) (by omega) (by omega)).mp c_5
      exact absurd c_5 (by omega)
    · skip
      replace c_5 : ¬ (p9 < 0) := fun h9 => c_5 ((nI_ltI (a := p9) (b := 0) (by omega) (by omega)).mpr h9)
      refine lv_iconst (v := nI 1) hx hb dX0_has_8 (by decide) ?_
      refine lv_goto (tgt := 13) hx hb dX0_has_9 (by decide) ?_
      exact W.zret (v := nI 1) (ty := .boolean) hx hb hr (by decide) (fun t ht hW => ⟨⟨nI 1, (l0.length, f), rfl, ⟨(if_pos (al_mem hf hp9 hf9)).symm, rfl⟩, by rw [ht]; exact hP, va_K.moved hW.alike hK, hD⟩, hS.F ht⟩) hS.2.2 dX0_has_13
set_option maxHeartbeats 4000000 in
set_option maxRecDepth 100000 in
theorem c_A_fromNewest (l : Launch) (dC : Nat → ClassId) (dI : Nat → Nat → Nat) (q a : Nat) (cA : ClassId) (l0 : List Int32) (f : Nat → Int32) (i : Int32) (sz : Nat) (hn : l0.length ≤ 64) (hf : ar_is f l0.reverse) : Met l yX0_fromNewest wsX0_fromNewest ({ frames := 0, cells := 0, slots := 0, locals := 0 }) (va_Pc [.ref q, .int i] (fun U => U.heap.size = sz ∧ va_P (dC, dI) vwCl (cal q a cA l0.length f) U.heap ∧ va_K (dC, dI) vwCl (kal cA) U ∧ va_D (fun _ => True) (cal q a cA l0.length f))) (va_Qi (fun (r : Int32) (u : Nat × (Nat → Int32)) => r = al_at l0 i ∧ u = (l0.length, f)) (at_A dC dI (va_A (cal q a cA l0.length f) sz) q a cA) (va_A (cal q a cA l0.length f) sz)) 0 0 (va_A (cal q a cA l0.length f) sz) := by
  refine Met.ofW (cc := cX0_fromNewest) (maxL := 2) (ret := (some .int)) (by decide) rfl ?_
  intro p e s m args below meth c s₁ B hml hv
  obtain ⟨rfl, hsz, hP, hK, hD0⟩ := hv
  have hx := B.exec
  have hb := B.bytes
  have hr := B.returns
  have hts := atoms_spec (ws := wsX0_fromNewest) B.pre
  have hown : s.vm.findClass RX0 = some m.cls := findClass_of_methodNamed B.named
  have hlocks := B.notSynchronized
  have hwX0 : ∀ w ∈ u_ws RX0 TX0 2, w ∈ wsX0_fromNewest := by decide +kernel
  subst hsz
  have hD := hD0.self (sz := s.heap.size)
  generalize hAe : va_A (cal q a cA l0.length f) s.heap.size = A at hD ⊢
  have hA : ∀ q : Nat, s.heap.size ≤ q → A q := fun q h => by rw [← hAe]; exact Or.inr h
  have hS0 : ∀ H, s.heap = H → va_S A s.heap H [] := fun H h => by subst h; exact va_S.rf
  have hl := lv_entry ([.ref q, .int i]) (n := 2) (Nat.le_of_ble_eq_true rfl)
  rw [lg_entry_eq]
  generalize (lg_sl ([.ref q, .int i]) ++ List.replicate (2 - (lg_sl ([.ref q, .int i])).length) Slot.unset).toArray = ls at hl ⊢
  have hl : lv_has ls 2 [(0, .ref q), (1, .int i)] := hl
  generalize hHe : s.heap = H at hP ⊢
  have hS := hS0 H hHe
  refine lv_iload_n hx hb dX0_fromNewest_0 rfl (lv_at hl 1 rfl) ?_
  refine lv_if_lt (tgt := 28) hx hb dX0_fromNewest_1 (by decide) (fun c_1 => ?_) (fun c_1 => ?_)
  · skip
    refine lv_iconst (v := -1) hx hb dX0_fromNewest_28 (by decide) ?_
    exact W.iret (v := -1) hx hb hr (fun t ht hW => ⟨⟨-1, (l0.length, f), rfl, ⟨(if_pos (by first | exact Or.inl c_1 | exact Or.inr c_9)).symm, rfl⟩, by rw [ht]; exact hP, va_K.moved hW.alike hK, hD⟩, hS.F ht⟩) hS.2.2 dX0_fromNewest_29
  · skip
    refine lv_iload_n hx hb dX0_fromNewest_4 rfl (lv_at hl 1 rfl) ?_
    refine lv_aload_n hx hb dX0_fromNewest_5 rfl (lv_at hl 0 rfl) ?_
    refine va_get (D := (dC, dI)) (ci := 0) (v := .int (nI l0.length)) (C := RX0) (T := TX0) (N := 2) hx hb hts hwX0 hown hK hP 0 rfl rfl 1 (by decide) (hts (.fieldLink RX0 15 "ArcCache$AddressList" "count" "I") (by decide +kernel)) (fun _ h9 => h9) rfl dX0_fromNewest_6 ?_
    refine lv_icmp_ge (tgt := 28) hx hb dX0_fromNewest_9 (by decide) (fun c_9 => ?_) (fun c_9 => ?_)
    · skip
      refine lv_iconst (v := -1) hx hb dX0_fromNewest_28 (by decide) ?_
      exact W.iret (v := -1) hx hb hr (fun t ht hW => ⟨⟨-1, (l0.length, f), rfl, ⟨(if_pos (by first | exact Or.inl c_1 | exact Or.inr c_9)).symm, rfl⟩, by rw [ht]; exact hP, va_K.moved hW.alike hK, hD⟩, hS.F ht⟩) hS.2.2 dX0_fromNewest_29
    · skip
      obtain ⟨j, hj, ej⟩ := al_ix c_1 c_9 (by omega)
      subst ej
      refine lv_aload_n hx hb dX0_fromNewest_12 rfl (lv_at hl 0 rfl) ?_
      refine va_get (D := (dC, dI)) (ci := 0) (v := .ref a) (C := RX0) (T := TX0) (N := 2) hx hb hts hwX0 hown hK hP 0 rfl rfl 0 (by decide) (hts (.fieldLink RX0 9 "ArcCache$AddressList" "oldestFirst" "[I") (by decide +kernel)) (fun _ h9 => h9) rfl dX0_fromNewest_13 ?_
      refine lv_aload_n hx hb dX0_fromNewest_16 rfl (lv_at hl 0 rfl) ?_
      refine va_get (D := (dC, dI)) (ci := 0) (v := .int (nI l0.length)) (C := RX0) (T := TX0) (N := 2) hx hb hts hwX0 hown hK hP 0 rfl rfl 1 (by decide) (hts (.fieldLink RX0 15 "ArcCache$AddressList" "count" "I") (by decide +kernel)) (fun _ h9 => h9) rfl dX0_fromNewest_17 ?_
      refine lv_iconst (v := nI 1) hx hb dX0_fromNewest_20 (by decide) ?_
      refine lv_isub hx hb dX0_fromNewest_21 ?_
      refine lv_topi (fun x_1 e_x_1 => ?_)
      have e_x_1 : x_1 = nI (l0.length - 1) := by rw [e_x_1]; exact pk_sub (by omega)
      subst e_x_1
      refine lv_iload_n hx hb dX0_fromNewest_22 rfl (lv_at hl 1 rfl) ?_
      refine lv_isub hx hb dX0_fromNewest_23 ?_
      refine lv_topi (fun x_2 e_x_2 => ?_)
      have e_x_2 : x_2 = nI ((l0.length - 1) - j) := by rw [e_x_2]; exact pk_sub (by omega)
      subst e_x_2
      refine va_iald hx hb hK hP 1 0 rfl rfl (vp_in_nI (show (l0.length - 1) - j < 64 by omega) (by decide)) dX0_fromNewest_24 ?_
      refine lv_topi (fun x_4 e_x_4 => ?_)
      have e_x_4 : x_4 = f ((l0.length - 1) - j) := by rw [e_x_4]; rw [nI_clamp (by omega)]
      subst e_x_4
      refine lv_goto (tgt := 29) hx hb dX0_fromNewest_25 (by decide) ?_
      exact W.iret (v := f ((l0.length - 1) - j)) hx hb hr (fun t ht hW => ⟨⟨f ((l0.length - 1) - j), (l0.length, f), rfl, ⟨al_at_in hf hj (by omega), rfl⟩, by rw [ht]; exact hP, va_K.moved hW.alike hK, hD⟩, hS.F ht⟩) hS.2.2 dX0_fromNewest_29
set_option maxHeartbeats 4000000 in
set_option maxRecDepth 100000 in
theorem c_A_oldest (l : Launch) (dC : Nat → ClassId) (dI : Nat → Nat → Nat) (q a : Nat) (cA : ClassId) (l0 : List Int32) (f : Nat → Int32) (sz : Nat) (hn : l0.length ≤ 64) (hf : ar_is f l0.reverse) : Met l yX0_oldest wsX0_oldest ({ frames := 1, cells := 0, slots := 0, locals := 21 }) (va_Pc [.ref q] (fun U => U.heap.size = sz ∧ va_P (dC, dI) vwCl (cal q a cA l0.length f) U.heap ∧ va_K (dC, dI) vwCl (kal cA) U ∧ va_D (fun _ => True) (cal q a cA l0.length f))) (va_Qi (fun (r : Int32) (u : Nat × (Nat → Int32)) => r = ap_old l0 ∧ u = (l0.length, f)) (at_A dC dI (va_A (cal q a cA l0.length f) sz) q a cA) (va_A (cal q a cA l0.length f) sz)) 0 0 (va_A (cal q a cA l0.length f) sz) := by
  refine Met.ofW (cc := cX0_oldest) (maxL := 1) (ret := (some .int)) (by decide) rfl ?_
  intro p e s m args below meth c s₁ B hml hv
  obtain ⟨rfl, hsz, hP, hK, hD0⟩ := hv
  have hx := B.exec
  have hb := B.bytes
  have hr := B.returns
  have hts := atoms_spec (ws := wsX0_oldest) B.pre
  have hown : s.vm.findClass RX0 = some m.cls := findClass_of_methodNamed B.named
  have hlocks := B.notSynchronized
  have hwX0 : ∀ w ∈ u_ws RX0 TX0 2, w ∈ wsX0_oldest := by decide +kernel
  subst hsz
  have hD := hD0.self (sz := s.heap.size)
  generalize hAe : va_A (cal q a cA l0.length f) s.heap.size = A at hD ⊢
  have hA : ∀ q : Nat, s.heap.size ≤ q → A q := fun q h => by rw [← hAe]; exact Or.inr h
  have hS0 : ∀ H, s.heap = H → va_S A s.heap H [] := fun H h => by subst h; exact va_S.rf
  have hl := lv_entry ([.ref q]) (n := 1) (Nat.le_of_ble_eq_true rfl)
  rw [lg_entry_eq]
  generalize (lg_sl ([.ref q]) ++ List.replicate (1 - (lg_sl ([.ref q])).length) Slot.unset).toArray = ls at hl ⊢
  have hl : lv_has ls 1 [(0, .ref q)] := hl
  generalize hHe : s.heap = H at hP ⊢
  have hS := hS0 H hHe
  refine lv_aload_n hx hb dX0_oldest_0 rfl (lv_at hl 0 rfl) ?_
  refine lv_aload_n hx hb dX0_oldest_1 rfl (lv_at hl 0 rfl) ?_
  refine va_get (D := (dC, dI)) (ci := 0) (v := .int (nI l0.length)) (C := RX0) (T := TX0) (N := 2) hx hb hts hwX0 hown hK hP 0 rfl rfl 1 (by decide) (hts (.fieldLink RX0 15 "ArcCache$AddressList" "count" "I") (by decide +kernel)) (fun _ h9 => h9) rfl dX0_oldest_2 ?_
  refine lv_iconst (v := nI 1) hx hb dX0_oldest_5 (by decide) ?_
  refine lv_isub hx hb dX0_oldest_6 ?_
  have hPc := hP.sub (ws' := (cal q a cA l0.length f)) [0, 1] rfl
  have hDc := hD.sub (ws' := (cal q a cA l0.length f)) [0, 1] (by decide) rfl
  have hKc := hK.sub (tys' := (kal cA)) [0] rfl
  have hFc := va_free (wc := (cal q a cA l0.length f)) hD hS hA [0, 1] rfl
  refine va_calli (va_runV (As := [.int (nI l0.length - nI 1)]) (rest := []) ⟨hx, hb, hml, hown, hts⟩ (c_A_fromNewest l dC dI q a cA l0 f (nI l0.length - nI 1) H.size hn hf) (cwV 1 hts gX0_oldest_X0_fromNewest rfl rfl rfl (by decide +kernel) ⟨Nat.le_of_ble_eq_true rfl, Nat.le_of_ble_eq_true rfl⟩) ⟨fun a U g mk q => by obtain ⟨q0, q1, qP, qK, qD⟩ := q; exact ⟨q0, q1, qP, va_K.moved (u := U) (U := U.calling g mk a) (Vm.Alike.refl U.vm) qK, qD⟩, va_recv hKc hPc (ci := 0) (q0 := 0) rfl rfl, fun U hU hW => ⟨rfl, by rw [hU], by rw [hU]; exact hPc, va_K.moved hW.alike hKc, hDc.weaken (fun _ _ _ _ => trivial)⟩⟩ rfl rfl hl.1 rfl (lv_room (Nat.le_of_ble_eq_true rfl)) dX0_oldest_7 ⟨Nat.le_of_ble_eq_true rfl, Nat.le_of_ble_eq_true rfl⟩) hS (fun q _ h => hFc q h) hFc (fun r u t H1 locs ht hvm hw hB hz1 hk1 hS => ?_)
  obtain ⟨n1, f1⟩ := u
  obtain ⟨hP1, hK1, hD1⟩ := hB
  rw [ht] at hP1
  try dsimp only at hw hP1 hD1
  obtain ⟨hr9, hu⟩ := hw
  cases hu
  obtain ⟨hP, hD⟩ := va_join (wr := []) (w1 := (cal q a cA l0.length f)) hP hD [0, 1] [] rfl rfl (by decide) (by decide) hk1 hFc hP1 hD1
  generalize H1 = H at hP hS ⊢
  replace hP : va_P (dC, dI) vwCl (cal q a cA l0.length f) H := hP
  replace hD : va_D A (cal q a cA l0.length f) := hD
  exact W.iret (v := r) hx hb hr (fun t ht hW => ⟨⟨r, (l0.length, f), rfl, ⟨hr9.trans (al_at_old hn), rfl⟩, by rw [ht]; exact hP, va_K.moved hW.alike hK, hD⟩, hS.F ht⟩) hS.2.2 dX0_oldest_10
set_option maxHeartbeats 4000000 in
set_option maxRecDepth 100000 in
theorem c_X_isAddress (l : Launch) (dC : Nat → ClassId) (dI : Nat → Nat → Nat) (x : Int32) (sz : Nat)  : Met l yX1_isAddress wsX1_isAddress ({ frames := 0, cells := 0, slots := 0, locals := 0 }) (va_Pc [.int x] (fun U => U.heap.size = sz)) (va_Qi (fun (r : Int32) (_ : Unit) => r = (if x < 0 ∨ nI 64 ≤ x then nI 0 else nI 1)) (fun _ _ => True) (va_A [] sz)) 0 0 (va_A [] sz) := by
  refine Met.ofW (cc := cX1_isAddress) (maxL := 1) (ret := (some .boolean)) (by decide) rfl ?_
  intro p e s m args below meth c s₁ B hml hv
  obtain ⟨rfl, hsz⟩ := hv
  have hx := B.exec
  have hb := B.bytes
  have hr := B.returns
  have hts := atoms_spec (ws := wsX1_isAddress) B.pre
  have hown : s.vm.findClass RX1 = some m.cls := findClass_of_methodNamed B.named
  have hlocks := B.notSynchronized
  subst hsz
  have hP : va_P (dC, dI) vwCl [] s.heap := fun k q h => by simp at h
  have hD : va_D (va_A [] s.heap.size) [] := ⟨fun i j p q h => by simp at h, fun k q h => by simp at h⟩
  generalize hAe : va_A [] s.heap.size = A at hD ⊢
  have hA : ∀ q : Nat, s.heap.size ≤ q → A q := fun q h => by rw [← hAe]; exact Or.inr h
  have hS0 : ∀ H, s.heap = H → va_S A s.heap H [] := fun H h => by subst h; exact va_S.rf
  have hl := lv_entry ([.int x]) (n := 1) (Nat.le_of_ble_eq_true rfl)
  rw [lg_entry_eq]
  generalize (lg_sl ([.int x]) ++ List.replicate (1 - (lg_sl ([.int x])).length) Slot.unset).toArray = ls at hl ⊢
  have hl : lv_has ls 1 [(0, .int x)] := hl
  generalize hHe : s.heap = H at hP ⊢
  have hS := hS0 H hHe
  refine lv_iload_n hx hb dX1_isAddress_0 rfl (lv_at hl 0 rfl) ?_
  refine lv_if_lt (tgt := 14) hx hb dX1_isAddress_1 (by decide) (fun c_1 => ?_) (fun c_1 => ?_)
  · skip
    refine lv_iconst (v := nI 0) hx hb dX1_isAddress_14 (by decide) ?_
    exact W.zret (v := nI 0) (ty := .boolean) hx hb hr (by decide) (fun t ht hW => ⟨⟨nI 0, (), rfl, (if_pos (by first | exact Or.inl c_1 | exact Or.inr c_7)).symm, trivial⟩, hS.F ht⟩) hS.2.2 dX1_isAddress_15
  · skip
    refine lv_iload_n hx hb dX1_isAddress_4 rfl (lv_at hl 0 rfl) ?_
    refine lv_bipush (v := nI 64) hx hb dX1_isAddress_5 (by decide) ?_
    refine lv_icmp_ge (tgt := 14) hx hb dX1_isAddress_7 (by decide) (fun c_7 => ?_) (fun c_7 => ?_)
    · skip
      refine lv_iconst (v := nI 0) hx hb dX1_isAddress_14 (by decide) ?_
      exact W.zret (v := nI 0) (ty := .boolean) hx hb hr (by decide) (fun t ht hW => ⟨⟨nI 0, (), rfl, (if_pos (by first | exact Or.inl c_1 | exact Or.inr c_7)).symm, trivial⟩, hS.F ht⟩) hS.2.2 dX1_isAddress_15
    · skip
      refine lv_iconst (v := nI 1) hx hb dX1_isAddress_10 (by decide) ?_
      refine lv_goto (tgt := 15) hx hb dX1_isAddress_11 (by decide) ?_
      exact W.zret (v := nI 1) (ty := .boolean) hx hb hr (by decide) (fun t ht hW => ⟨⟨nI 1, (), rfl, (if_neg (fun h9 => h9.elim c_1 c_7)).symm, trivial⟩, hS.F ht⟩) hS.2.2 dX1_isAddress_15
set_option maxHeartbeats 4000000 in
set_option maxRecDepth 100000 in
theorem c_A_addNewest (l : Launch) (dC : Nat → ClassId) (dI : Nat → Nat → Nat) (q a : Nat) (cA : ClassId) (l0 : List Int32) (f : Nat → Int32) (x : Int32) (sz : Nat) (hn : l0.length < 64) (hf : ar_is f l0.reverse) : Met l yX0_addNewest wsX0_addNewest ({ frames := 1, cells := 0, slots := 0, locals := 20 }) (va_Pc [.ref q, .int x] (fun U => U.heap.size = sz ∧ va_P (dC, dI) vwCl (cal q a cA l0.length f) U.heap ∧ va_K (dC, dI) vwCl (kal cA) U ∧ va_D (fun _ => True) (cal q a cA l0.length f) ∧ va_Nw (.methodLinkNest RX0 23 yX1_isAddress "ArcCache") U)) (va_Qv (fun (u : Nat × (Nat → Int32)) => u.1 = (al_add l0 x).length ∧ ar_is u.2 (al_add l0 x).reverse) (at_A dC dI (va_A (cal q a cA l0.length f) sz) q a cA) (va_A (cal q a cA l0.length f) sz)) 0 0 (va_A (cal q a cA l0.length f) sz) := by
  refine Met.ofW (cc := cX0_addNewest) (maxL := 2) (ret := none) (by decide) rfl ?_
  intro p e s m args below meth c s₁ B hml hv
  obtain ⟨rfl, hsz, hP, hK, hD0, hN⟩ := hv
  have hx := B.exec
  have hb := B.bytes
  have hr := B.returns
  have hts := atoms_spec (ws := wsX0_addNewest) B.pre
  have hown : s.vm.findClass RX0 = some m.cls := findClass_of_methodNamed B.named
  have hlocks := B.notSynchronized
  have hwX0 : ∀ w ∈ u_ws RX0 TX0 2, w ∈ wsX0_addNewest := by decide +kernel
  subst hsz
  have hD := hD0.self (sz := s.heap.size)
  generalize hAe : va_A (cal q a cA l0.length f) s.heap.size = A at hD ⊢
  have hA : ∀ q : Nat, s.heap.size ≤ q → A q := fun q h => by rw [← hAe]; exact Or.inr h
  have hS0 : ∀ H, s.heap = H → va_S A s.heap H [] := fun H h => by subst h; exact va_S.rf
  have hl := lv_entry ([.ref q, .int x]) (n := 2) (Nat.le_of_ble_eq_true rfl)
  rw [lg_entry_eq]
  generalize (lg_sl ([.ref q, .int x]) ++ List.replicate (2 - (lg_sl ([.ref q, .int x])).length) Slot.unset).toArray = ls at hl ⊢
  have hl : lv_has ls 2 [(0, .ref q), (1, .int x)] := hl
  generalize hHe : s.heap = H at hP ⊢
  have hS := hS0 H hHe
  refine lv_iload_n hx hb dX0_addNewest_0 rfl (lv_at hl 1 rfl) ?_
  have hPc := hP.sub (ws' := []) [] rfl
  have hDc := hD.sub (ws' := []) [] (by decide) rfl
  have hFc := va_free (wc := []) hD hS hA [] rfl
  refine va_calli (va_runSN (As := [.int x]) (rest := []) ⟨hx, hb, hml, hown, hts⟩ (c_X_isAddress l dC dI x H.size) ⟨va_cnB 1 hts gX0_addNewest_X1_isAddress_n23 rfl rfl rfl hN (hts (.initialized RX1) (by decide +kernel)) (by decide +kernel) ⟨Nat.le_of_ble_eq_true rfl, Nat.le_of_ble_eq_true rfl⟩, hts (.static yX1_isAddress) (by decide +kernel), trivial⟩ ⟨fun a U g mk q => by obtain ⟨q0, q1⟩ := q; exact ⟨q0, q1⟩, fun U hU hW => ⟨rfl, by show U.heap.size = _; rw [hU]⟩⟩ rfl rfl hl.1 rfl (lv_room (Nat.le_of_ble_eq_true rfl)) dX0_addNewest_1 ⟨Nat.le_of_ble_eq_true rfl, Nat.le_of_ble_eq_true rfl⟩) hS (fun q _ h => hFc q h) hFc (fun r u t H1 locs ht hvm hw hB hz1 hk1 hS => ?_)
  obtain ⟨hP, hD⟩ := va_join (wr := (cal q a cA l0.length f)) (w1 := []) hP hD [] [0, 1] rfl rfl (by decide) (by decide) hk1 hFc (fun k q h => by simp at h) ⟨fun i j p q h => by simp at h, fun k q h => by simp at h⟩
  generalize H1 = H at hP hS ⊢
  replace hP : va_P (dC, dI) vwCl (cal q a cA l0.length f) H := hP
  replace hD : va_D A (cal q a cA l0.length f) := hD
  by_cases hyes9 : x < 0 ∨ nI 64 ≤ x
  · rw [if_pos hyes9] at hw
    subst hw
    refine lv_if_eq (tgt := 36) hx hb dX0_addNewest_4 (by decide) (fun c_4 => ?_) (fun c_4 => ?_)
    · skip
      replace c_4 : 0 = 0 := (nI_eq (a := 0) (b := 0) (by omega) (by omega)).mp c_4
      exact W.vret hx hb hr (fun t ht hW => ⟨⟨(l0.length, f), rfl, ⟨by unfold al_add; rw [if_pos hyes9], by unfold al_add; rw [if_pos hyes9]; exact hf⟩, by rw [ht]; exact hP, va_K.moved hW.alike hK, hD⟩, hS.F ht⟩) hS.2.2 dX0_addNewest_36
    · skip
      replace c_4 : ¬ (0 = 0) := fun h9 => c_4 ((nI_eq (a := 0) (b := 0) (by omega) (by omega)).mpr h9)
      exact absurd c_4 (by omega)
  · have hno9 := hyes9
    rw [if_neg hno9] at hw
    subst hw
    refine lv_if_eq (tgt := 36) hx hb dX0_addNewest_4 (by decide) (fun c_4 => ?_) (fun c_4 => ?_)
    · skip
      replace c_4 : 1 = 0 := (nI_eq (a := 1) (b := 0) (by omega) (by omega)).mp c_4
      exact absurd c_4 (by omega)
    · skip
      replace c_4 : ¬ (1 = 0) := fun h9 => c_4 ((nI_eq (a := 1) (b := 0) (by omega) (by omega)).mpr h9)
      refine lv_aload_n hx hb dX0_addNewest_7 rfl (lv_at hl 0 rfl) ?_
      refine va_get (D := (dC, dI)) (ci := 0) (v := .int (nI l0.length)) (C := RX0) (T := TX0) (N := 2) hx hb hts hwX0 hown hK hP 0 rfl rfl 1 (by decide) (hts (.fieldLink RX0 15 "ArcCache$AddressList" "count" "I") (by decide +kernel)) (fun _ h9 => h9) rfl dX0_addNewest_8 ?_
      refine lv_bipush (v := nI 64) hx hb dX0_addNewest_11 (by decide) ?_
      refine lv_icmp_ge (tgt := 36) hx hb dX0_addNewest_13 (by decide) (fun c_13 => ?_) (fun c_13 => ?_)
      · skip
        replace c_13 : 64 ≤ l0.length := (nI_leI (a := 64) (b := l0.length) (by omega) (by omega)).mp c_13
        exact absurd c_13 (by omega)
      · skip
        replace c_13 : ¬ (64 ≤ l0.length) := fun h9 => c_13 ((nI_leI (a := 64) (b := l0.length) (by omega) (by omega)).mpr h9)
        refine lv_aload_n hx hb dX0_addNewest_16 rfl (lv_at hl 0 rfl) ?_
        refine va_get (D := (dC, dI)) (ci := 0) (v := .ref a) (C := RX0) (T := TX0) (N := 2) hx hb hts hwX0 hown hK hP 0 rfl rfl 0 (by decide) (hts (.fieldLink RX0 9 "ArcCache$AddressList" "oldestFirst" "[I") (by decide +kernel)) (fun _ h9 => h9) rfl dX0_addNewest_17 ?_
        refine lv_aload_n hx hb dX0_addNewest_20 rfl (lv_at hl 0 rfl) ?_
        refine va_get (D := (dC, dI)) (ci := 0) (v := .int (nI l0.length)) (C := RX0) (T := TX0) (N := 2) hx hb hts hwX0 hown hK hP 0 rfl rfl 1 (by decide) (hts (.fieldLink RX0 15 "ArcCache$AddressList" "count" "I") (by decide +kernel)) (fun _ h9 => h9) rfl dX0_addNewest_21 ?_
        refine lv_iload_n hx hb dX0_addNewest_24 rfl (lv_at hl 1 rfl) ?_
        refine va_iast hx hb hK hP hD hS 1 0 rfl rfl (vp_in_nI (show l0.length < 64 by omega) (by decide)) dX0_addNewest_25 (fun H locs hP hD hS => ?_)
        rw [nI_clamp (show l0.length < 2 ^ 31 by omega)] at hP hD
        replace hP : va_P (dC, dI) vwCl (cal q a cA l0.length (upd f l0.length x)) H := hP
        replace hD : va_D A (cal q a cA l0.length (upd f l0.length x)) := hD
        refine lv_aload_n hx hb dX0_addNewest_26 rfl (lv_at hl 0 rfl) ?_
        refine lv_dup hx hb dX0_addNewest_27 rfl ?_
        refine va_get (D := (dC, dI)) (ci := 0) (v := .int (nI l0.length)) (C := RX0) (T := TX0) (N := 2) hx hb hts hwX0 hown hK hP 0 rfl rfl 1 (by decide) (hts (.fieldLink RX0 15 "ArcCache$AddressList" "count" "I") (by decide +kernel)) (fun _ h9 => h9) rfl dX0_addNewest_28 ?_
        refine lv_iconst (v := nI 1) hx hb dX0_addNewest_31 (by decide) ?_
        refine lv_iadd hx hb dX0_addNewest_32 ?_
        refine lv_topi (fun x_1 e_x_1 => ?_)
        have e_x_1 : x_1 = nI (l0.length + 1) := by rw [e_x_1]; exact nI_add _ _
        subst e_x_1
        refine va_put (D := (dC, dI)) (ci := 0) (v := .int (nI (l0.length + 1))) (ty := .int) (C := RX0) (T := TX0) (N := 2) hx hb hts hwX0 tyX0 tyX0_ok nmX0 hown hK hP hD hS 0 rfl rfl 1 (by decide) (hts (.fieldLink RX0 15 "ArcCache$AddressList" "count" "I") (by decide +kernel)) (fun _ h9 => h9) rfl (by decide +kernel) rfl rfl (Nat.le_of_ble_eq_true rfl) dX0_addNewest_33 (fun H locs hP hD hS => ?_)
        replace hP : va_P (dC, dI) vwCl (cal q a cA (l0.length + 1) (upd f l0.length x)) H := hP
        replace hD : va_D A (cal q a cA (l0.length + 1) (upd f l0.length x)) := hD
        exact W.vret hx hb hr (fun t ht hW => ⟨⟨(l0.length + 1, upd f l0.length x), rfl, ⟨by unfold al_add; rw [if_neg hno9]; rfl, by unfold al_add; rw [if_neg hno9]; exact al_push hf⟩, by rw [ht]; exact hP, va_K.moved hW.alike hK, hD⟩, hS.F ht⟩) hS.2.2 dX0_addNewest_36
set_option maxHeartbeats 4000000 in
set_option maxRecDepth 100000 in
theorem c_A_remove (l : Launch) (dC : Nat → ClassId) (dI : Nat → Nat → Nat) (q a : Nat) (cA : ClassId) (l0 : List Int32) (f : Nat → Int32) (x : Int32) (sz : Nat) (hn : l0.length ≤ 64) (hf : ar_is f l0.reverse) (hnd : l0.Nodup) : Met l yX0_remove wsX0_remove ({ frames := 1, cells := 0, slots := 0, locals := 60 }) (va_Pc [.ref q, .int x] (fun U => U.heap.size = sz ∧ va_P (dC, dI) vwCl (cal q a cA l0.length f) U.heap ∧ va_K (dC, dI) vwCl (kal cA) U ∧ va_D (fun _ => True) (cal q a cA l0.length f))) (va_Qv (fun (u : Nat × (Nat → Int32)) => u.1 = (ap_rm x l0).length ∧ ar_is u.2 (ap_rm x l0).reverse) (at_A dC dI (va_A (cal q a cA l0.length f) sz) q a cA) (va_A (cal q a cA l0.length f) sz)) 0 0 (va_A (cal q a cA l0.length f) sz) := by
  refine Met.ofW (cc := cX0_remove) (maxL := 3) (ret := none) (by decide) rfl ?_
  intro p e s m args below meth c s₁ B hml hv
  obtain ⟨rfl, hsz, hP, hK, hD0⟩ := hv
  have hx := B.exec
  have hb := B.bytes
  have hr := B.returns
  have hts := atoms_spec (ws := wsX0_remove) B.pre
  have hown : s.vm.findClass RX0 = some m.cls := findClass_of_methodNamed B.named
  have hlocks := B.notSynchronized
  have hwX0 : ∀ w ∈ u_ws RX0 TX0 2, w ∈ wsX0_remove := by decide +kernel
  subst hsz
  have hD := hD0.self (sz := s.heap.size)
  generalize hAe : va_A (cal q a cA l0.length f) s.heap.size = A at hD ⊢
  have hA : ∀ q : Nat, s.heap.size ≤ q → A q := fun q h => by rw [← hAe]; exact Or.inr h
  have hS0 : ∀ H, s.heap = H → va_S A s.heap H [] := fun H h => by subst h; exact va_S.rf
  have hl := lv_entry ([.ref q, .int x]) (n := 3) (Nat.le_of_ble_eq_true rfl)
  rw [lg_entry_eq]
  generalize (lg_sl ([.ref q, .int x]) ++ List.replicate (3 - (lg_sl ([.ref q, .int x])).length) Slot.unset).toArray = ls at hl ⊢
  have hl : lv_has ls 3 [(0, .ref q), (1, .int x)] := hl
  generalize hHe : s.heap = H at hP ⊢
  have hS := hS0 H hHe
  refine lv_aload_n hx hb dX0_remove_0 rfl (lv_at hl 0 rfl) ?_
  refine lv_iload_n hx hb dX0_remove_1 rfl (lv_at hl 1 rfl) ?_
  have hPc := hP.sub (ws' := (cal q a cA l0.length f)) [0, 1] rfl
  have hDc := hD.sub (ws' := (cal q a cA l0.length f)) [0, 1] (by decide) rfl
  have hKc := hK.sub (tys' := (kal cA)) [0] rfl
  have hFc := va_free (wc := (cal q a cA l0.length f)) hD hS hA [0, 1] rfl
  refine va_calli (va_runV (As := [.int x]) (rest := []) ⟨hx, hb, hml, hown, hts⟩ (c_A_placeOf l dC dI q a cA l0.length f x H.size hn) (cwV 1 hts gX0_remove_X0_placeOf rfl rfl rfl (by decide +kernel) ⟨Nat.le_of_ble_eq_true rfl, Nat.le_of_ble_eq_true rfl⟩) ⟨fun a U g mk q => by obtain ⟨q0, q1, qP, qK, qD⟩ := q; exact ⟨q0, q1, qP, va_K.moved (u := U) (U := U.calling g mk a) (Vm.Alike.refl U.vm) qK, qD⟩, va_recv hKc hPc (ci := 0) (q0 := 0) rfl rfl, fun U hU hW => ⟨rfl, by rw [hU], by rw [hU]; exact hPc, va_K.moved hW.alike hKc, hDc.weaken (fun _ _ _ _ => trivial)⟩⟩ rfl rfl hl.1 rfl (lv_room (Nat.le_of_ble_eq_true rfl)) dX0_remove_2 ⟨Nat.le_of_ble_eq_true rfl, Nat.le_of_ble_eq_true rfl⟩) hS (fun q _ h => hFc q h) hFc (fun r u t H1 locs ht hvm hw hB hz1 hk1 hS => ?_)
  obtain ⟨n1, f1⟩ := u
  obtain ⟨hP1, hK1, hD1⟩ := hB
  rw [ht] at hP1
  try dsimp only at hw hP1 hD1
  obtain ⟨hu, hcase⟩ := hw
  cases hu
  obtain ⟨hP, hD⟩ := va_join (wr := []) (w1 := (cal q a cA l0.length f)) hP hD [0, 1] [] rfl rfl (by decide) (by decide) hk1 hFc hP1 hD1
  generalize H1 = H at hP hS ⊢
  replace hP : va_P (dC, dI) vwCl (cal q a cA l0.length f) H := hP
  replace hD : va_D A (cal q a cA l0.length f) := hD
  rcases hcase with ⟨e9, hno⟩ | ⟨p9, e9, hp9, hf9⟩
  · subst e9
    refine lv_istore_n (lv' := [(2, .int (-1)), (0, .ref q), (1, .int x)]) hx hb dX0_remove_5 rfl hl (by decide) rfl (fun ls hl => ?_)
    refine lv_iload_n hx hb dX0_remove_6 rfl (lv_at hl 0 rfl) ?_
    refine lv_if_lt (tgt := 41) hx hb dX0_remove_7 (by decide) (fun c_7 => ?_) (fun c_7 => ?_)
    · skip
      exact W.vret hx hb hr (fun t ht hW => ⟨⟨(l0.length, f), rfl, ⟨by rw [ap_rm_out (al_not_mem hf hno)], by rw [ap_rm_out (al_not_mem hf hno)]; exact hf⟩, by rw [ht]; exact hP, va_K.moved hW.alike hK, hD⟩, hS.F ht⟩) hS.2.2 dX0_remove_41
    · skip
      exact absurd (by decide) c_7
  · subst e9
    refine lv_istore_n (lv' := [(2, .int (nI p9)), (0, .ref q), (1, .int x)]) hx hb dX0_remove_5 rfl hl (by decide) rfl (fun ls hl => ?_)
    refine lv_iload_n hx hb dX0_remove_6 rfl (lv_at hl 0 rfl) ?_
    refine lv_if_lt (tgt := 41) hx hb dX0_remove_7 (by decide) (fun c_7 => ?_) (fun c_7 => ?_)
    · skip
      replace c_7 : p9 < 0 := (nI_ltI (a := p9) (b := 0) (by omega) (by omega)).mp c_7
      exact absurd c_7 (by omega)
    · skip
      replace c_7 : ¬ (p9 < 0) := fun h9 => c_7 ((nI_ltI (a := p9) (b := 0) (by omega) (by omega)).mpr h9)
      refine lv_aload_n hx hb dX0_remove_10 rfl (lv_at hl 1 rfl) ?_
      refine lv_dup hx hb dX0_remove_11 rfl ?_
      refine va_get (D := (dC, dI)) (ci := 0) (v := .int (nI l0.length)) (C := RX0) (T := TX0) (N := 2) hx hb hts hwX0 hown hK hP 0 rfl rfl 1 (by decide) (hts (.fieldLink RX0 15 "ArcCache$AddressList" "count" "I") (by decide +kernel)) (fun _ h9 => h9) rfl dX0_remove_12 ?_
      refine lv_iconst (v := nI 1) hx hb dX0_remove_15 (by decide) ?_
      refine lv_isub hx hb dX0_remove_16 ?_
      refine lv_topi (fun x_1 e_x_1 => ?_)
      have e_x_1 : x_1 = nI (l0.length - 1) := by rw [e_x_1]; exact pk_sub (by omega)
      subst e_x_1
      refine va_put (D := (dC, dI)) (ci := 0) (v := .int (nI (l0.length - 1))) (ty := .int) (C := RX0) (T := TX0) (N := 2) hx hb hts hwX0 tyX0 tyX0_ok nmX0 hown hK hP hD hS 0 rfl rfl 1 (by decide) (hts (.fieldLink RX0 15 "ArcCache$AddressList" "count" "I") (by decide +kernel)) (fun _ h9 => h9) rfl (by decide +kernel) rfl rfl (Nat.le_of_ble_eq_true rfl) dX0_remove_17 (fun H locs hP hD hS => ?_)
      replace hP : va_P (dC, dI) vwCl (cal q a cA (l0.length - 1) f) H := hP
      replace hD : va_D A (cal q a cA (l0.length - 1) f) := hD
      refine lv_aload_n hx hb dX0_remove_20 rfl (lv_at hl 1 rfl) ?_
      refine va_get (D := (dC, dI)) (ci := 0) (v := .ref a) (C := RX0) (T := TX0) (N := 2) hx hb hts hwX0 hown hK hP 0 rfl rfl 0 (by decide) (hts (.fieldLink RX0 9 "ArcCache$AddressList" "oldestFirst" "[I") (by decide +kernel)) (fun _ h9 => h9) rfl dX0_remove_21 ?_
      refine lv_iload_n hx hb dX0_remove_24 rfl (lv_at hl 0 rfl) ?_
      refine lv_iconst (v := nI 1) hx hb dX0_remove_25 (by decide) ?_
      refine lv_iadd hx hb dX0_remove_26 ?_
      refine lv_topi (fun x_2 e_x_2 => ?_)
      have e_x_2 : x_2 = nI (p9 + 1) := by rw [e_x_2]; exact nI_add _ _
      subst e_x_2
      refine lv_aload_n hx hb dX0_remove_27 rfl (lv_at hl 1 rfl) ?_
      refine va_get (D := (dC, dI)) (ci := 0) (v := .ref a) (C := RX0) (T := TX0) (N := 2) hx hb hts hwX0 hown hK hP 0 rfl rfl 0 (by decide) (hts (.fieldLink RX0 9 "ArcCache$AddressList" "oldestFirst" "[I") (by decide +kernel)) (fun _ h9 => h9) rfl dX0_remove_28 ?_
      refine lv_iload_n hx hb dX0_remove_31 rfl (lv_at hl 0 rfl) ?_
      refine lv_aload_n hx hb dX0_remove_32 rfl (lv_at hl 1 rfl) ?_
      refine va_get (D := (dC, dI)) (ci := 0) (v := .int (nI (l0.length - 1))) (C := RX0) (T := TX0) (N := 2) hx hb hts hwX0 hown hK hP 0 rfl rfl 1 (by decide) (hts (.fieldLink RX0 15 "ArcCache$AddressList" "count" "I") (by decide +kernel)) (fun _ h9 => h9) rfl dX0_remove_33 ?_
      refine lv_iload_n hx hb dX0_remove_36 rfl (lv_at hl 0 rfl) ?_
      refine lv_isub hx hb dX0_remove_37 ?_
      refine lv_topi (fun x_3 e_x_3 => ?_)
      have e_x_3 : x_3 = nI ((l0.length - 1) - p9) := by rw [e_x_3]; exact pk_sub (by omega)
      subst e_x_3
      refine va_copyi hx hb (hml.trans hl.1.symm) hown (hts (.methodLink RX0 38 arraycopyName) (by decide +kernel)) (hts (.native arraycopyName) (by decide +kernel)) (hts (.static arraycopyName) (by decide +kernel)) (hts (.initialized "java/lang/System") (by decide +kernel)) hK hP hD hS 1 1 0 0 rfl rfl rfl rfl rfl (nI_pos (by omega)) (nI_pos (by omega)) (nI_pos (by omega)) (by rw [nI_clamp (by omega), nI_clamp (by omega)]; omega) (by rw [nI_clamp (by omega), nI_clamp (by omega)]; omega) (fun _ _ => rfl) (Nat.le_of_ble_eq_true rfl) (by decide) dX0_remove_38 (fun H locs hP hD hS => ?_)
      rw [nI_clamp (show p9 + 1 < 2 ^ 31 by omega), nI_clamp (show p9 < 2 ^ 31 by omega), nI_clamp (show l0.length - 1 - p9 < 2 ^ 31 by omega)] at hP hD
      replace hP : va_P (dC, dI) vwCl (cal q a cA (l0.length - 1) (va_cpy f f (p9 + 1) p9 (l0.length - 1 - p9))) H := hP
      replace hD : va_D A (cal q a cA (l0.length - 1) (va_cpy f f (p9 + 1) p9 (l0.length - 1 - p9))) := hD
      have hrm9 := al_rm_del (f' := va_cpy f f (p9 + 1) p9 (l0.length - 1 - p9)) hnd hf hp9 hf9 (fun j hj => pk_cpy_out (Or.inl hj)) (fun j h1 h2 => by rw [pk_cpy_in h1 (by omega)]; congr 1; omega)
      replace hrm9 := And.intro hrm9.1.symm hrm9.2
      exact W.vret hx hb hr (fun t ht hW => ⟨⟨(l0.length - 1, va_cpy f f (p9 + 1) p9 (l0.length - 1 - p9)), rfl, hrm9, by rw [ht]; exact hP, va_K.moved hW.alike hK, hD⟩, hS.F ht⟩) hS.2.2 dX0_remove_41
set_option maxHeartbeats 4000000 in
set_option maxRecDepth 100000 in
theorem c_A_dropOldest (l : Launch) (dC : Nat → ClassId) (dI : Nat → Nat → Nat) (q a : Nat) (cA : ClassId) (l0 : List Int32) (f : Nat → Int32) (sz : Nat) (hn : l0.length ≤ 64) (hf : ar_is f l0.reverse) (hnd : l0.Nodup) : Met l yX0_dropOldest wsX0_dropOldest ({ frames := 2, cells := 0, slots := 0, locals := 82 }) (va_Pc [.ref q] (fun U => U.heap.size = sz ∧ va_P (dC, dI) vwCl (cal q a cA l0.length f) U.heap ∧ va_K (dC, dI) vwCl (kal cA) U ∧ va_D (fun _ => True) (cal q a cA l0.length f))) (va_Qv (fun (u : Nat × (Nat → Int32)) => u.1 = (ap_rm (ap_old l0) l0).length ∧ ar_is u.2 (ap_rm (ap_old l0) l0).reverse) (at_A dC dI (va_A (cal q a cA l0.length f) sz) q a cA) (va_A (cal q a cA l0.length f) sz)) 0 0 (va_A (cal q a cA l0.length f) sz) := by
  refine Met.ofW (cc := cX0_dropOldest) (maxL := 1) (ret := none) (by decide) rfl ?_
  intro p e s m args below meth c s₁ B hml hv
  obtain ⟨rfl, hsz, hP, hK, hD0⟩ := hv
  have hx := B.exec
  have hb := B.bytes
  have hr := B.returns
  have hts := atoms_spec (ws := wsX0_dropOldest) B.pre
  have hown : s.vm.findClass RX0 = some m.cls := findClass_of_methodNamed B.named
  have hlocks := B.notSynchronized
  have hwX0 : ∀ w ∈ u_ws RX0 TX0 2, w ∈ wsX0_dropOldest := by decide +kernel
  subst hsz
  have hD := hD0.self (sz := s.heap.size)
  generalize hAe : va_A (cal q a cA l0.length f) s.heap.size = A at hD ⊢
  have hA : ∀ q : Nat, s.heap.size ≤ q → A q := fun q h => by rw [← hAe]; exact Or.inr h
  have hS0 : ∀ H, s.heap = H → va_S A s.heap H [] := fun H h => by subst h; exact va_S.rf
  have hl := lv_entry ([.ref q]) (n := 1) (Nat.le_of_ble_eq_true rfl)
  rw [lg_entry_eq]
  generalize (lg_sl ([.ref q]) ++ List.replicate (1 - (lg_sl ([.ref q])).length) Slot.unset).toArray = ls at hl ⊢
  have hl : lv_has ls 1 [(0, .ref q)] := hl
  generalize hHe : s.heap = H at hP ⊢
  have hS := hS0 H hHe
  refine lv_aload_n hx hb dX0_dropOldest_0 rfl (lv_at hl 0 rfl) ?_
  refine lv_aload_n hx hb dX0_dropOldest_1 rfl (lv_at hl 0 rfl) ?_
  have hPc := hP.sub (ws' := (cal q a cA l0.length f)) [0, 1] rfl
  have hDc := hD.sub (ws' := (cal q a cA l0.length f)) [0, 1] (by decide) rfl
  have hKc := hK.sub (tys' := (kal cA)) [0] rfl
  have hFc := va_free (wc := (cal q a cA l0.length f)) hD hS hA [0, 1] rfl
  refine va_calli (va_runV (As := []) (rest := [.ref q]) ⟨hx, hb, hml, hown, hts⟩ (c_A_oldest l dC dI q a cA l0 f H.size hn hf) (cwV 0 hts gX0_dropOldest_X0_oldest rfl rfl rfl (by decide +kernel) ⟨Nat.le_of_ble_eq_true rfl, Nat.le_of_ble_eq_true rfl⟩) ⟨fun a U g mk q => by obtain ⟨q0, q1, qP, qK, qD⟩ := q; exact ⟨q0, q1, qP, va_K.moved (u := U) (U := U.calling g mk a) (Vm.Alike.refl U.vm) qK, qD⟩, va_recv hKc hPc (ci := 0) (q0 := 0) rfl rfl, fun U hU hW => ⟨rfl, by rw [hU], by rw [hU]; exact hPc, va_K.moved hW.alike hKc, hDc.weaken (fun _ _ _ _ => trivial)⟩⟩ rfl rfl hl.1 rfl (lv_room (Nat.le_of_ble_eq_true rfl)) dX0_dropOldest_2 ⟨Nat.le_of_ble_eq_true rfl, Nat.le_of_ble_eq_true rfl⟩) hS (fun q _ h => hFc q h) hFc (fun r u t H1 locs ht hvm hw hB hz1 hk1 hS => ?_)
  obtain ⟨n1, f1⟩ := u
  obtain ⟨hP1, hK1, hD1⟩ := hB
  rw [ht] at hP1
  try dsimp only at hw hP1 hD1
  obtain ⟨hr9, hu⟩ := hw
  cases hu
  obtain ⟨hP, hD⟩ := va_join (wr := []) (w1 := (cal q a cA l0.length f)) hP hD [0, 1] [] rfl rfl (by decide) (by decide) hk1 hFc hP1 hD1
  generalize H1 = H at hP hS ⊢
  replace hP : va_P (dC, dI) vwCl (cal q a cA l0.length f) H := hP
  replace hD : va_D A (cal q a cA l0.length f) := hD
  subst hr9
  have hPc := hP.sub (ws' := (cal q a cA l0.length f)) [0, 1] rfl
  have hDc := hD.sub (ws' := (cal q a cA l0.length f)) [0, 1] (by decide) rfl
  have hKc := hK.sub (tys' := (kal cA)) [0] rfl
  have hFc := va_free (wc := (cal q a cA l0.length f)) hD hS hA [0, 1] rfl
  refine va_callv (va_runV (As := [.int (ap_old l0)]) (rest := []) ⟨hx, hb, hml, hown, hts⟩ (c_A_remove l dC dI q a cA l0 f (ap_old l0) H.size hn hf hnd) (cwV 1 hts gX0_dropOldest_X0_remove rfl rfl rfl (by decide +kernel) ⟨Nat.le_of_ble_eq_true rfl, Nat.le_of_ble_eq_true rfl⟩) ⟨fun a U g mk q => by obtain ⟨q0, q1, qP, qK, qD⟩ := q; exact ⟨q0, q1, qP, va_K.moved (u := U) (U := U.calling g mk a) (Vm.Alike.refl U.vm) qK, qD⟩, va_recv hKc hPc (ci := 0) (q0 := 0) rfl rfl, fun U hU hW => ⟨rfl, by rw [hU], by rw [hU]; exact hPc, va_K.moved hW.alike hKc, hDc.weaken (fun _ _ _ _ => trivial)⟩⟩ rfl rfl hl.1 rfl (lv_room (Nat.le_of_ble_eq_true rfl)) dX0_dropOldest_5 ⟨Nat.le_of_ble_eq_true rfl, Nat.le_of_ble_eq_true rfl⟩) hS (fun q _ h => hFc q h) hFc (fun u t H1 locs ht hvm hw hB hz1 hk1 hS => ?_)
  obtain ⟨n1, f1⟩ := u
  obtain ⟨hP1, hK1, hD1⟩ := hB
  rw [ht] at hP1
  try dsimp only at hw hP1 hD1
  have hw9 := hw
  obtain ⟨hP, hD⟩ := va_join (wr := []) (w1 := (cal q a cA n1 f1)) hP hD [0, 1] [] rfl rfl (by decide) (by decide) hk1 hFc hP1 hD1
  generalize H1 = H at hP hS ⊢
  replace hP : va_P (dC, dI) vwCl (cal q a cA n1 f1) H := hP
  replace hD : va_D A (cal q a cA n1 f1) := hD
  exact W.vret hx hb hr (fun t ht hW => ⟨⟨(n1, f1), rfl, hw9, by rw [ht]; exact hP, va_K.moved hW.alike hK, hD⟩, hS.F ht⟩) hS.2.2 dX0_dropOldest_8
end
section
-- THE CLASS, first part (laid by wip/gen/xx.py)
theorem fx_same {f : Nat → Nat → Int32} {L : Nat → List Int32} (h : fx_ok f L) {k : Nat} {g : Nat → Int32} (hg : ar_is g (L k).reverse) : fx_ok (va_up f k g) L := by
  intro j h1 h4
  by_cases e : j = k
  · subst e
    rw [va_up_self]
    exact hg
  · rw [va_up_ne _ _ e]
    exact h j h1 h4
theorem ap_nar0 : vp_nar .boolean (nI 0) = 0 := by decide
theorem ap_nar1 : vp_nar .boolean (nI 1) = 1 := by decide
theorem ap_upd_self {f : Nat → Int32} {k : Nat} {x : Int32} (h : f k = x) : upd f k x = f := by
  funext j
  by_cases e : j = k
  · subst e
    rw [pk_us, h]
  · rw [pk_un e]
theorem ap_cd_0 {d : Nat → Int32} {o : Int32} (h : d o.toNatClampNeg = 0) : ap_cd d o = d := ap_upd_self h
theorem ap_cs_0 {w d st : Nat → Int32} {o : Int32} (h : d o.toNatClampNeg = 0) : ap_cs w d st o = st := by
  unfold ap_cs
  rw [if_pos h]
  exact ap_upd_self rfl
theorem ap_cs_1 {w d st : Nat → Int32} {o : Int32} (h : ¬ d o.toNatClampNeg = 0) : ap_cs w d st o = upd st o.toNatClampNeg (w o.toNatClampNeg) := by
  unfold ap_cs
  rw [if_neg h]
def ap_tu (w : Nat → Int32) (tg : Nat) (hi mi : Int32) (S : ap_T) : ap_U := (S.1, w, S.2.1, S.2.2.1, tg, hi, mi, S.2.2.2)
theorem ap_wl4 {L : Nat → List Int32} (hI : ap_inv L) {x : Int32} : ap_wl L x = 4 ↔ x ∈ L 4 := by
  constructor
  · intro h
    have := ap_wl_mem (L := L) (a := x) (by omega)
    rw [h] at this
    exact this
  · exact ap_wl_of hI
theorem ap_mk_1 {w : Nat → Int32} {t : Nat} {a : Int32} {S : ap_T} (h : t < (S.1 1).length ∨ ((S.1 1).length = t ∧ 0 < t ∧ ap_wl S.1 a = 4)) : ap_mk w t a S = ap_og w 1 S := by
  unfold ap_mk ap_from
  rw [if_pos h]
theorem ap_mk_2 {w : Nat → Int32} {t : Nat} {a : Int32} {S : ap_T} (h : ¬ (t < (S.1 1).length ∨ ((S.1 1).length = t ∧ 0 < t ∧ ap_wl S.1 a = 4))) : ap_mk w t a S = ap_og w 2 S := by
  unfold ap_mk ap_from
  rw [if_neg h]
theorem ap_rm_nil {x : Int32} {l : List Int32} (h : l = []) : ap_rm x l = l := by
  subst h
  rfl
theorem al_add_no {l : List Int32} : al_add l (-1) = l := by
  unfold al_add
  rw [if_pos (Or.inl (by decide))]
theorem al_add_in {l : List Int32} {x : Int32} (h : vp_in x 64) : al_add l x = x :: l := by
  unfold al_add
  rw [if_neg (vp_in_64.mp h)]
theorem ap_old_in {L : Nat → List Int32} (hI : ap_inv L) {k : Nat} (h : L k ≠ []) : vp_in (ap_old (L k)) 64 := (hI.2.2 k _ (ap_old_mem h)).1
theorem ap_max0 {a b : Nat} (ha : a < 2 ^ 30) (hb : b < 2 ^ 30) : (if (nI 0) < nI a - nI b then nI a - nI b else nI 0) = nI (a - b) := by
  rcases Nat.lt_or_ge b a with h | h
  · rw [pk_sub (by omega), if_pos (nI_lt (by omega) (by omega))]
  · have e : a - b = 0 := by omega
    rw [e]
    by_cases e2 : a = b
    · subst e2
      rw [pk_sub (by omega), Nat.sub_self, if_neg (nI_nlt (by omega) (by decide))]
    · rw [if_neg]
      have h1 := pk_sneg (a := a) hb (by omega)
      intro h2
      have h3 : nI a - nI b < nI 0 := h1
      have e1 := Int32.lt_iff_toInt_lt.mp h2
      have e2 := Int32.lt_iff_toInt_lt.mp h3
      omega
theorem ap_maxN {a b : Nat} (ha : a < 2 ^ 31) (hb : b < 2 ^ 31) : (if nI a < nI b then nI b else nI a) = nI (max a b) := by
  by_cases h : a < b
  · rw [if_pos (nI_lt h hb), Nat.max_eq_right (by omega)]
  · rw [if_neg (nI_nlt (by omega) ha), Nat.max_eq_left (by omega)]
theorem ap_minN {a b : Nat} (ha : a < 2 ^ 31) (hb : b < 2 ^ 31) : (if nI b < nI a then nI b else nI a) = nI (min a b) := by
  by_cases h : b < a
  · rw [if_pos (nI_lt h ha), Nat.min_eq_right (by omega)]
  · rw [if_neg (nI_nlt (by omega) hb), Nat.min_eq_left (by omega)]
theorem ap_divle {a b : Nat} : a / b ≤ a := Nat.div_le_self a b
set_option maxHeartbeats 4000000 in
set_option maxRecDepth 100000 in
theorem c_X_isList (l : Launch) (dC : Nat → ClassId) (dI : Nat → Nat → Nat) (x : Int32) (sz : Nat)  : Met l yX1_isList wsX1_isList ({ frames := 0, cells := 0, slots := 0, locals := 0 }) (va_Pc [.int x] (fun U => U.heap.size = sz)) (va_Qi (fun (r : Int32) (_ : Unit) => r = (if x < nI 1 ∨ nI 4 < x then nI 0 else nI 1)) (fun _ _ => True) (va_A [] sz)) 0 0 (va_A [] sz) := by
  refine Met.ofW (cc := cX1_isList) (maxL := 1) (ret := (some .boolean)) (by decide) rfl ?_
  intro p e s m args below meth c s₁ B hml hv
  obtain ⟨rfl, hsz⟩ := hv
  have hx := B.exec
  have hb := B.bytes
  have hr := B.returns
  have hts := atoms_spec (ws := wsX1_isList) B.pre
  have hown : s.vm.findClass RX1 = some m.cls := findClass_of_methodNamed B.named
  have hlocks := B.notSynchronized
  subst hsz
  have hP : va_P (dC, dI) vwCl [] s.heap := fun k q h => by simp at h
  have hD : va_D (va_A [] s.heap.size) [] := ⟨fun i j p q h => by simp at h, fun k q h => by simp at h⟩
  generalize hAe : va_A [] s.heap.size = A at hD ⊢
  have hA : ∀ q : Nat, s.heap.size ≤ q → A q := fun q h => by rw [← hAe]; exact Or.inr h
  have hS0 : ∀ H, s.heap = H → va_S A s.heap H [] := fun H h => by subst h; exact va_S.rf
  have hl := lv_entry ([.int x]) (n := 1) (Nat.le_of_ble_eq_true rfl)
  rw [lg_entry_eq]
  generalize (lg_sl ([.int x]) ++ List.replicate (1 - (lg_sl ([.int x])).length) Slot.unset).toArray = ls at hl ⊢
  have hl : lv_has ls 1 [(0, .int x)] := hl
  generalize hHe : s.heap = H at hP ⊢
  have hS := hS0 H hHe
  refine lv_iload_n hx hb dX1_isList_0 rfl (lv_at hl 0 rfl) ?_
  refine lv_iconst (v := nI 1) hx hb dX1_isList_1 (by decide) ?_
  refine lv_icmp_lt (tgt := 14) hx hb dX1_isList_2 (by decide) (fun c_2 => ?_) (fun c_2 => ?_)
  · skip
    refine lv_iconst (v := nI 0) hx hb dX1_isList_14 (by decide) ?_
    exact W.zret (v := nI 0) (ty := .boolean) hx hb hr (by decide) (fun t ht hW => ⟨⟨nI 0, (), rfl, (if_pos (by first | exact Or.inl c_2 | exact Or.inr c_7)).symm, trivial⟩, hS.F ht⟩) hS.2.2 dX1_isList_15
  · skip
    refine lv_iload_n hx hb dX1_isList_5 rfl (lv_at hl 0 rfl) ?_
    refine lv_iconst (v := nI 4) hx hb dX1_isList_6 (by decide) ?_
    refine lv_icmp_gt (tgt := 14) hx hb dX1_isList_7 (by decide) (fun c_7 => ?_) (fun c_7 => ?_)
    · skip
      refine lv_iconst (v := nI 0) hx hb dX1_isList_14 (by decide) ?_
      exact W.zret (v := nI 0) (ty := .boolean) hx hb hr (by decide) (fun t ht hW => ⟨⟨nI 0, (), rfl, (if_pos (by first | exact Or.inl c_2 | exact Or.inr c_7)).symm, trivial⟩, hS.F ht⟩) hS.2.2 dX1_isList_15
    · skip
      refine lv_iconst (v := nI 1) hx hb dX1_isList_10 (by decide) ?_
      refine lv_goto (tgt := 15) hx hb dX1_isList_11 (by decide) ?_
      exact W.zret (v := nI 1) (ty := .boolean) hx hb hr (by decide) (fun t ht hW => ⟨⟨nI 1, (), rfl, (if_neg (fun h9 => h9.elim c_2 c_7)).symm, trivial⟩, hS.F ht⟩) hS.2.2 dX1_isList_15
set_option maxHeartbeats 4000000 in
set_option maxRecDepth 100000 in
theorem c_X_stepOf (l : Launch) (dC : Nat → ClassId) (dI : Nat → Nat → Nat) (a b : Nat) (sz : Nat) (ha : a ≤ 64) (hb9 : b ≤ 64) : Met l yX1_stepOf wsX1_stepOf ({ frames := 1, cells := 0, slots := 0, locals := 40 }) (va_Pc [.int (nI a), .int (nI b)] (fun U => U.heap.size = sz)) (va_Qi (fun (r : Int32) (_ : Unit) => r = nI (max 1 (a / b))) (fun _ _ => True) (va_A [] sz)) 0 0 (va_A [] sz) := by
  refine Met.ofW (cc := cX1_stepOf) (maxL := 2) (ret := (some .int)) (by decide) rfl ?_
  intro p e s m args below meth c s₁ B hml hv
  obtain ⟨rfl, hsz⟩ := hv
  have hx := B.exec
  have hb := B.bytes
  have hr := B.returns
  have hts := atoms_spec (ws := wsX1_stepOf) B.pre
  have hown : s.vm.findClass RX1 = some m.cls := findClass_of_methodNamed B.named
  have hlocks := B.notSynchronized
  subst hsz
  have hP : va_P (dC, dI) vwCl [] s.heap := fun k q h => by simp at h
  have hD : va_D (va_A [] s.heap.size) [] := ⟨fun i j p q h => by simp at h, fun k q h => by simp at h⟩
  generalize hAe : va_A [] s.heap.size = A at hD ⊢
  have hA : ∀ q : Nat, s.heap.size ≤ q → A q := fun q h => by rw [← hAe]; exact Or.inr h
  have hS0 : ∀ H, s.heap = H → va_S A s.heap H [] := fun H h => by subst h; exact va_S.rf
  have hl := lv_entry ([.int (nI a), .int (nI b)]) (n := 2) (Nat.le_of_ble_eq_true rfl)
  rw [lg_entry_eq]
  generalize (lg_sl ([.int (nI a), .int (nI b)]) ++ List.replicate (2 - (lg_sl ([.int (nI a), .int (nI b)])).length) Slot.unset).toArray = ls at hl ⊢
  have hl : lv_has ls 2 [(0, .int (nI a)), (1, .int (nI b))] := hl
  generalize hHe : s.heap = H at hP ⊢
  have hS := hS0 H hHe
  refine lv_iload_n hx hb dX1_stepOf_0 rfl (lv_at hl 1 rfl) ?_
  refine lv_if_ne (tgt := 8) hx hb dX1_stepOf_1 (by decide) (fun c_1 => ?_) (fun c_1 => ?_)
  · skip
    replace c_1 : ¬ (b = 0) := fun h9 => c_1 ((nI_eq (a := b) (b := 0) (by omega) (by omega)).mpr h9)
    refine lv_iconst (v := nI 1) hx hb dX1_stepOf_8 (by decide) ?_
    refine lv_iload_n hx hb dX1_stepOf_9 rfl (lv_at hl 0 rfl) ?_
    refine lv_iload_n hx hb dX1_stepOf_10 rfl (lv_at hl 1 rfl) ?_
    refine lv_idiv hx hb dX1_stepOf_11 (nI_ne0 (by omega) (by omega)) ?_
    refine lv_topi (fun x_1 e_x_1 => ?_)
    have e_x_1 : x_1 = nI (a / b) := by rw [e_x_1]; exact pk_div (by omega) (by omega) (by omega)
    subst e_x_1
    have hdv9 := @ap_divle a b
    refine va_mmax hx hb (hml.trans hl.1.symm) hown (hts (.methodLink RX1 127 Lib.Math.max.name) (by decide +kernel)) (hts (.static Lib.Math.max.name) (by decide +kernel)) (hts (.initialized "java/lang/Math") (by decide +kernel)) (hts (.code Lib.Math.max.name Lib.Math.max.code 2 (some .int)) (by decide +kernel)) (Nat.le_of_ble_eq_true rfl) (Nat.le_of_ble_eq_true rfl) (Nat.zero_le _) (Nat.zero_le _) dX1_stepOf_12 ?_
    refine lv_topi (fun x_2 e_x_2 => ?_)
    have e_x_2 : x_2 = nI (max 1 (a / b)) := by rw [e_x_2]; exact ap_maxN (by omega) (by omega)
    subst e_x_2
    exact W.iret (v := nI (max 1 (a / b))) hx hb hr (fun t ht hW => ⟨⟨nI (max 1 (a / b)), (), rfl, rfl, trivial⟩, hS.F ht⟩) hS.2.2 dX1_stepOf_15
  · skip
    replace c_1 : b = 0 := (nI_eq (a := b) (b := 0) (by omega) (by omega)).mp c_1
    refine lv_iconst (v := nI 1) hx hb dX1_stepOf_4 (by decide) ?_
    refine lv_goto (tgt := 15) hx hb dX1_stepOf_5 (by decide) ?_
    exact W.iret (v := nI 1) hx hb hr (fun t ht hW => ⟨⟨nI 1, (), rfl, by rw [c_1, Nat.div_zero]; rfl, trivial⟩, hS.F ht⟩) hS.2.2 dX1_stepOf_15
set_option maxHeartbeats 4000000 in
set_option maxRecDepth 100000 in
theorem c_X_listNumbered (l : Launch) (dC : Nat → ClassId) (dI : Nat → Nat → Nat) (q : Nat → Nat) (ca : Nat → ClassId) (C : Nat) (L : Nat → List Int32) (f : Nat → Nat → Int32) (w d st : Nat → Int32) (tg : Nat) (hi mi go : Int32) (k : Nat) (sz : Nat) (hk1 : 1 ≤ k) (hk4 : k ≤ 4) (hf : fx_ok f L) : Met l yX1_listNumbered wsX1_listNumbered ({ frames := 0, cells := 0, slots := 0, locals := 0 }) (va_Pc [.ref (q 0), .int (nI k)] (fun U => U.heap.size = sz ∧ va_P (dC, dI) vwCl (cx q ca C L f w d st tg hi mi go) U.heap ∧ va_K (dC, dI) vwCl (kx ca) U ∧ va_D (fun _ => True) (cx q ca C L f w d st tg hi mi go))) (va_Qr (fun (_ : Unit) => True) (fun (_ : Unit) (a9 : Nat) (t9 : State) => a9 = q k ∧ at_X dC dI (va_A (cx q ca C L f w d st tg hi mi go) sz) q ca C (L, w, d, st, tg, hi, mi, go) t9) (va_A (cx q ca C L f w d st tg hi mi go) sz)) 0 0 (va_A (cx q ca C L f w d st tg hi mi go) sz) := by
  refine Met.ofW (cc := cX1_listNumbered) (maxL := 2) (ret := (some (.object "ArcCache$AddressList"))) (by decide) rfl ?_
  intro p e s m args below meth c s₁ B hml hv
  obtain ⟨rfl, hsz, hP, hK, hD0⟩ := hv
  have hx := B.exec
  have hb := B.bytes
  have hr := B.returns
  have hts := atoms_spec (ws := wsX1_listNumbered) B.pre
  have hown : s.vm.findClass RX1 = some m.cls := findClass_of_methodNamed B.named
  have hlocks := B.notSynchronized
  have hwX1 : ∀ w ∈ u_ws RX1 TX1 12, w ∈ wsX1_listNumbered := by decide +kernel
  subst hsz
  have hD := hD0.self (sz := s.heap.size)
  generalize hAe : va_A (cx q ca C L f w d st tg hi mi go) s.heap.size = A at hD ⊢
  have hA : ∀ q : Nat, s.heap.size ≤ q → A q := fun q h => by rw [← hAe]; exact Or.inr h
  have hS0 : ∀ H, s.heap = H → va_S A s.heap H [] := fun H h => by subst h; exact va_S.rf
  have hl := lv_entry ([.ref (q 0), .int (nI k)]) (n := 2) (Nat.le_of_ble_eq_true rfl)
  rw [lg_entry_eq]
  generalize (lg_sl ([.ref (q 0), .int (nI k)]) ++ List.replicate (2 - (lg_sl ([.ref (q 0), .int (nI k)])).length) Slot.unset).toArray = ls at hl ⊢
  have hl : lv_has ls 2 [(0, .ref (q 0)), (1, .int (nI k))] := hl
  generalize hHe : s.heap = H at hP ⊢
  have hS := hS0 H hHe
  refine lv_iload_n hx hb dX1_listNumbered_0 rfl (lv_at hl 1 rfl) ?_
  have hk9 : k = 1 ∨ k = 2 ∨ k = 3 ∨ k = 4 := by omega
  rcases hk9 with rfl | rfl | rfl | rfl
  · skip
    refine lv_tableIn (tgt := 28) (off := 27) hx hb dX1_listNumbered_1 (by decide) (by decide) (by decide) (by decide) ?_
    refine lv_aload_n hx hb dX1_listNumbered_28 rfl (lv_at hl 0 rfl) ?_
    refine va_get (D := (dC, dI)) (ci := 1) (v := .ref (q 1)) (C := RX1) (T := TX1) (N := 12) hx hb hts hwX1 hown hK hP 0 rfl rfl 1 (by decide) (hts (.fieldLink RX1 10 "ArcCache" "cameOnce" "LArcCache$AddressList;") (by decide +kernel)) (fun _ h9 => h9) rfl dX1_listNumbered_29 ?_
    exact W.aret (v := .ref (q 1)) hx hb hr (Or.inl ⟨_, rfl⟩) (Or.inr ⟨_, rfl⟩) (fun t ht hW => ⟨⟨(), q 1, rfl, trivial, rfl, f, hf, by rw [ht]; exact hP, va_K.moved hW.alike hK, hD⟩, hS.F ht⟩) hS.2.2 dX1_listNumbered_32
  · skip
    refine lv_tableIn (tgt := 33) (off := 32) hx hb dX1_listNumbered_1 (by decide) (by decide) (by decide) (by decide) ?_
    refine lv_aload_n hx hb dX1_listNumbered_33 rfl (lv_at hl 0 rfl) ?_
    refine va_get (D := (dC, dI)) (ci := 1) (v := .ref (q 2)) (C := RX1) (T := TX1) (N := 12) hx hb hts hwX1 hown hK hP 0 rfl rfl 2 (by decide) (hts (.fieldLink RX1 16 "ArcCache" "cameAgain" "LArcCache$AddressList;") (by decide +kernel)) (fun _ h9 => h9) rfl dX1_listNumbered_34 ?_
    exact W.aret (v := .ref (q 2)) hx hb hr (Or.inl ⟨_, rfl⟩) (Or.inr ⟨_, rfl⟩) (fun t ht hW => ⟨⟨(), q 2, rfl, trivial, rfl, f, hf, by rw [ht]; exact hP, va_K.moved hW.alike hK, hD⟩, hS.F ht⟩) hS.2.2 dX1_listNumbered_37
  · skip
    refine lv_tableIn (tgt := 38) (off := 37) hx hb dX1_listNumbered_1 (by decide) (by decide) (by decide) (by decide) ?_
    refine lv_aload_n hx hb dX1_listNumbered_38 rfl (lv_at hl 0 rfl) ?_
    refine va_get (D := (dC, dI)) (ci := 1) (v := .ref (q 3)) (C := RX1) (T := TX1) (N := 12) hx hb hts hwX1 hown hK hP 0 rfl rfl 3 (by decide) (hts (.fieldLink RX1 19 "ArcCache" "wentOnce" "LArcCache$AddressList;") (by decide +kernel)) (fun _ h9 => h9) rfl dX1_listNumbered_39 ?_
    exact W.aret (v := .ref (q 3)) hx hb hr (Or.inl ⟨_, rfl⟩) (Or.inr ⟨_, rfl⟩) (fun t ht hW => ⟨⟨(), q 3, rfl, trivial, rfl, f, hf, by rw [ht]; exact hP, va_K.moved hW.alike hK, hD⟩, hS.F ht⟩) hS.2.2 dX1_listNumbered_42
  · skip
    refine lv_tableOut (tgt := 43) hx hb dX1_listNumbered_1 (Or.inr (by decide)) (by decide) ?_
    refine lv_aload_n hx hb dX1_listNumbered_43 rfl (lv_at hl 0 rfl) ?_
    refine va_get (D := (dC, dI)) (ci := 1) (v := .ref (q 4)) (C := RX1) (T := TX1) (N := 12) hx hb hts hwX1 hown hK hP 0 rfl rfl 4 (by decide) (hts (.fieldLink RX1 22 "ArcCache" "wentAgain" "LArcCache$AddressList;") (by decide +kernel)) (fun _ h9 => h9) rfl dX1_listNumbered_44 ?_
    exact W.aret (v := .ref (q 4)) hx hb hr (Or.inl ⟨_, rfl⟩) (Or.inr ⟨_, rfl⟩) (fun t ht hW => ⟨⟨(), q 4, rfl, trivial, rfl, f, hf, by rw [ht]; exact hP, va_K.moved hW.alike hK, hD⟩, hS.F ht⟩) hS.2.2 dX1_listNumbered_47
set_option maxHeartbeats 4000000 in
set_option maxRecDepth 100000 in
theorem c_X_whichList (l : Launch) (dC : Nat → ClassId) (dI : Nat → Nat → Nat) (q : Nat → Nat) (ca : Nat → ClassId) (C : Nat) (L : Nat → List Int32) (f : Nat → Nat → Int32) (w d st : Nat → Int32) (tg : Nat) (hi mi go : Int32) (x : Int32) (sz : Nat) (hf : fx_ok f L) (hI : ap_inv L) (hz : ap_tot L ≤ 48) : Met l yX1_whichList wsX1_whichList ({ frames := 2, cells := 0, slots := 0, locals := 43 }) (va_Pc [.ref (q 0), .int x] (fun U => U.heap.size = sz ∧ va_P (dC, dI) vwCl (cx q ca C L f w d st tg hi mi go) U.heap ∧ va_K (dC, dI) vwCl (kx ca) U ∧ va_D (fun _ => True) (cx q ca C L f w d st tg hi mi go))) (va_Qi (fun (r : Int32) (u : ap_U) => r = nI (ap_wl L x) ∧ u = (L, w, d, st, tg, hi, mi, go)) (at_X dC dI (va_A (cx q ca C L f w d st tg hi mi go) sz) q ca C) (va_A (cx q ca C L f w d st tg hi mi go) sz)) 0 0 (va_A (cx q ca C L f w d st tg hi mi go) sz) := by
  refine Met.ofW (cc := cX1_whichList) (maxL := 3) (ret := (some .int)) (by decide) rfl ?_
  intro p e s m args below meth c s₁ B hml hv
  obtain ⟨rfl, hsz, hP, hK, hD0⟩ := hv
  have hx := B.exec
  have hb := B.bytes
  have hr := B.returns
  have hts := atoms_spec (ws := wsX1_whichList) B.pre
  have hown : s.vm.findClass RX1 = some m.cls := findClass_of_methodNamed B.named
  have hlocks := B.notSynchronized
  have hwX1 : ∀ w ∈ u_ws RX1 TX1 12, w ∈ wsX1_whichList := by decide +kernel
  subst hsz
  have hD := hD0.self (sz := s.heap.size)
  generalize hAe : va_A (cx q ca C L f w d st tg hi mi go) s.heap.size = A at hD ⊢
  have hA : ∀ q : Nat, s.heap.size ≤ q → A q := fun q h => by rw [← hAe]; exact Or.inr h
  have hS0 : ∀ H, s.heap = H → va_S A s.heap H [] := fun H h => by subst h; exact va_S.rf
  have hl := lv_entry ([.ref (q 0), .int x]) (n := 3) (Nat.le_of_ble_eq_true rfl)
  rw [lg_entry_eq]
  generalize (lg_sl ([.ref (q 0), .int x]) ++ List.replicate (3 - (lg_sl ([.ref (q 0), .int x])).length) Slot.unset).toArray = ls at hl ⊢
  have hl : lv_has ls 3 [(0, .ref (q 0)), (1, .int x)] := hl
  generalize hHe : s.heap = H at hP ⊢
  have hS := hS0 H hHe
  have z1 : (L 1).length ≤ 48 := by unfold ap_tot at hz; omega
  have z2 : (L 2).length ≤ 48 := by unfold ap_tot at hz; omega
  have z3 : (L 3).length ≤ 48 := by unfold ap_tot at hz; omega
  have z4 : (L 4).length ≤ 48 := by unfold ap_tot at hz; omega
  refine lv_iconst (v := nI 1) hx hb dX1_whichList_0 (by decide) ?_
  refine lv_istore_n (lv' := [(2, .int (nI 1)), (0, .ref (q 0)), (1, .int x)]) hx hb dX1_whichList_1 rfl hl (by decide) rfl (fun ls hl => ?_)
  refine lv_iload_n hx hb dX1_whichList_2 rfl (lv_at hl 0 rfl) ?_
  refine lv_iconst (v := nI 4) hx hb dX1_whichList_3 (by decide) ?_
  refine lv_icmp_gt (tgt := 27) hx hb dX1_whichList_4 (by decide) (fun c_4 => ?_) (fun c_4 => ?_)
  · skip
    replace c_4 : 4 < 1 := (nI_ltI (a := 4) (b := 1) (by omega) (by omega)).mp c_4
    exact absurd c_4 (by omega)
  · skip
    replace c_4 : ¬ (4 < 1) := fun h9 => c_4 ((nI_ltI (a := 4) (b := 1) (by omega) (by omega)).mpr h9)
    refine lv_aload_n hx hb dX1_whichList_7 rfl (lv_at hl 1 rfl) ?_
    refine lv_iload_n hx hb dX1_whichList_8 rfl (lv_at hl 0 rfl) ?_
    have hPc := hP.sub (ws' := (cx q ca C L f w d st tg hi mi go)) [0, 1, 2, 3, 4, 5, 6, 7, 8, 9, 10, 11] rfl
    have hDc := hD.sub (ws' := (cx q ca C L f w d st tg hi mi go)) [0, 1, 2, 3, 4, 5, 6, 7, 8, 9, 10, 11] (by decide) rfl
    have hKc := hK.sub (tys' := (kx ca)) [0, 1, 2, 3, 4, 5, 6] rfl
    have hFc := va_free (wc := (cx q ca C L f w d st tg hi mi go)) hD hS hA [0, 1, 2, 3, 4, 5, 6, 7, 8, 9, 10, 11] rfl
    refine va_callr (va_runV (As := [.int (nI 1)]) (rest := []) ⟨hx, hb, hml, hown, hts⟩ (c_X_listNumbered l dC dI q ca C L f w d st tg hi mi go 1 H.size (by decide) (by decide) hf) (cwV 1 hts gX1_whichList_X1_listNumbered rfl rfl rfl (by decide +kernel) ⟨Nat.le_of_ble_eq_true rfl, Nat.le_of_ble_eq_true rfl⟩) ⟨fun a U g mk q => by obtain ⟨q0, q1, qP, qK, qD⟩ := q; exact ⟨q0, q1, qP, va_K.moved (u := U) (U := U.calling g mk a) (Vm.Alike.refl U.vm) qK, qD⟩, va_recv hKc hPc (ci := 1) (q0 := 0) rfl rfl, fun U hU hW => ⟨rfl, by rw [hU], by rw [hU]; exact hPc, va_K.moved hW.alike hKc, hDc.weaken (fun _ _ _ _ => trivial)⟩⟩ rfl rfl hl.1 rfl (lv_room (Nat.le_of_ble_eq_true rfl)) dX1_whichList_9 ⟨Nat.le_of_ble_eq_true rfl, Nat.le_of_ble_eq_true rfl⟩) hS (fun q _ h => hFc q h) hFc (fun u ra t H1 locs ht hvm hw hB hz1 hk1 hS => ?_)
    obtain ⟨era, f1, hf1, hP1, hK1, hD1⟩ := hB
    rw [ht] at hP1
    subst era
    obtain ⟨f_1, ef_1⟩ : ∃ z, z = f1 := ⟨_, rfl⟩
    rw [← ef_1] at hf1 hP1 hD1
    clear ef_1 f1
    have hfx_2 := hf1
    obtain ⟨hP, hD⟩ := va_join (wr := []) (w1 := (cx q ca C L f_1 w d st tg hi mi go)) hP hD [0, 1, 2, 3, 4, 5, 6, 7, 8, 9, 10, 11] [] rfl rfl (by decide) (by decide) hk1 hFc hP1 hD1
    generalize H1 = H at hP hS ⊢
    replace hP : va_P (dC, dI) vwCl (cx q ca C L f_1 w d st tg hi mi go) H := hP
    replace hD : va_D A (cx q ca C L f_1 w d st tg hi mi go) := hD
    refine lv_iload_n hx hb dX1_whichList_12 rfl (lv_at hl 2 rfl) ?_
    have hPc := hP.sub (ws' := (cal (q 1) (q 5) (ca 1) ((L 1).length) (f_1 1))) [1, 2] rfl
    have hDc := hD.sub (ws' := (cal (q 1) (q 5) (ca 1) ((L 1).length) (f_1 1))) [1, 2] (by decide) rfl
    have hKc := hK.sub (tys' := (kal (ca 1))) [0] rfl
    have hFc := va_free (wc := (cal (q 1) (q 5) (ca 1) ((L 1).length) (f_1 1))) hD hS hA [1, 2] rfl
    refine va_calli (va_runV (As := [.int x]) (rest := []) ⟨hx, hb, hml, hown, hts⟩ (c_A_has l dC dI (q 1) (q 5) (ca 1) (L 1) (f_1 1) x H.size (Nat.le_trans z1 (by decide)) (hfx_2 1 (by decide) (by decide))) (cwV 1 hts gX1_whichList_X0_has rfl rfl rfl (by decide +kernel) ⟨Nat.le_of_ble_eq_true rfl, Nat.le_of_ble_eq_true rfl⟩) ⟨fun a U g mk q => by obtain ⟨q0, q1, qP, qK, qD⟩ := q; exact ⟨q0, q1, qP, va_K.moved (u := U) (U := U.calling g mk a) (Vm.Alike.refl U.vm) qK, qD⟩, va_recv hKc hPc (ci := 0) (q0 := 0) rfl rfl, fun U hU hW => ⟨rfl, by rw [hU], by rw [hU]; exact hPc, va_K.moved hW.alike hKc, hDc.weaken (fun _ _ _ _ => trivial)⟩⟩ rfl rfl hl.1 rfl (lv_room (Nat.le_of_ble_eq_true rfl)) dX1_whichList_13 ⟨Nat.le_of_ble_eq_true rfl, Nat.le_of_ble_eq_true rfl⟩) hS (fun q _ h => hFc q h) hFc (fun r u t H1 locs ht hvm hw hB hz1 hk1 hS => ?_)
    obtain ⟨n1, f1⟩ := u
    obtain ⟨hP1, hK1, hD1⟩ := hB
    rw [ht] at hP1
    try dsimp only at hw hP1 hD1
    obtain ⟨hr9, hu⟩ := hw
    cases hu
    obtain ⟨hP, hD⟩ := va_join (wr := [(q 0, .inr (1, [.int (nI C), .ref (q 1), .ref (q 2), .ref (q 3), .ref (q 4), .ref (q 9), .ref (q 10), .ref (q 11), .int (nI tg), .int hi, .int mi, .int go])), (q 2, .inr (0, [.ref (q 6), .int (nI ((L 2).length))])), (q 6, .inl (ca 2, 64, .inl (f_1 2))), (q 3, .inr (0, [.ref (q 7), .int (nI ((L 3).length))])), (q 7, .inl (ca 3, 64, .inl (f_1 3))), (q 4, .inr (0, [.ref (q 8), .int (nI ((L 4).length))])), (q 8, .inl (ca 4, 64, .inl (f_1 4))), (q 9, .inl (ca 5, 64, .inl w)), (q 10, .inl (ca 6, 64, .inl d)), (q 11, .inl (ca 7, 64, .inl st))]) (w1 := (cal (q 1) (q 5) (ca 1) ((L 1).length) (f_1 1))) hP hD [1, 2] [0, 3, 4, 5, 6, 7, 8, 9, 10, 11] rfl rfl (by decide) (by decide) hk1 hFc hP1 hD1
    generalize H1 = H at hP hS ⊢
    replace hP := hP.sub (ws' := (cx q ca C L f_1 w d st tg hi mi go)) [0, 10, 11, 1, 2, 3, 4, 5, 6, 7, 8, 9] rfl
    replace hD := hD.sub (ws' := (cx q ca C L f_1 w d st tg hi mi go)) [0, 10, 11, 1, 2, 3, 4, 5, 6, 7, 8, 9] (by decide) rfl
    by_cases hm_1 : x ∈ L 1
    · rw [if_pos hm_1] at hr9
      subst hr9
      refine lv_if_eq (tgt := 21) hx hb dX1_whichList_16 (by decide) (fun c_16 => ?_) (fun c_16 => ?_)
      · skip
        replace c_16 : 1 = 0 := (nI_eq (a := 1) (b := 0) (by omega) (by omega)).mp c_16
        exact absurd c_16 (by omega)
      · skip
        replace c_16 : ¬ (1 = 0) := fun h9 => c_16 ((nI_eq (a := 1) (b := 0) (by omega) (by omega)).mpr h9)
        refine lv_iload_n hx hb dX1_whichList_19 rfl (lv_at hl 0 rfl) ?_
        exact W.iret (v := nI 1) hx hb hr (fun t ht hW => ⟨⟨nI 1, (L, w, d, st, tg, hi, mi, go), rfl, ⟨by unfold ap_wl; rw [if_pos hm_1], rfl⟩, f_1, hfx_2, by rw [ht]; exact hP, va_K.moved hW.alike hK, hD⟩, hS.F ht⟩) hS.2.2 dX1_whichList_20
    · rw [if_neg hm_1] at hr9
      subst hr9
      refine lv_if_eq (tgt := 21) hx hb dX1_whichList_16 (by decide) (fun c_16 => ?_) (fun c_16 => ?_)
      · skip
        replace c_16 : 0 = 0 := (nI_eq (a := 0) (b := 0) (by omega) (by omega)).mp c_16
        refine lv_iinc (v := nI 2) (lv' := [(2, .int (nI 2)), (0, .ref (q 0)), (1, .int x)]) hx hb dX1_whichList_21 hl (k := 0) rfl (by decide) (by decide) rfl (fun ls hl => ?_)
        refine lv_goto (tgt := 2) hx hb dX1_whichList_24 (by decide) ?_
        refine lv_iload_n hx hb dX1_whichList_2 rfl (lv_at hl 0 rfl) ?_
        refine lv_iconst (v := nI 4) hx hb dX1_whichList_3 (by decide) ?_
        refine lv_icmp_gt (tgt := 27) hx hb dX1_whichList_4 (by decide) (fun c_4_1 => ?_) (fun c_4_1 => ?_)
        · skip
          replace c_4_1 : 4 < 2 := (nI_ltI (a := 4) (b := 2) (by omega) (by omega)).mp c_4_1
          exact absurd c_4_1 (by omega)
        · skip
          replace c_4_1 : ¬ (4 < 2) := fun h9 => c_4_1 ((nI_ltI (a := 4) (b := 2) (by omega) (by omega)).mpr h9)
          refine lv_aload_n hx hb dX1_whichList_7 rfl (lv_at hl 1 rfl) ?_
          refine lv_iload_n hx hb dX1_whichList_8 rfl (lv_at hl 0 rfl) ?_
          have hPc := hP.sub (ws' := (cx q ca C L f_1 w d st tg hi mi go)) [0, 1, 2, 3, 4, 5, 6, 7, 8, 9, 10, 11] rfl
          have hDc := hD.sub (ws' := (cx q ca C L f_1 w d st tg hi mi go)) [0, 1, 2, 3, 4, 5, 6, 7, 8, 9, 10, 11] (by decide) rfl
          have hKc := hK.sub (tys' := (kx ca)) [0, 1, 2, 3, 4, 5, 6] rfl
          have hFc := va_free (wc := (cx q ca C L f_1 w d st tg hi mi go)) hD hS hA [0, 1, 2, 3, 4, 5, 6, 7, 8, 9, 10, 11] rfl
          refine va_callr (va_runV (As := [.int (nI 2)]) (rest := []) ⟨hx, hb, hml, hown, hts⟩ (c_X_listNumbered l dC dI q ca C L f_1 w d st tg hi mi go 2 H.size (by decide) (by decide) hfx_2) (cwV 1 hts gX1_whichList_X1_listNumbered rfl rfl rfl (by decide +kernel) ⟨Nat.le_of_ble_eq_true rfl, Nat.le_of_ble_eq_true rfl⟩) ⟨fun a U g mk q => by obtain ⟨q0, q1, qP, qK, qD⟩ := q; exact ⟨q0, q1, qP, va_K.moved (u := U) (U := U.calling g mk a) (Vm.Alike.refl U.vm) qK, qD⟩, va_recv hKc hPc (ci := 1) (q0 := 0) rfl rfl, fun U hU hW => ⟨rfl, by rw [hU], by rw [hU]; exact hPc, va_K.moved hW.alike hKc, hDc.weaken (fun _ _ _ _ => trivial)⟩⟩ rfl rfl hl.1 rfl (lv_room (Nat.le_of_ble_eq_true rfl)) dX1_whichList_9 ⟨Nat.le_of_ble_eq_true rfl, Nat.le_of_ble_eq_true rfl⟩) hS (fun q _ h => hFc q h) hFc (fun u ra t H1 locs ht hvm hw hB hz1 hk1 hS => ?_)
          obtain ⟨era, f1, hf1, hP1, hK1, hD1⟩ := hB
          rw [ht] at hP1
          subst era
          obtain ⟨f_3, ef_3⟩ : ∃ z, z = f1 := ⟨_, rfl⟩
          rw [← ef_3] at hf1 hP1 hD1
          clear ef_3 f1
          have hfx_4 := hf1
          obtain ⟨hP, hD⟩ := va_join (wr := []) (w1 := (cx q ca C L f_3 w d st tg hi mi go)) hP hD [0, 1, 2, 3, 4, 5, 6, 7, 8, 9, 10, 11] [] rfl rfl (by decide) (by decide) hk1 hFc hP1 hD1
          generalize H1 = H at hP hS ⊢
          replace hP : va_P (dC, dI) vwCl (cx q ca C L f_3 w d st tg hi mi go) H := hP
          replace hD : va_D A (cx q ca C L f_3 w d st tg hi mi go) := hD
          refine lv_iload_n hx hb dX1_whichList_12 rfl (lv_at hl 2 rfl) ?_
          have hPc := hP.sub (ws' := (cal (q 2) (q 6) (ca 2) ((L 2).length) (f_3 2))) [3, 4] rfl
          have hDc := hD.sub (ws' := (cal (q 2) (q 6) (ca 2) ((L 2).length) (f_3 2))) [3, 4] (by decide) rfl
          have hKc := hK.sub (tys' := (kal (ca 2))) [1] rfl
          have hFc := va_free (wc := (cal (q 2) (q 6) (ca 2) ((L 2).length) (f_3 2))) hD hS hA [3, 4] rfl
          refine va_calli (va_runV (As := [.int x]) (rest := []) ⟨hx, hb, hml, hown, hts⟩ (c_A_has l dC dI (q 2) (q 6) (ca 2) (L 2) (f_3 2) x H.size (Nat.le_trans z2 (by decide)) (hfx_4 2 (by decide) (by decide))) (cwV 1 hts gX1_whichList_X0_has rfl rfl rfl (by decide +kernel) ⟨Nat.le_of_ble_eq_true rfl, Nat.le_of_ble_eq_true rfl⟩) ⟨fun a U g mk q => by obtain ⟨q0, q1, qP, qK, qD⟩ := q; exact ⟨q0, q1, qP, va_K.moved (u := U) (U := U.calling g mk a) (Vm.Alike.refl U.vm) qK, qD⟩, va_recv hKc hPc (ci := 0) (q0 := 0) rfl rfl, fun U hU hW => ⟨rfl, by rw [hU], by rw [hU]; exact hPc, va_K.moved hW.alike hKc, hDc.weaken (fun _ _ _ _ => trivial)⟩⟩ rfl rfl hl.1 rfl (lv_room (Nat.le_of_ble_eq_true rfl)) dX1_whichList_13 ⟨Nat.le_of_ble_eq_true rfl, Nat.le_of_ble_eq_true rfl⟩) hS (fun q _ h => hFc q h) hFc (fun r u t H1 locs ht hvm hw hB hz1 hk1 hS => ?_)
          obtain ⟨n1, f1⟩ := u
          obtain ⟨hP1, hK1, hD1⟩ := hB
          rw [ht] at hP1
          try dsimp only at hw hP1 hD1
          obtain ⟨hr9, hu⟩ := hw
          cases hu
          obtain ⟨hP, hD⟩ := va_join (wr := [(q 0, .inr (1, [.int (nI C), .ref (q 1), .ref (q 2), .ref (q 3), .ref (q 4), .ref (q 9), .ref (q 10), .ref (q 11), .int (nI tg), .int hi, .int mi, .int go])), (q 1, .inr (0, [.ref (q 5), .int (nI ((L 1).length))])), (q 5, .inl (ca 1, 64, .inl (f_3 1))), (q 3, .inr (0, [.ref (q 7), .int (nI ((L 3).length))])), (q 7, .inl (ca 3, 64, .inl (f_3 3))), (q 4, .inr (0, [.ref (q 8), .int (nI ((L 4).length))])), (q 8, .inl (ca 4, 64, .inl (f_3 4))), (q 9, .inl (ca 5, 64, .inl w)), (q 10, .inl (ca 6, 64, .inl d)), (q 11, .inl (ca 7, 64, .inl st))]) (w1 := (cal (q 2) (q 6) (ca 2) ((L 2).length) (f_3 2))) hP hD [3, 4] [0, 1, 2, 5, 6, 7, 8, 9, 10, 11] rfl rfl (by decide) (by decide) hk1 hFc hP1 hD1
          generalize H1 = H at hP hS ⊢
          replace hP := hP.sub (ws' := (cx q ca C L f_3 w d st tg hi mi go)) [0, 1, 2, 10, 11, 3, 4, 5, 6, 7, 8, 9] rfl
          replace hD := hD.sub (ws' := (cx q ca C L f_3 w d st tg hi mi go)) [0, 1, 2, 10, 11, 3, 4, 5, 6, 7, 8, 9] (by decide) rfl
          by_cases hm_2 : x ∈ L 2
          · rw [if_pos hm_2] at hr9
            subst hr9
            refine lv_if_eq (tgt := 21) hx hb dX1_whichList_16 (by decide) (fun c_16_1 => ?_) (fun c_16_1 => ?_)
            · skip
              replace c_16_1 : 1 = 0 := (nI_eq (a := 1) (b := 0) (by omega) (by omega)).mp c_16_1
              exact absurd c_16_1 (by omega)
            · skip
              replace c_16_1 : ¬ (1 = 0) := fun h9 => c_16_1 ((nI_eq (a := 1) (b := 0) (by omega) (by omega)).mpr h9)
              refine lv_iload_n hx hb dX1_whichList_19 rfl (lv_at hl 0 rfl) ?_
              exact W.iret (v := nI 2) hx hb hr (fun t ht hW => ⟨⟨nI 2, (L, w, d, st, tg, hi, mi, go), rfl, ⟨by unfold ap_wl; rw [if_neg hm_1, if_pos hm_2], rfl⟩, f_3, hfx_4, by rw [ht]; exact hP, va_K.moved hW.alike hK, hD⟩, hS.F ht⟩) hS.2.2 dX1_whichList_20
          · rw [if_neg hm_2] at hr9
            subst hr9
            refine lv_if_eq (tgt := 21) hx hb dX1_whichList_16 (by decide) (fun c_16_1 => ?_) (fun c_16_1 => ?_)
            · skip
              replace c_16_1 : 0 = 0 := (nI_eq (a := 0) (b := 0) (by omega) (by omega)).mp c_16_1
              refine lv_iinc (v := nI 3) (lv' := [(2, .int (nI 3)), (0, .ref (q 0)), (1, .int x)]) hx hb dX1_whichList_21 hl (k := 0) rfl (by decide) (by decide) rfl (fun ls hl => ?_)
              refine lv_goto (tgt := 2) hx hb dX1_whichList_24 (by decide) ?_
              refine lv_iload_n hx hb dX1_whichList_2 rfl (lv_at hl 0 rfl) ?_
              refine lv_iconst (v := nI 4) hx hb dX1_whichList_3 (by decide) ?_
              refine lv_icmp_gt (tgt := 27) hx hb dX1_whichList_4 (by decide) (fun c_4_2 => ?_) (fun c_4_2 => ?_)
              · skip
                replace c_4_2 : 4 < 3 := (nI_ltI (a := 4) (b := 3) (by omega) (by omega)).mp c_4_2
                exact absurd c_4_2 (by omega)
              · skip
                replace c_4_2 : ¬ (4 < 3) := fun h9 => c_4_2 ((nI_ltI (a := 4) (b := 3) (by omega) (by omega)).mpr h9)
                refine lv_aload_n hx hb dX1_whichList_7 rfl (lv_at hl 1 rfl) ?_
                refine lv_iload_n hx hb dX1_whichList_8 rfl (lv_at hl 0 rfl) ?_
                have hPc := hP.sub (ws' := (cx q ca C L f_3 w d st tg hi mi go)) [0, 1, 2, 3, 4, 5, 6, 7, 8, 9, 10, 11] rfl
                have hDc := hD.sub (ws' := (cx q ca C L f_3 w d st tg hi mi go)) [0, 1, 2, 3, 4, 5, 6, 7, 8, 9, 10, 11] (by decide) rfl
                have hKc := hK.sub (tys' := (kx ca)) [0, 1, 2, 3, 4, 5, 6] rfl
                have hFc := va_free (wc := (cx q ca C L f_3 w d st tg hi mi go)) hD hS hA [0, 1, 2, 3, 4, 5, 6, 7, 8, 9, 10, 11] rfl
                refine va_callr (va_runV (As := [.int (nI 3)]) (rest := []) ⟨hx, hb, hml, hown, hts⟩ (c_X_listNumbered l dC dI q ca C L f_3 w d st tg hi mi go 3 H.size (by decide) (by decide) hfx_4) (cwV 1 hts gX1_whichList_X1_listNumbered rfl rfl rfl (by decide +kernel) ⟨Nat.le_of_ble_eq_true rfl, Nat.le_of_ble_eq_true rfl⟩) ⟨fun a U g mk q => by obtain ⟨q0, q1, qP, qK, qD⟩ := q; exact ⟨q0, q1, qP, va_K.moved (u := U) (U := U.calling g mk a) (Vm.Alike.refl U.vm) qK, qD⟩, va_recv hKc hPc (ci := 1) (q0 := 0) rfl rfl, fun U hU hW => ⟨rfl, by rw [hU], by rw [hU]; exact hPc, va_K.moved hW.alike hKc, hDc.weaken (fun _ _ _ _ => trivial)⟩⟩ rfl rfl hl.1 rfl (lv_room (Nat.le_of_ble_eq_true rfl)) dX1_whichList_9 ⟨Nat.le_of_ble_eq_true rfl, Nat.le_of_ble_eq_true rfl⟩) hS (fun q _ h => hFc q h) hFc (fun u ra t H1 locs ht hvm hw hB hz1 hk1 hS => ?_)
                obtain ⟨era, f1, hf1, hP1, hK1, hD1⟩ := hB
                rw [ht] at hP1
                subst era
                obtain ⟨f_5, ef_5⟩ : ∃ z, z = f1 := ⟨_, rfl⟩
                rw [← ef_5] at hf1 hP1 hD1
                clear ef_5 f1
                have hfx_6 := hf1
                obtain ⟨hP, hD⟩ := va_join (wr := []) (w1 := (cx q ca C L f_5 w d st tg hi mi go)) hP hD [0, 1, 2, 3, 4, 5, 6, 7, 8, 9, 10, 11] [] rfl rfl (by decide) (by decide) hk1 hFc hP1 hD1
                generalize H1 = H at hP hS ⊢
                replace hP : va_P (dC, dI) vwCl (cx q ca C L f_5 w d st tg hi mi go) H := hP
                replace hD : va_D A (cx q ca C L f_5 w d st tg hi mi go) := hD
                refine lv_iload_n hx hb dX1_whichList_12 rfl (lv_at hl 2 rfl) ?_
                have hPc := hP.sub (ws' := (cal (q 3) (q 7) (ca 3) ((L 3).length) (f_5 3))) [5, 6] rfl
                have hDc := hD.sub (ws' := (cal (q 3) (q 7) (ca 3) ((L 3).length) (f_5 3))) [5, 6] (by decide) rfl
                have hKc := hK.sub (tys' := (kal (ca 3))) [2] rfl
                have hFc := va_free (wc := (cal (q 3) (q 7) (ca 3) ((L 3).length) (f_5 3))) hD hS hA [5, 6] rfl
                refine va_calli (va_runV (As := [.int x]) (rest := []) ⟨hx, hb, hml, hown, hts⟩ (c_A_has l dC dI (q 3) (q 7) (ca 3) (L 3) (f_5 3) x H.size (Nat.le_trans z3 (by decide)) (hfx_6 3 (by decide) (by decide))) (cwV 1 hts gX1_whichList_X0_has rfl rfl rfl (by decide +kernel) ⟨Nat.le_of_ble_eq_true rfl, Nat.le_of_ble_eq_true rfl⟩) ⟨fun a U g mk q => by obtain ⟨q0, q1, qP, qK, qD⟩ := q; exact ⟨q0, q1, qP, va_K.moved (u := U) (U := U.calling g mk a) (Vm.Alike.refl U.vm) qK, qD⟩, va_recv hKc hPc (ci := 0) (q0 := 0) rfl rfl, fun U hU hW => ⟨rfl, by rw [hU], by rw [hU]; exact hPc, va_K.moved hW.alike hKc, hDc.weaken (fun _ _ _ _ => trivial)⟩⟩ rfl rfl hl.1 rfl (lv_room (Nat.le_of_ble_eq_true rfl)) dX1_whichList_13 ⟨Nat.le_of_ble_eq_true rfl, Nat.le_of_ble_eq_true rfl⟩) hS (fun q _ h => hFc q h) hFc (fun r u t H1 locs ht hvm hw hB hz1 hk1 hS => ?_)
                obtain ⟨n1, f1⟩ := u
                obtain ⟨hP1, hK1, hD1⟩ := hB
                rw [ht] at hP1
                try dsimp only at hw hP1 hD1
                obtain ⟨hr9, hu⟩ := hw
                cases hu
                obtain ⟨hP, hD⟩ := va_join (wr := [(q 0, .inr (1, [.int (nI C), .ref (q 1), .ref (q 2), .ref (q 3), .ref (q 4), .ref (q 9), .ref (q 10), .ref (q 11), .int (nI tg), .int hi, .int mi, .int go])), (q 1, .inr (0, [.ref (q 5), .int (nI ((L 1).length))])), (q 5, .inl (ca 1, 64, .inl (f_5 1))), (q 2, .inr (0, [.ref (q 6), .int (nI ((L 2).length))])), (q 6, .inl (ca 2, 64, .inl (f_5 2))), (q 4, .inr (0, [.ref (q 8), .int (nI ((L 4).length))])), (q 8, .inl (ca 4, 64, .inl (f_5 4))), (q 9, .inl (ca 5, 64, .inl w)), (q 10, .inl (ca 6, 64, .inl d)), (q 11, .inl (ca 7, 64, .inl st))]) (w1 := (cal (q 3) (q 7) (ca 3) ((L 3).length) (f_5 3))) hP hD [5, 6] [0, 1, 2, 3, 4, 7, 8, 9, 10, 11] rfl rfl (by decide) (by decide) hk1 hFc hP1 hD1
                generalize H1 = H at hP hS ⊢
                replace hP := hP.sub (ws' := (cx q ca C L f_5 w d st tg hi mi go)) [0, 1, 2, 3, 4, 10, 11, 5, 6, 7, 8, 9] rfl
                replace hD := hD.sub (ws' := (cx q ca C L f_5 w d st tg hi mi go)) [0, 1, 2, 3, 4, 10, 11, 5, 6, 7, 8, 9] (by decide) rfl
                by_cases hm_3 : x ∈ L 3
                · rw [if_pos hm_3] at hr9
                  subst hr9
                  refine lv_if_eq (tgt := 21) hx hb dX1_whichList_16 (by decide) (fun c_16_2 => ?_) (fun c_16_2 => ?_)
                  · skip
                    replace c_16_2 : 1 = 0 := (nI_eq (a := 1) (b := 0) (by omega) (by omega)).mp c_16_2
                    exact absurd c_16_2 (by omega)
                  · skip
                    replace c_16_2 : ¬ (1 = 0) := fun h9 => c_16_2 ((nI_eq (a := 1) (b := 0) (by omega) (by omega)).mpr h9)
                    refine lv_iload_n hx hb dX1_whichList_19 rfl (lv_at hl 0 rfl) ?_
                    exact W.iret (v := nI 3) hx hb hr (fun t ht hW => ⟨⟨nI 3, (L, w, d, st, tg, hi, mi, go), rfl, ⟨by unfold ap_wl; rw [if_neg hm_1, if_neg hm_2, if_pos hm_3], rfl⟩, f_5, hfx_6, by rw [ht]; exact hP, va_K.moved hW.alike hK, hD⟩, hS.F ht⟩) hS.2.2 dX1_whichList_20
                · rw [if_neg hm_3] at hr9
                  subst hr9
                  refine lv_if_eq (tgt := 21) hx hb dX1_whichList_16 (by decide) (fun c_16_2 => ?_) (fun c_16_2 => ?_)
                  · skip
                    replace c_16_2 : 0 = 0 := (nI_eq (a := 0) (b := 0) (by omega) (by omega)).mp c_16_2
                    refine lv_iinc (v := nI 4) (lv' := [(2, .int (nI 4)), (0, .ref (q 0)), (1, .int x)]) hx hb dX1_whichList_21 hl (k := 0) rfl (by decide) (by decide) rfl (fun ls hl => ?_)
                    refine lv_goto (tgt := 2) hx hb dX1_whichList_24 (by decide) ?_
                    refine lv_iload_n hx hb dX1_whichList_2 rfl (lv_at hl 0 rfl) ?_
                    refine lv_iconst (v := nI 4) hx hb dX1_whichList_3 (by decide) ?_
                    refine lv_icmp_gt (tgt := 27) hx hb dX1_whichList_4 (by decide) (fun c_4_3 => ?_) (fun c_4_3 => ?_)
                    · skip
                      replace c_4_3 : 4 < 4 := (nI_ltI (a := 4) (b := 4) (by omega) (by omega)).mp c_4_3
                      exact absurd c_4_3 (by omega)
                    · skip
                      replace c_4_3 : ¬ (4 < 4) := fun h9 => c_4_3 ((nI_ltI (a := 4) (b := 4) (by omega) (by omega)).mpr h9)
                      refine lv_aload_n hx hb dX1_whichList_7 rfl (lv_at hl 1 rfl) ?_
                      refine lv_iload_n hx hb dX1_whichList_8 rfl (lv_at hl 0 rfl) ?_
                      have hPc := hP.sub (ws' := (cx q ca C L f_5 w d st tg hi mi go)) [0, 1, 2, 3, 4, 5, 6, 7, 8, 9, 10, 11] rfl
                      have hDc := hD.sub (ws' := (cx q ca C L f_5 w d st tg hi mi go)) [0, 1, 2, 3, 4, 5, 6, 7, 8, 9, 10, 11] (by decide) rfl
                      have hKc := hK.sub (tys' := (kx ca)) [0, 1, 2, 3, 4, 5, 6] rfl
                      have hFc := va_free (wc := (cx q ca C L f_5 w d st tg hi mi go)) hD hS hA [0, 1, 2, 3, 4, 5, 6, 7, 8, 9, 10, 11] rfl
                      refine va_callr (va_runV (As := [.int (nI 4)]) (rest := []) ⟨hx, hb, hml, hown, hts⟩ (c_X_listNumbered l dC dI q ca C L f_5 w d st tg hi mi go 4 H.size (by decide) (by decide) hfx_6) (cwV 1 hts gX1_whichList_X1_listNumbered rfl rfl rfl (by decide +kernel) ⟨Nat.le_of_ble_eq_true rfl, Nat.le_of_ble_eq_true rfl⟩) ⟨fun a U g mk q => by obtain ⟨q0, q1, qP, qK, qD⟩ := q; exact ⟨q0, q1, qP, va_K.moved (u := U) (U := U.calling g mk a) (Vm.Alike.refl U.vm) qK, qD⟩, va_recv hKc hPc (ci := 1) (q0 := 0) rfl rfl, fun U hU hW => ⟨rfl, by rw [hU], by rw [hU]; exact hPc, va_K.moved hW.alike hKc, hDc.weaken (fun _ _ _ _ => trivial)⟩⟩ rfl rfl hl.1 rfl (lv_room (Nat.le_of_ble_eq_true rfl)) dX1_whichList_9 ⟨Nat.le_of_ble_eq_true rfl, Nat.le_of_ble_eq_true rfl⟩) hS (fun q _ h => hFc q h) hFc (fun u ra t H1 locs ht hvm hw hB hz1 hk1 hS => ?_)
                      obtain ⟨era, f1, hf1, hP1, hK1, hD1⟩ := hB
                      rw [ht] at hP1
                      subst era
                      obtain ⟨f_7, ef_7⟩ : ∃ z, z = f1 := ⟨_, rfl⟩
                      rw [← ef_7] at hf1 hP1 hD1
                      clear ef_7 f1
                      have hfx_8 := hf1
                      obtain ⟨hP, hD⟩ := va_join (wr := []) (w1 := (cx q ca C L f_7 w d st tg hi mi go)) hP hD [0, 1, 2, 3, 4, 5, 6, 7, 8, 9, 10, 11] [] rfl rfl (by decide) (by decide) hk1 hFc hP1 hD1
                      generalize H1 = H at hP hS ⊢
                      replace hP : va_P (dC, dI) vwCl (cx q ca C L f_7 w d st tg hi mi go) H := hP
                      replace hD : va_D A (cx q ca C L f_7 w d st tg hi mi go) := hD
                      refine lv_iload_n hx hb dX1_whichList_12 rfl (lv_at hl 2 rfl) ?_
                      have hPc := hP.sub (ws' := (cal (q 4) (q 8) (ca 4) ((L 4).length) (f_7 4))) [7, 8] rfl
                      have hDc := hD.sub (ws' := (cal (q 4) (q 8) (ca 4) ((L 4).length) (f_7 4))) [7, 8] (by decide) rfl
                      have hKc := hK.sub (tys' := (kal (ca 4))) [3] rfl
                      have hFc := va_free (wc := (cal (q 4) (q 8) (ca 4) ((L 4).length) (f_7 4))) hD hS hA [7, 8] rfl
                      refine va_calli (va_runV (As := [.int x]) (rest := []) ⟨hx, hb, hml, hown, hts⟩ (c_A_has l dC dI (q 4) (q 8) (ca 4) (L 4) (f_7 4) x H.size (Nat.le_trans z4 (by decide)) (hfx_8 4 (by decide) (by decide))) (cwV 1 hts gX1_whichList_X0_has rfl rfl rfl (by decide +kernel) ⟨Nat.le_of_ble_eq_true rfl, Nat.le_of_ble_eq_true rfl⟩) ⟨fun a U g mk q => by obtain ⟨q0, q1, qP, qK, qD⟩ := q; exact ⟨q0, q1, qP, va_K.moved (u := U) (U := U.calling g mk a) (Vm.Alike.refl U.vm) qK, qD⟩, va_recv hKc hPc (ci := 0) (q0 := 0) rfl rfl, fun U hU hW => ⟨rfl, by rw [hU], by rw [hU]; exact hPc, va_K.moved hW.alike hKc, hDc.weaken (fun _ _ _ _ => trivial)⟩⟩ rfl rfl hl.1 rfl (lv_room (Nat.le_of_ble_eq_true rfl)) dX1_whichList_13 ⟨Nat.le_of_ble_eq_true rfl, Nat.le_of_ble_eq_true rfl⟩) hS (fun q _ h => hFc q h) hFc (fun r u t H1 locs ht hvm hw hB hz1 hk1 hS => ?_)
                      obtain ⟨n1, f1⟩ := u
                      obtain ⟨hP1, hK1, hD1⟩ := hB
                      rw [ht] at hP1
                      try dsimp only at hw hP1 hD1
                      obtain ⟨hr9, hu⟩ := hw
                      cases hu
                      obtain ⟨hP, hD⟩ := va_join (wr := [(q 0, .inr (1, [.int (nI C), .ref (q 1), .ref (q 2), .ref (q 3), .ref (q 4), .ref (q 9), .ref (q 10), .ref (q 11), .int (nI tg), .int hi, .int mi, .int go])), (q 1, .inr (0, [.ref (q 5), .int (nI ((L 1).length))])), (q 5, .inl (ca 1, 64, .inl (f_7 1))), (q 2, .inr (0, [.ref (q 6), .int (nI ((L 2).length))])), (q 6, .inl (ca 2, 64, .inl (f_7 2))), (q 3, .inr (0, [.ref (q 7), .int (nI ((L 3).length))])), (q 7, .inl (ca 3, 64, .inl (f_7 3))), (q 9, .inl (ca 5, 64, .inl w)), (q 10, .inl (ca 6, 64, .inl d)), (q 11, .inl (ca 7, 64, .inl st))]) (w1 := (cal (q 4) (q 8) (ca 4) ((L 4).length) (f_7 4))) hP hD [7, 8] [0, 1, 2, 3, 4, 5, 6, 9, 10, 11] rfl rfl (by decide) (by decide) hk1 hFc hP1 hD1
                      generalize H1 = H at hP hS ⊢
                      replace hP := hP.sub (ws' := (cx q ca C L f_7 w d st tg hi mi go)) [0, 1, 2, 3, 4, 5, 6, 10, 11, 7, 8, 9] rfl
                      replace hD := hD.sub (ws' := (cx q ca C L f_7 w d st tg hi mi go)) [0, 1, 2, 3, 4, 5, 6, 10, 11, 7, 8, 9] (by decide) rfl
                      by_cases hm_4 : x ∈ L 4
                      · rw [if_pos hm_4] at hr9
                        subst hr9
                        refine lv_if_eq (tgt := 21) hx hb dX1_whichList_16 (by decide) (fun c_16_3 => ?_) (fun c_16_3 => ?_)
                        · skip
                          replace c_16_3 : 1 = 0 := (nI_eq (a := 1) (b := 0) (by omega) (by omega)).mp c_16_3
                          exact absurd c_16_3 (by omega)
                        · skip
                          replace c_16_3 : ¬ (1 = 0) := fun h9 => c_16_3 ((nI_eq (a := 1) (b := 0) (by omega) (by omega)).mpr h9)
                          refine lv_iload_n hx hb dX1_whichList_19 rfl (lv_at hl 0 rfl) ?_
                          exact W.iret (v := nI 4) hx hb hr (fun t ht hW => ⟨⟨nI 4, (L, w, d, st, tg, hi, mi, go), rfl, ⟨by unfold ap_wl; rw [if_neg hm_1, if_neg hm_2, if_neg hm_3, if_pos hm_4], rfl⟩, f_7, hfx_8, by rw [ht]; exact hP, va_K.moved hW.alike hK, hD⟩, hS.F ht⟩) hS.2.2 dX1_whichList_20
                      · rw [if_neg hm_4] at hr9
                        subst hr9
                        refine lv_if_eq (tgt := 21) hx hb dX1_whichList_16 (by decide) (fun c_16_3 => ?_) (fun c_16_3 => ?_)
                        · skip
                          replace c_16_3 : 0 = 0 := (nI_eq (a := 0) (b := 0) (by omega) (by omega)).mp c_16_3
                          refine lv_iinc (v := nI 5) (lv' := [(2, .int (nI 5)), (0, .ref (q 0)), (1, .int x)]) hx hb dX1_whichList_21 hl (k := 0) rfl (by decide) (by decide) rfl (fun ls hl => ?_)
                          refine lv_goto (tgt := 2) hx hb dX1_whichList_24 (by decide) ?_
                          refine lv_iload_n hx hb dX1_whichList_2 rfl (lv_at hl 0 rfl) ?_
                          refine lv_iconst (v := nI 4) hx hb dX1_whichList_3 (by decide) ?_
                          refine lv_icmp_gt (tgt := 27) hx hb dX1_whichList_4 (by decide) (fun c_4_4 => ?_) (fun c_4_4 => ?_)
                          · skip
                            replace c_4_4 : 4 < 5 := (nI_ltI (a := 4) (b := 5) (by omega) (by omega)).mp c_4_4
                            refine lv_iconst (v := nI 0) hx hb dX1_whichList_27 (by decide) ?_
                            exact W.iret (v := nI 0) hx hb hr (fun t ht hW => ⟨⟨nI 0, (L, w, d, st, tg, hi, mi, go), rfl, ⟨by unfold ap_wl; rw [if_neg hm_1, if_neg hm_2, if_neg hm_3, if_neg hm_4], rfl⟩, f_7, hfx_8, by rw [ht]; exact hP, va_K.moved hW.alike hK, hD⟩, hS.F ht⟩) hS.2.2 dX1_whichList_28
                          · skip
                            replace c_4_4 : ¬ (4 < 5) := fun h9 => c_4_4 ((nI_ltI (a := 4) (b := 5) (by omega) (by omega)).mpr h9)
                            exact absurd c_4_4 (by omega)
                        · skip
                          replace c_16_3 : ¬ (0 = 0) := fun h9 => c_16_3 ((nI_eq (a := 0) (b := 0) (by omega) (by omega)).mpr h9)
                          exact absurd c_16_3 (by omega)
                  · skip
                    replace c_16_2 : ¬ (0 = 0) := fun h9 => c_16_2 ((nI_eq (a := 0) (b := 0) (by omega) (by omega)).mpr h9)
                    exact absurd c_16_2 (by omega)
            · skip
              replace c_16_1 : ¬ (0 = 0) := fun h9 => c_16_1 ((nI_eq (a := 0) (b := 0) (by omega) (by omega)).mpr h9)
              exact absurd c_16_1 (by omega)
      · skip
        replace c_16 : ¬ (0 = 0) := fun h9 => c_16 ((nI_eq (a := 0) (b := 0) (by omega) (by omega)).mpr h9)
        exact absurd c_16 (by omega)
end
section
-- THE CLASS, second part (laid by wip/gen/xx2.py)
set_option maxHeartbeats 4000000 in
set_option maxRecDepth 100000 in
theorem c_X_bringPage (l : Launch) (dC : Nat → ClassId) (dI : Nat → Nat → Nat) (q : Nat → Nat) (ca : Nat → ClassId) (C : Nat) (L : Nat → List Int32) (f : Nat → Nat → Int32) (w d st : Nat → Int32) (tg : Nat) (hi mi go : Int32) (x : Int32) (sz : Nat) (hf : fx_ok f L) (hx64 : vp_in x 64) : Met l yX1_bringPage wsX1_bringPage ({ frames := 0, cells := 0, slots := 0, locals := 0 }) (va_Pc [.ref (q 0), .int x] (fun U => U.heap.size = sz ∧ va_P (dC, dI) vwCl (cx q ca C L f w d st tg hi mi go) U.heap ∧ va_K (dC, dI) vwCl (kx ca) U ∧ va_D (fun _ => True) (cx q ca C L f w d st tg hi mi go))) (va_Qv (fun (u : ap_U) => u = (L, upd w x.toNatClampNeg (st x.toNatClampNeg), upd d x.toNatClampNeg 0, st, tg, hi, mi, go)) (at_X dC dI (va_A (cx q ca C L f w d st tg hi mi go) sz) q ca C) (va_A (cx q ca C L f w d st tg hi mi go) sz)) 0 0 (va_A (cx q ca C L f w d st tg hi mi go) sz) := by
  refine Met.ofW (cc := cX1_bringPage) (maxL := 2) (ret := none) (by decide) rfl ?_
  intro p e s m args below meth c s₁ B hml hv
  obtain ⟨rfl, hsz, hP, hK, hD0⟩ := hv
  have hx := B.exec
  have hb := B.bytes
  have hr := B.returns
  have hts := atoms_spec (ws := wsX1_bringPage) B.pre
  have hown : s.vm.findClass RX1 = some m.cls := findClass_of_methodNamed B.named
  have hlocks := B.notSynchronized
  have hwX1 : ∀ w ∈ u_ws RX1 TX1 12, w ∈ wsX1_bringPage := by decide +kernel
  subst hsz
  have hD := hD0.self (sz := s.heap.size)
  generalize hAe : va_A (cx q ca C L f w d st tg hi mi go) s.heap.size = A at hD ⊢
  have hA : ∀ q : Nat, s.heap.size ≤ q → A q := fun q h => by rw [← hAe]; exact Or.inr h
  have hS0 : ∀ H, s.heap = H → va_S A s.heap H [] := fun H h => by subst h; exact va_S.rf
  have hl := lv_entry ([.ref (q 0), .int x]) (n := 2) (Nat.le_of_ble_eq_true rfl)
  rw [lg_entry_eq]
  generalize (lg_sl ([.ref (q 0), .int x]) ++ List.replicate (2 - (lg_sl ([.ref (q 0), .int x])).length) Slot.unset).toArray = ls at hl ⊢
  have hl : lv_has ls 2 [(0, .ref (q 0)), (1, .int x)] := hl
  generalize hHe : s.heap = H at hP ⊢
  have hS := hS0 H hHe
  refine lv_aload_n hx hb dX1_bringPage_0 rfl (lv_at hl 0 rfl) ?_
  refine va_get (D := (dC, dI)) (ci := 1) (v := .ref (q 9)) (C := RX1) (T := TX1) (N := 12) hx hb hts hwX1 hown hK hP 0 rfl rfl 5 (by decide) (hts (.fieldLink RX1 25 "ArcCache" "pageWords" "[I") (by decide +kernel)) (fun _ h9 => h9) rfl dX1_bringPage_1 ?_
  refine lv_iload_n hx hb dX1_bringPage_4 rfl (lv_at hl 1 rfl) ?_
  refine lv_aload_n hx hb dX1_bringPage_5 rfl (lv_at hl 0 rfl) ?_
  refine va_get (D := (dC, dI)) (ci := 1) (v := .ref (q 11)) (C := RX1) (T := TX1) (N := 12) hx hb hts hwX1 hown hK hP 0 rfl rfl 7 (by decide) (hts (.fieldLink RX1 33 "ArcCache" "storeWords" "[I") (by decide +kernel)) (fun _ h9 => h9) rfl dX1_bringPage_6 ?_
  refine lv_iload_n hx hb dX1_bringPage_9 rfl (lv_at hl 1 rfl) ?_
  refine va_iald hx hb hK hP 11 6 rfl rfl hx64 dX1_bringPage_10 ?_
  refine va_iast hx hb hK hP hD hS 9 4 rfl rfl hx64 dX1_bringPage_11 (fun H locs hP hD hS => ?_)
  replace hP : va_P (dC, dI) vwCl (cx q ca C L f (upd w x.toNatClampNeg (st x.toNatClampNeg)) d st tg hi mi go) H := hP
  replace hD : va_D A (cx q ca C L f (upd w x.toNatClampNeg (st x.toNatClampNeg)) d st tg hi mi go) := hD
  refine lv_aload_n hx hb dX1_bringPage_12 rfl (lv_at hl 0 rfl) ?_
  refine va_get (D := (dC, dI)) (ci := 1) (v := .ref (q 10)) (C := RX1) (T := TX1) (N := 12) hx hb hts hwX1 hown hK hP 0 rfl rfl 6 (by decide) (hts (.fieldLink RX1 29 "ArcCache" "dirtyPages" "[Z") (by decide +kernel)) (fun _ h9 => h9) rfl dX1_bringPage_13 ?_
  refine lv_iload_n hx hb dX1_bringPage_16 rfl (lv_at hl 1 rfl) ?_
  refine lv_iconst (v := nI 0) hx hb dX1_bringPage_17 (by decide) ?_
  refine va_zast hx hb hK hP hD hS 10 5 rfl rfl hx64 dX1_bringPage_18 (fun H locs hP hD hS => ?_)
  rw [ap_nar0] at hP hD
  replace hP : va_P (dC, dI) vwCl (cx q ca C L f (upd w x.toNatClampNeg (st x.toNatClampNeg)) (upd d x.toNatClampNeg 0) st tg hi mi go) H := hP
  replace hD : va_D A (cx q ca C L f (upd w x.toNatClampNeg (st x.toNatClampNeg)) (upd d x.toNatClampNeg 0) st tg hi mi go) := hD
  exact W.vret hx hb hr (fun t ht hW => ⟨⟨(L, upd w x.toNatClampNeg (st x.toNatClampNeg), upd d x.toNatClampNeg 0, st, tg, hi, mi, go), rfl, rfl, f, hf, by rw [ht]; exact hP, va_K.moved hW.alike hK, hD⟩, hS.F ht⟩) hS.2.2 dX1_bringPage_19
set_option maxHeartbeats 4000000 in
set_option maxRecDepth 100000 in
theorem c_X_writeBack (l : Launch) (dC : Nat → ClassId) (dI : Nat → Nat → Nat) (q : Nat → Nat) (ca : Nat → ClassId) (C : Nat) (L : Nat → List Int32) (f : Nat → Nat → Int32) (w d st : Nat → Int32) (tg : Nat) (hi mi go : Int32) (x : Int32) (sz : Nat) (hf : fx_ok f L) (hx64 : vp_in x 64) : Met l yX1_writeBack wsX1_writeBack ({ frames := 0, cells := 0, slots := 0, locals := 0 }) (va_Pc [.ref (q 0), .int x] (fun U => U.heap.size = sz ∧ va_P (dC, dI) vwCl (cx q ca C L f w d st tg hi mi go) U.heap ∧ va_K (dC, dI) vwCl (kx ca) U ∧ va_D (fun _ => True) (cx q ca C L f w d st tg hi mi go))) (va_Qv (fun (u : ap_U) => u = (L, w, upd d x.toNatClampNeg 0, upd st x.toNatClampNeg (w x.toNatClampNeg), tg, hi, mi, go)) (at_X dC dI (va_A (cx q ca C L f w d st tg hi mi go) sz) q ca C) (va_A (cx q ca C L f w d st tg hi mi go) sz)) 0 0 (va_A (cx q ca C L f w d st tg hi mi go) sz) := by
  refine Met.ofW (cc := cX1_writeBack) (maxL := 2) (ret := none) (by decide) rfl ?_
  intro p e s m args below meth c s₁ B hml hv
  obtain ⟨rfl, hsz, hP, hK, hD0⟩ := hv
  have hx := B.exec
  have hb := B.bytes
  have hr := B.returns
  have hts := atoms_spec (ws := wsX1_writeBack) B.pre
  have hown : s.vm.findClass RX1 = some m.cls := findClass_of_methodNamed B.named
  have hlocks := B.notSynchronized
  have hwX1 : ∀ w ∈ u_ws RX1 TX1 12, w ∈ wsX1_writeBack := by decide +kernel
  subst hsz
  have hD := hD0.self (sz := s.heap.size)
  generalize hAe : va_A (cx q ca C L f w d st tg hi mi go) s.heap.size = A at hD ⊢
  have hA : ∀ q : Nat, s.heap.size ≤ q → A q := fun q h => by rw [← hAe]; exact Or.inr h
  have hS0 : ∀ H, s.heap = H → va_S A s.heap H [] := fun H h => by subst h; exact va_S.rf
  have hl := lv_entry ([.ref (q 0), .int x]) (n := 2) (Nat.le_of_ble_eq_true rfl)
  rw [lg_entry_eq]
  generalize (lg_sl ([.ref (q 0), .int x]) ++ List.replicate (2 - (lg_sl ([.ref (q 0), .int x])).length) Slot.unset).toArray = ls at hl ⊢
  have hl : lv_has ls 2 [(0, .ref (q 0)), (1, .int x)] := hl
  generalize hHe : s.heap = H at hP ⊢
  have hS := hS0 H hHe
  refine lv_aload_n hx hb dX1_writeBack_0 rfl (lv_at hl 0 rfl) ?_
  refine va_get (D := (dC, dI)) (ci := 1) (v := .ref (q 11)) (C := RX1) (T := TX1) (N := 12) hx hb hts hwX1 hown hK hP 0 rfl rfl 7 (by decide) (hts (.fieldLink RX1 33 "ArcCache" "storeWords" "[I") (by decide +kernel)) (fun _ h9 => h9) rfl dX1_writeBack_1 ?_
  refine lv_iload_n hx hb dX1_writeBack_4 rfl (lv_at hl 1 rfl) ?_
  refine lv_aload_n hx hb dX1_writeBack_5 rfl (lv_at hl 0 rfl) ?_
  refine va_get (D := (dC, dI)) (ci := 1) (v := .ref (q 9)) (C := RX1) (T := TX1) (N := 12) hx hb hts hwX1 hown hK hP 0 rfl rfl 5 (by decide) (hts (.fieldLink RX1 25 "ArcCache" "pageWords" "[I") (by decide +kernel)) (fun _ h9 => h9) rfl dX1_writeBack_6 ?_
  refine lv_iload_n hx hb dX1_writeBack_9 rfl (lv_at hl 1 rfl) ?_
  refine va_iald hx hb hK hP 9 4 rfl rfl hx64 dX1_writeBack_10 ?_
  refine va_iast hx hb hK hP hD hS 11 6 rfl rfl hx64 dX1_writeBack_11 (fun H locs hP hD hS => ?_)
  replace hP : va_P (dC, dI) vwCl (cx q ca C L f w d (upd st x.toNatClampNeg (w x.toNatClampNeg)) tg hi mi go) H := hP
  replace hD : va_D A (cx q ca C L f w d (upd st x.toNatClampNeg (w x.toNatClampNeg)) tg hi mi go) := hD
  refine lv_aload_n hx hb dX1_writeBack_12 rfl (lv_at hl 0 rfl) ?_
  refine va_get (D := (dC, dI)) (ci := 1) (v := .ref (q 10)) (C := RX1) (T := TX1) (N := 12) hx hb hts hwX1 hown hK hP 0 rfl rfl 6 (by decide) (hts (.fieldLink RX1 29 "ArcCache" "dirtyPages" "[Z") (by decide +kernel)) (fun _ h9 => h9) rfl dX1_writeBack_13 ?_
  refine lv_iload_n hx hb dX1_writeBack_16 rfl (lv_at hl 1 rfl) ?_
  refine lv_iconst (v := nI 0) hx hb dX1_writeBack_17 (by decide) ?_
  refine va_zast hx hb hK hP hD hS 10 5 rfl rfl hx64 dX1_writeBack_18 (fun H locs hP hD hS => ?_)
  rw [ap_nar0] at hP hD
  replace hP : va_P (dC, dI) vwCl (cx q ca C L f w (upd d x.toNatClampNeg 0) (upd st x.toNatClampNeg (w x.toNatClampNeg)) tg hi mi go) H := hP
  replace hD : va_D A (cx q ca C L f w (upd d x.toNatClampNeg 0) (upd st x.toNatClampNeg (w x.toNatClampNeg)) tg hi mi go) := hD
  exact W.vret hx hb hr (fun t ht hW => ⟨⟨(L, w, upd d x.toNatClampNeg 0, upd st x.toNatClampNeg (w x.toNatClampNeg), tg, hi, mi, go), rfl, rfl, f, hf, by rw [ht]; exact hP, va_K.moved hW.alike hK, hD⟩, hS.F ht⟩) hS.2.2 dX1_writeBack_19
set_option maxHeartbeats 4000000 in
set_option maxRecDepth 100000 in
theorem c_X_pageGoes (l : Launch) (dC : Nat → ClassId) (dI : Nat → Nat → Nat) (q : Nat → Nat) (ca : Nat → ClassId) (C : Nat) (L : Nat → List Int32) (f : Nat → Nat → Int32) (w d st : Nat → Int32) (tg : Nat) (hi mi go : Int32) (x : Int32) (sz : Nat) (hf : fx_ok f L) (hx64 : vp_in x 64) : Met l yX1_pageGoes wsX1_pageGoes ({ frames := 1, cells := 0, slots := 0, locals := 21 }) (va_Pc [.ref (q 0), .int x] (fun U => U.heap.size = sz ∧ va_P (dC, dI) vwCl (cx q ca C L f w d st tg hi mi go) U.heap ∧ va_K (dC, dI) vwCl (kx ca) U ∧ va_D (fun _ => True) (cx q ca C L f w d st tg hi mi go))) (va_Qv (fun (u : ap_U) => u = (L, w, ap_cd d x, ap_cs w d st x, tg, hi, mi, go + 1)) (at_X dC dI (va_A (cx q ca C L f w d st tg hi mi go) sz) q ca C) (va_A (cx q ca C L f w d st tg hi mi go) sz)) 0 0 (va_A (cx q ca C L f w d st tg hi mi go) sz) := by
  refine Met.ofW (cc := cX1_pageGoes) (maxL := 2) (ret := none) (by decide) rfl ?_
  intro p e s m args below meth c s₁ B hml hv
  obtain ⟨rfl, hsz, hP, hK, hD0⟩ := hv
  have hx := B.exec
  have hb := B.bytes
  have hr := B.returns
  have hts := atoms_spec (ws := wsX1_pageGoes) B.pre
  have hown : s.vm.findClass RX1 = some m.cls := findClass_of_methodNamed B.named
  have hlocks := B.notSynchronized
  have hwX1 : ∀ w ∈ u_ws RX1 TX1 12, w ∈ wsX1_pageGoes := by decide +kernel
  subst hsz
  have hD := hD0.self (sz := s.heap.size)
  generalize hAe : va_A (cx q ca C L f w d st tg hi mi go) s.heap.size = A at hD ⊢
  have hA : ∀ q : Nat, s.heap.size ≤ q → A q := fun q h => by rw [← hAe]; exact Or.inr h
  have hS0 : ∀ H, s.heap = H → va_S A s.heap H [] := fun H h => by subst h; exact va_S.rf
  have hl := lv_entry ([.ref (q 0), .int x]) (n := 2) (Nat.le_of_ble_eq_true rfl)
  rw [lg_entry_eq]
  generalize (lg_sl ([.ref (q 0), .int x]) ++ List.replicate (2 - (lg_sl ([.ref (q 0), .int x])).length) Slot.unset).toArray = ls at hl ⊢
  have hl : lv_has ls 2 [(0, .ref (q 0)), (1, .int x)] := hl
  generalize hHe : s.heap = H at hP ⊢
  have hS := hS0 H hHe
  refine lv_iload_n hx hb dX1_pageGoes_0 rfl (lv_at hl 1 rfl) ?_
  have hPc := hP.sub (ws' := []) [] rfl
  have hDc := hD.sub (ws' := []) [] (by decide) rfl
  have hFc := va_free (wc := []) hD hS hA [] rfl
  refine va_calli (va_runS (As := [.int x]) (rest := []) ⟨hx, hb, hml, hown, hts⟩ (c_X_isAddress l dC dI x H.size) (va_cwS 1 hts gX1_pageGoes_X1_isAddress rfl rfl rfl (by decide +kernel) ⟨Nat.le_of_ble_eq_true rfl, Nat.le_of_ble_eq_true rfl⟩) ⟨fun a U g mk q => by obtain ⟨q0, q1⟩ := q; exact ⟨q0, q1⟩, fun U hU hW => ⟨rfl, by show U.heap.size = _; rw [hU]⟩⟩ rfl rfl hl.1 rfl (lv_room (Nat.le_of_ble_eq_true rfl)) dX1_pageGoes_1 ⟨Nat.le_of_ble_eq_true rfl, Nat.le_of_ble_eq_true rfl⟩) hS (fun q _ h => hFc q h) hFc (fun r u t H1 locs ht hvm hw hB hz1 hk1 hS => ?_)
  obtain ⟨hP, hD⟩ := va_join (wr := (cx q ca C L f w d st tg hi mi go)) (w1 := []) hP hD [] [0, 1, 2, 3, 4, 5, 6, 7, 8, 9, 10, 11] rfl rfl (by decide) (by decide) hk1 hFc (fun k q h => by simp at h) ⟨fun i j p q h => by simp at h, fun k q h => by simp at h⟩
  generalize H1 = H at hP hS ⊢
  replace hP : va_P (dC, dI) vwCl (cx q ca C L f w d st tg hi mi go) H := hP
  replace hD : va_D A (cx q ca C L f w d st tg hi mi go) := hD
  by_cases hyes9 : x < 0 ∨ nI 64 ≤ x
  · rw [if_pos hyes9] at hw
    subst hw
    exact absurd hyes9 (vp_in_64.mp hx64)
  · have hno9 := hyes9
    rw [if_neg hno9] at hw
    subst hw
    refine lv_if_ne (tgt := 8) hx hb dX1_pageGoes_4 (by decide) (fun c_4 => ?_) (fun c_4 => ?_)
    · skip
      replace c_4 : ¬ (1 = 0) := fun h9 => c_4 ((nI_eq (a := 1) (b := 0) (by omega) (by omega)).mpr h9)
      refine lv_aload_n hx hb dX1_pageGoes_8 rfl (lv_at hl 0 rfl) ?_
      refine va_get (D := (dC, dI)) (ci := 1) (v := .ref (q 10)) (C := RX1) (T := TX1) (N := 12) hx hb hts hwX1 hown hK hP 0 rfl rfl 6 (by decide) (hts (.fieldLink RX1 29 "ArcCache" "dirtyPages" "[Z") (by decide +kernel)) (fun _ h9 => h9) rfl dX1_pageGoes_9 ?_
      refine lv_iload_n hx hb dX1_pageGoes_12 rfl (lv_at hl 1 rfl) ?_
      refine va_zald hx hb hK hP 10 5 rfl rfl hx64 dX1_pageGoes_13 ?_
      refine lv_if_eq (tgt := 22) hx hb dX1_pageGoes_14 (by decide) (fun c_14 => ?_) (fun c_14 => ?_)
      · skip
        refine lv_aload_n hx hb dX1_pageGoes_22 rfl (lv_at hl 0 rfl) ?_
        refine lv_dup hx hb dX1_pageGoes_23 rfl ?_
        refine va_get (D := (dC, dI)) (ci := 1) (v := .int go) (C := RX1) (T := TX1) (N := 12) hx hb hts hwX1 hown hK hP 0 rfl rfl 11 (by decide) (hts (.fieldLink RX1 64 "ArcCache" "goneCount" "I") (by decide +kernel)) (fun _ h9 => h9) rfl dX1_pageGoes_24 ?_
        refine lv_iconst (v := nI 1) hx hb dX1_pageGoes_27 (by decide) ?_
        refine lv_iadd hx hb dX1_pageGoes_28 ?_
        refine va_put (D := (dC, dI)) (ci := 1) (v := .int (go + (nI 1))) (ty := .int) (C := RX1) (T := TX1) (N := 12) hx hb hts hwX1 tyX1 tyX1_ok nmX1 hown hK hP hD hS 0 rfl rfl 11 (by decide) (hts (.fieldLink RX1 64 "ArcCache" "goneCount" "I") (by decide +kernel)) (fun _ h9 => h9) rfl (by decide +kernel) rfl rfl (Nat.le_of_ble_eq_true rfl) dX1_pageGoes_29 (fun H locs hP hD hS => ?_)
        replace hP : va_P (dC, dI) vwCl (cx q ca C L f w d st tg hi mi (go + (nI 1))) H := hP
        replace hD : va_D A (cx q ca C L f w d st tg hi mi (go + (nI 1))) := hD
        exact W.vret hx hb hr (fun t ht hW => ⟨⟨(L, w, d, st, tg, hi, mi, go + (nI 1)), rfl, by rw [ap_cd_0 c_14, ap_cs_0 c_14]; rfl, f, hf, by rw [ht]; exact hP, va_K.moved hW.alike hK, hD⟩, hS.F ht⟩) hS.2.2 dX1_pageGoes_32
      · skip
        refine lv_aload_n hx hb dX1_pageGoes_17 rfl (lv_at hl 0 rfl) ?_
        refine lv_iload_n hx hb dX1_pageGoes_18 rfl (lv_at hl 1 rfl) ?_
        have hPc := hP.sub (ws' := (cx q ca C L f w d st tg hi mi go)) [0, 1, 2, 3, 4, 5, 6, 7, 8, 9, 10, 11] rfl
        have hDc := hD.sub (ws' := (cx q ca C L f w d st tg hi mi go)) [0, 1, 2, 3, 4, 5, 6, 7, 8, 9, 10, 11] (by decide) rfl
        have hKc := hK.sub (tys' := (kx ca)) [0, 1, 2, 3, 4, 5, 6] rfl
        have hFc := va_free (wc := (cx q ca C L f w d st tg hi mi go)) hD hS hA [0, 1, 2, 3, 4, 5, 6, 7, 8, 9, 10, 11] rfl
        refine va_callv (va_runV (As := [.int x]) (rest := []) ⟨hx, hb, hml, hown, hts⟩ (c_X_writeBack l dC dI q ca C L f w d st tg hi mi go x H.size hf hx64) (cwV 1 hts gX1_pageGoes_X1_writeBack rfl rfl rfl (by decide +kernel) ⟨Nat.le_of_ble_eq_true rfl, Nat.le_of_ble_eq_true rfl⟩) ⟨fun a U g mk q => by obtain ⟨q0, q1, qP, qK, qD⟩ := q; exact ⟨q0, q1, qP, va_K.moved (u := U) (U := U.calling g mk a) (Vm.Alike.refl U.vm) qK, qD⟩, va_recv hKc hPc (ci := 1) (q0 := 0) rfl rfl, fun U hU hW => ⟨rfl, by rw [hU], by rw [hU]; exact hPc, va_K.moved hW.alike hKc, hDc.weaken (fun _ _ _ _ => trivial)⟩⟩ rfl rfl hl.1 rfl (lv_room (Nat.le_of_ble_eq_true rfl)) dX1_pageGoes_19 ⟨Nat.le_of_ble_eq_true rfl, Nat.le_of_ble_eq_true rfl⟩) hS (fun q _ h => hFc q h) hFc (fun u t H1 locs ht hvm hw hB hz1 hk1 hS => ?_)
        obtain ⟨L1, w1, d1, st1, tg1, hi1, mi1, go1⟩ := u
        obtain ⟨f1, hf1, hP1, hK1, hD1⟩ := hB
        rw [ht] at hP1
        cases hw
        obtain ⟨f_1, ef_1⟩ : ∃ z, z = f1 := ⟨_, rfl⟩
        rw [← ef_1] at hf1 hP1 hD1
        clear ef_1 f1
        have hfx_2 := hf1
        obtain ⟨hP, hD⟩ := va_join (wr := []) (w1 := (cx q ca C L f_1 w (upd d x.toNatClampNeg 0) (upd st x.toNatClampNeg (w x.toNatClampNeg)) tg hi mi go)) hP hD [0, 1, 2, 3, 4, 5, 6, 7, 8, 9, 10, 11] [] rfl rfl (by decide) (by decide) hk1 hFc hP1 hD1
        generalize H1 = H at hP hS ⊢
        replace hP : va_P (dC, dI) vwCl (cx q ca C L f_1 w (upd d x.toNatClampNeg 0) (upd st x.toNatClampNeg (w x.toNatClampNeg)) tg hi mi go) H := hP
        replace hD : va_D A (cx q ca C L f_1 w (upd d x.toNatClampNeg 0) (upd st x.toNatClampNeg (w x.toNatClampNeg)) tg hi mi go) := hD
        refine lv_aload_n hx hb dX1_pageGoes_22 rfl (lv_at hl 0 rfl) ?_
        refine lv_dup hx hb dX1_pageGoes_23 rfl ?_
        refine va_get (D := (dC, dI)) (ci := 1) (v := .int go) (C := RX1) (T := TX1) (N := 12) hx hb hts hwX1 hown hK hP 0 rfl rfl 11 (by decide) (hts (.fieldLink RX1 64 "ArcCache" "goneCount" "I") (by decide +kernel)) (fun _ h9 => h9) rfl dX1_pageGoes_24 ?_
        refine lv_iconst (v := nI 1) hx hb dX1_pageGoes_27 (by decide) ?_
        refine lv_iadd hx hb dX1_pageGoes_28 ?_
        refine va_put (D := (dC, dI)) (ci := 1) (v := .int (go + (nI 1))) (ty := .int) (C := RX1) (T := TX1) (N := 12) hx hb hts hwX1 tyX1 tyX1_ok nmX1 hown hK hP hD hS 0 rfl rfl 11 (by decide) (hts (.fieldLink RX1 64 "ArcCache" "goneCount" "I") (by decide +kernel)) (fun _ h9 => h9) rfl (by decide +kernel) rfl rfl (Nat.le_of_ble_eq_true rfl) dX1_pageGoes_29 (fun H locs hP hD hS => ?_)
        replace hP : va_P (dC, dI) vwCl (cx q ca C L f_1 w (upd d x.toNatClampNeg 0) (upd st x.toNatClampNeg (w x.toNatClampNeg)) tg hi mi (go + (nI 1))) H := hP
        replace hD : va_D A (cx q ca C L f_1 w (upd d x.toNatClampNeg 0) (upd st x.toNatClampNeg (w x.toNatClampNeg)) tg hi mi (go + (nI 1))) := hD
        exact W.vret hx hb hr (fun t ht hW => ⟨⟨(L, w, upd d x.toNatClampNeg 0, upd st x.toNatClampNeg (w x.toNatClampNeg), tg, hi, mi, go + (nI 1)), rfl, by rw [ap_cs_1 c_14]; rfl, f_1, hfx_2, by rw [ht]; exact hP, va_K.moved hW.alike hK, hD⟩, hS.F ht⟩) hS.2.2 dX1_pageGoes_32
    · skip
      replace c_4 : 1 = 0 := (nI_eq (a := 1) (b := 0) (by omega) (by omega)).mp c_4
      exact absurd c_4 (by omega)
set_option maxHeartbeats 4000000 in
set_option maxRecDepth 100000 in
theorem c_X_pageGoes0 (l : Launch) (dC : Nat → ClassId) (dI : Nat → Nat → Nat) (q : Nat → Nat) (ca : Nat → ClassId) (C : Nat) (L : Nat → List Int32) (f : Nat → Nat → Int32) (w d st : Nat → Int32) (tg : Nat) (hi mi go : Int32)  (sz : Nat) (hf : fx_ok f L) : Met l yX1_pageGoes wsX1_pageGoes ({ frames := 1, cells := 0, slots := 0, locals := 20 }) (va_Pc [.ref (q 0), .int (-1)] (fun U => U.heap.size = sz ∧ va_P (dC, dI) vwCl (cx q ca C L f w d st tg hi mi go) U.heap ∧ va_K (dC, dI) vwCl (kx ca) U ∧ va_D (fun _ => True) (cx q ca C L f w d st tg hi mi go))) (va_Qv (fun (u : ap_U) => u = (L, w, d, st, tg, hi, mi, go)) (at_X dC dI (va_A (cx q ca C L f w d st tg hi mi go) sz) q ca C) (va_A (cx q ca C L f w d st tg hi mi go) sz)) 0 0 (va_A (cx q ca C L f w d st tg hi mi go) sz) := by
  refine Met.ofW (cc := cX1_pageGoes) (maxL := 2) (ret := none) (by decide) rfl ?_
  intro p e s m args below meth c s₁ B hml hv
  obtain ⟨rfl, hsz, hP, hK, hD0⟩ := hv
  have hx := B.exec
  have hb := B.bytes
  have hr := B.returns
  have hts := atoms_spec (ws := wsX1_pageGoes) B.pre
  have hown : s.vm.findClass RX1 = some m.cls := findClass_of_methodNamed B.named
  have hlocks := B.notSynchronized
  have hwX1 : ∀ w ∈ u_ws RX1 TX1 12, w ∈ wsX1_pageGoes := by decide +kernel
  subst hsz
  have hD := hD0.self (sz := s.heap.size)
  generalize hAe : va_A (cx q ca C L f w d st tg hi mi go) s.heap.size = A at hD ⊢
  have hA : ∀ q : Nat, s.heap.size ≤ q → A q := fun q h => by rw [← hAe]; exact Or.inr h
  have hS0 : ∀ H, s.heap = H → va_S A s.heap H [] := fun H h => by subst h; exact va_S.rf
  have hl := lv_entry ([.ref (q 0), .int (-1)]) (n := 2) (Nat.le_of_ble_eq_true rfl)
  rw [lg_entry_eq]
  generalize (lg_sl ([.ref (q 0), .int (-1)]) ++ List.replicate (2 - (lg_sl ([.ref (q 0), .int (-1)])).length) Slot.unset).toArray = ls at hl ⊢
  have hl : lv_has ls 2 [(0, .ref (q 0)), (1, .int (-1))] := hl
  generalize hHe : s.heap = H at hP ⊢
  have hS := hS0 H hHe
  refine lv_iload_n hx hb dX1_pageGoes_0 rfl (lv_at hl 1 rfl) ?_
  have hPc := hP.sub (ws' := []) [] rfl
  have hDc := hD.sub (ws' := []) [] (by decide) rfl
  have hFc := va_free (wc := []) hD hS hA [] rfl
  refine va_calli (va_runS (As := [.int (-1 : Int32)]) (rest := []) ⟨hx, hb, hml, hown, hts⟩ (c_X_isAddress l dC dI (-1 : Int32) H.size) (va_cwS 1 hts gX1_pageGoes_X1_isAddress rfl rfl rfl (by decide +kernel) ⟨Nat.le_of_ble_eq_true rfl, Nat.le_of_ble_eq_true rfl⟩) ⟨fun a U g mk q => by obtain ⟨q0, q1⟩ := q; exact ⟨q0, q1⟩, fun U hU hW => ⟨rfl, by show U.heap.size = _; rw [hU]⟩⟩ rfl rfl hl.1 rfl (lv_room (Nat.le_of_ble_eq_true rfl)) dX1_pageGoes_1 ⟨Nat.le_of_ble_eq_true rfl, Nat.le_of_ble_eq_true rfl⟩) hS (fun q _ h => hFc q h) hFc (fun r u t H1 locs ht hvm hw hB hz1 hk1 hS => ?_)
  obtain ⟨hP, hD⟩ := va_join (wr := (cx q ca C L f w d st tg hi mi go)) (w1 := []) hP hD [] [0, 1, 2, 3, 4, 5, 6, 7, 8, 9, 10, 11] rfl rfl (by decide) (by decide) hk1 hFc (fun k q h => by simp at h) ⟨fun i j p q h => by simp at h, fun k q h => by simp at h⟩
  generalize H1 = H at hP hS ⊢
  replace hP : va_P (dC, dI) vwCl (cx q ca C L f w d st tg hi mi go) H := hP
  replace hD : va_D A (cx q ca C L f w d st tg hi mi go) := hD
  by_cases hyes9 : (-1 : Int32) < 0 ∨ nI 64 ≤ (-1 : Int32)
  · rw [if_pos hyes9] at hw
    subst hw
    refine lv_if_ne (tgt := 8) hx hb dX1_pageGoes_4 (by decide) (fun c_4 => ?_) (fun c_4 => ?_)
    · skip
      replace c_4 : ¬ (0 = 0) := fun h9 => c_4 ((nI_eq (a := 0) (b := 0) (by omega) (by omega)).mpr h9)
      exact absurd c_4 (by omega)
    · skip
      replace c_4 : 0 = 0 := (nI_eq (a := 0) (b := 0) (by omega) (by omega)).mp c_4
      exact W.vret hx hb hr (fun t ht hW => ⟨⟨(L, w, d, st, tg, hi, mi, go), rfl, rfl, f, hf, by rw [ht]; exact hP, va_K.moved hW.alike hK, hD⟩, hS.F ht⟩) hS.2.2 dX1_pageGoes_7
  · have hno9 := hyes9
    rw [if_neg hno9] at hw
    subst hw
    exact absurd (Or.inl (by decide)) hno9
set_option maxHeartbeats 4000000 in
set_option maxRecDepth 100000 in
theorem c_X_move1 (l : Launch) (dC : Nat → ClassId) (dI : Nat → Nat → Nat) (q : Nat → Nat) (ca : Nat → ClassId) (C : Nat) (L : Nat → List Int32) (f : Nat → Nat → Int32) (w d st : Nat → Int32) (tg : Nat) (hi mi go : Int32) (x : Int32) (sz : Nat) (hf : fx_ok f L) (hI : ap_inv L) (hz : ap_tot L ≤ 48) (hx64 : vp_in x 64) : Met l yX1_moveToCameAgain wsX1_moveToCameAgain ({ frames := 2, cells := 0, slots := 0, locals := 82 }) (va_Pc [.ref (q 0), .int x, .int (nI 1)] (fun U => U.heap.size = sz ∧ va_P (dC, dI) vwCl (cx q ca C L f w d st tg hi mi go) U.heap ∧ va_K (dC, dI) vwCl (kx ca) U ∧ va_D (fun _ => True) (cx q ca C L f w d st tg hi mi go) ∧ va_Nw (.methodLinkNest RX0 23 yX1_isAddress "ArcCache") U)) (va_Qv (fun (u : ap_U) => u = (ap_mv L x 1 2, w, d, st, tg, hi, mi, go)) (at_X dC dI (va_A (cx q ca C L f w d st tg hi mi go) sz) q ca C) (va_A (cx q ca C L f w d st tg hi mi go) sz)) 0 0 (va_A (cx q ca C L f w d st tg hi mi go) sz) := by
  refine Met.ofW (cc := cX1_moveToCameAgain) (maxL := 3) (ret := none) (by decide) rfl ?_
  intro p e s m args below meth c s₁ B hml hv
  obtain ⟨rfl, hsz, hP, hK, hD0, hN⟩ := hv
  have hx := B.exec
  have hb := B.bytes
  have hr := B.returns
  have hts := atoms_spec (ws := wsX1_moveToCameAgain) B.pre
  have hown : s.vm.findClass RX1 = some m.cls := findClass_of_methodNamed B.named
  have hlocks := B.notSynchronized
  have hwX1 : ∀ w ∈ u_ws RX1 TX1 12, w ∈ wsX1_moveToCameAgain := by decide +kernel
  subst hsz
  have hD := hD0.self (sz := s.heap.size)
  generalize hAe : va_A (cx q ca C L f w d st tg hi mi go) s.heap.size = A at hD ⊢
  have hA : ∀ q : Nat, s.heap.size ≤ q → A q := fun q h => by rw [← hAe]; exact Or.inr h
  have hS0 : ∀ H, s.heap = H → va_S A s.heap H [] := fun H h => by subst h; exact va_S.rf
  have hl := lv_entry ([.ref (q 0), .int x, .int (nI 1)]) (n := 3) (Nat.le_of_ble_eq_true rfl)
  rw [lg_entry_eq]
  generalize (lg_sl ([.ref (q 0), .int x, .int (nI 1)]) ++ List.replicate (3 - (lg_sl ([.ref (q 0), .int x, .int (nI 1)])).length) Slot.unset).toArray = ls at hl ⊢
  have hl : lv_has ls 3 [(0, .ref (q 0)), (1, .int x), (2, .int (nI 1))] := hl
  generalize hHe : s.heap = H at hP ⊢
  have hS := hS0 H hHe
  have z1 : (L 1).length ≤ 48 := by unfold ap_tot at hz; omega
  have z2 : (L 2).length ≤ 48 := by unfold ap_tot at hz; omega
  have z3 : (L 3).length ≤ 48 := by unfold ap_tot at hz; omega
  have z4 : (L 4).length ≤ 48 := by unfold ap_tot at hz; omega
  refine lv_aload_n hx hb dX1_moveToCameAgain_0 rfl (lv_at hl 0 rfl) ?_
  refine lv_iload_n hx hb dX1_moveToCameAgain_1 rfl (lv_at hl 2 rfl) ?_
  have hPc := hP.sub (ws' := (cx q ca C L f w d st tg hi mi go)) [0, 1, 2, 3, 4, 5, 6, 7, 8, 9, 10, 11] rfl
  have hDc := hD.sub (ws' := (cx q ca C L f w d st tg hi mi go)) [0, 1, 2, 3, 4, 5, 6, 7, 8, 9, 10, 11] (by decide) rfl
  have hKc := hK.sub (tys' := (kx ca)) [0, 1, 2, 3, 4, 5, 6] rfl
  have hFc := va_free (wc := (cx q ca C L f w d st tg hi mi go)) hD hS hA [0, 1, 2, 3, 4, 5, 6, 7, 8, 9, 10, 11] rfl
  refine va_callr (va_runV (As := [.int (nI 1)]) (rest := []) ⟨hx, hb, hml, hown, hts⟩ (c_X_listNumbered l dC dI q ca C L f w d st tg hi mi go 1 H.size (by decide) (by decide) hf) (cwV 1 hts gX1_moveToCameAgain_X1_listNumbered rfl rfl rfl (by decide +kernel) ⟨Nat.le_of_ble_eq_true rfl, Nat.le_of_ble_eq_true rfl⟩) ⟨fun a U g mk q => by obtain ⟨q0, q1, qP, qK, qD⟩ := q; exact ⟨q0, q1, qP, va_K.moved (u := U) (U := U.calling g mk a) (Vm.Alike.refl U.vm) qK, qD⟩, va_recv hKc hPc (ci := 1) (q0 := 0) rfl rfl, fun U hU hW => ⟨rfl, by rw [hU], by rw [hU]; exact hPc, va_K.moved hW.alike hKc, hDc.weaken (fun _ _ _ _ => trivial)⟩⟩ rfl rfl hl.1 rfl (lv_room (Nat.le_of_ble_eq_true rfl)) dX1_moveToCameAgain_2 ⟨Nat.le_of_ble_eq_true rfl, Nat.le_of_ble_eq_true rfl⟩) hS (fun q _ h => hFc q h) hFc (fun u ra t H1 locs ht hvm hw hB hz1 hk1 hS => ?_)
  obtain ⟨era, f1, hf1, hP1, hK1, hD1⟩ := hB
  rw [ht] at hP1
  subst era
  obtain ⟨f_1, ef_1⟩ : ∃ z, z = f1 := ⟨_, rfl⟩
  rw [← ef_1] at hf1 hP1 hD1
  clear ef_1 f1
  have hfx_2 := hf1
  obtain ⟨hP, hD⟩ := va_join (wr := []) (w1 := (cx q ca C L f_1 w d st tg hi mi go)) hP hD [0, 1, 2, 3, 4, 5, 6, 7, 8, 9, 10, 11] [] rfl rfl (by decide) (by decide) hk1 hFc hP1 hD1
  generalize H1 = H at hP hS ⊢
  replace hP : va_P (dC, dI) vwCl (cx q ca C L f_1 w d st tg hi mi go) H := hP
  replace hD : va_D A (cx q ca C L f_1 w d st tg hi mi go) := hD
  refine lv_iload_n hx hb dX1_moveToCameAgain_5 rfl (lv_at hl 1 rfl) ?_
  have hPc := hP.sub (ws' := (cal (q 1) (q 5) (ca 1) ((L 1).length) (f_1 1))) [1, 2] rfl
  have hDc := hD.sub (ws' := (cal (q 1) (q 5) (ca 1) ((L 1).length) (f_1 1))) [1, 2] (by decide) rfl
  have hKc := hK.sub (tys' := (kal (ca 1))) [0] rfl
  have hFc := va_free (wc := (cal (q 1) (q 5) (ca 1) ((L 1).length) (f_1 1))) hD hS hA [1, 2] rfl
  refine va_callv (va_runV (As := [.int x]) (rest := []) ⟨hx, hb, hml, hown, hts⟩ (c_A_remove l dC dI (q 1) (q 5) (ca 1) (L 1) (f_1 1) x H.size (Nat.le_trans z1 (by decide)) (hfx_2 1 (by decide) (by decide)) (hI.1 1)) (cwV 1 hts gX1_moveToCameAgain_X0_remove rfl rfl rfl (by decide +kernel) ⟨Nat.le_of_ble_eq_true rfl, Nat.le_of_ble_eq_true rfl⟩) ⟨fun a U g mk q => by obtain ⟨q0, q1, qP, qK, qD⟩ := q; exact ⟨q0, q1, qP, va_K.moved (u := U) (U := U.calling g mk a) (Vm.Alike.refl U.vm) qK, qD⟩, va_recv hKc hPc (ci := 0) (q0 := 0) rfl rfl, fun U hU hW => ⟨rfl, by rw [hU], by rw [hU]; exact hPc, va_K.moved hW.alike hKc, hDc.weaken (fun _ _ _ _ => trivial)⟩⟩ rfl rfl hl.1 rfl (lv_room (Nat.le_of_ble_eq_true rfl)) dX1_moveToCameAgain_6 ⟨Nat.le_of_ble_eq_true rfl, Nat.le_of_ble_eq_true rfl⟩) hS (fun q _ h => hFc q h) hFc (fun u t H1 locs ht hvm hw hB hz1 hk1 hS => ?_)
  obtain ⟨n1, f1⟩ := u
  obtain ⟨hP1, hK1, hD1⟩ := hB
  rw [ht] at hP1
  try dsimp only at hw hP1 hD1
  obtain ⟨hn9, hf9⟩ := hw
  subst hn9
  obtain ⟨f_3, ef_3⟩ : ∃ z, z = f1 := ⟨_, rfl⟩
  rw [← ef_3] at hf9 hP1 hD1
  clear ef_3 f1
  have hfx_4 := fx_up (k := 1) hfx_2 hf9
  obtain ⟨hP, hD⟩ := va_join (wr := [(q 0, .inr (1, [.int (nI C), .ref (q 1), .ref (q 2), .ref (q 3), .ref (q 4), .ref (q 9), .ref (q 10), .ref (q 11), .int (nI tg), .int hi, .int mi, .int go])), (q 2, .inr (0, [.ref (q 6), .int (nI ((L 2).length))])), (q 6, .inl (ca 2, 64, .inl (f_1 2))), (q 3, .inr (0, [.ref (q 7), .int (nI ((L 3).length))])), (q 7, .inl (ca 3, 64, .inl (f_1 3))), (q 4, .inr (0, [.ref (q 8), .int (nI ((L 4).length))])), (q 8, .inl (ca 4, 64, .inl (f_1 4))), (q 9, .inl (ca 5, 64, .inl w)), (q 10, .inl (ca 6, 64, .inl d)), (q 11, .inl (ca 7, 64, .inl st))]) (w1 := (cal (q 1) (q 5) (ca 1) ((ap_rm x (L 1)).length) f_3)) hP hD [1, 2] [0, 3, 4, 5, 6, 7, 8, 9, 10, 11] rfl rfl (by decide) (by decide) hk1 hFc hP1 hD1
  generalize H1 = H at hP hS ⊢
  replace hP := hP.sub (ws' := (cx q ca C (va_up L 1 (ap_rm x (L 1))) (va_up f_1 1 f_3) w d st tg hi mi go)) [0, 10, 11, 1, 2, 3, 4, 5, 6, 7, 8, 9] rfl
  replace hD := hD.sub (ws' := (cx q ca C (va_up L 1 (ap_rm x (L 1))) (va_up f_1 1 f_3) w d st tg hi mi go)) [0, 10, 11, 1, 2, 3, 4, 5, 6, 7, 8, 9] (by decide) rfl
  refine lv_aload_n hx hb dX1_moveToCameAgain_9 rfl (lv_at hl 0 rfl) ?_
  refine va_get (D := (dC, dI)) (ci := 1) (v := .ref (q 2)) (C := RX1) (T := TX1) (N := 12) hx hb hts hwX1 hown hK hP 0 rfl rfl 2 (by decide) (hts (.fieldLink RX1 16 "ArcCache" "cameAgain" "LArcCache$AddressList;") (by decide +kernel)) (fun _ h9 => h9) rfl dX1_moveToCameAgain_10 ?_
  refine lv_iload_n hx hb dX1_moveToCameAgain_13 rfl (lv_at hl 1 rfl) ?_
  have hln9 : (L 2).length < 64 := by omega
  have hPc := hP.sub (ws' := (cal (q 2) (q 6) (ca 2) (((va_up L 1 (ap_rm x (L 1))) 2).length) ((va_up f_1 1 f_3) 2))) [3, 4] rfl
  have hDc := hD.sub (ws' := (cal (q 2) (q 6) (ca 2) (((va_up L 1 (ap_rm x (L 1))) 2).length) ((va_up f_1 1 f_3) 2))) [3, 4] (by decide) rfl
  have hKc := hK.sub (tys' := (kal (ca 2))) [1] rfl
  have hFc := va_free (wc := (cal (q 2) (q 6) (ca 2) (((va_up L 1 (ap_rm x (L 1))) 2).length) ((va_up f_1 1 f_3) 2))) hD hS hA [3, 4] rfl
  refine va_callv (va_runV (As := [.int x]) (rest := []) ⟨hx, hb, hml, hown, hts⟩ (c_A_addNewest l dC dI (q 2) (q 6) (ca 2) ((va_up L 1 (ap_rm x (L 1))) 2) ((va_up f_1 1 f_3) 2) x H.size hln9 (hfx_4 2 (by decide) (by decide))) (cwV 1 hts gX1_moveToCameAgain_X0_addNewest rfl rfl rfl (by decide +kernel) ⟨Nat.le_of_ble_eq_true rfl, Nat.le_of_ble_eq_true rfl⟩) ⟨fun a U g mk q => by obtain ⟨q0, q1, qP, qK, qD, qN⟩ := q; exact ⟨q0, q1, qP, va_K.moved (u := U) (U := U.calling g mk a) (Vm.Alike.refl U.vm) qK, qD, va_tabs rfl (rfl : U.vm = (U.calling g mk a).vm) qN⟩, va_recv hKc hPc (ci := 0) (q0 := 0) rfl rfl, fun U hU hW => ⟨rfl, by rw [hU], by rw [hU]; exact hPc, va_K.moved hW.alike hKc, hDc.weaken (fun _ _ _ _ => trivial), va_Nw.warmM hW hN⟩⟩ rfl rfl hl.1 rfl (lv_room (Nat.le_of_ble_eq_true rfl)) dX1_moveToCameAgain_14 ⟨Nat.le_of_ble_eq_true rfl, Nat.le_of_ble_eq_true rfl⟩) hS (fun q _ h => hFc q h) hFc (fun u t H1 locs ht hvm hw hB hz1 hk1 hS => ?_)
  obtain ⟨n1, f1⟩ := u
  obtain ⟨hP1, hK1, hD1⟩ := hB
  rw [ht] at hP1
  try dsimp only at hw hP1 hD1
  rw [al_add_in hx64] at hw
  obtain ⟨hn9, hf9⟩ := hw
  subst hn9
  obtain ⟨f_5, ef_5⟩ : ∃ z, z = f1 := ⟨_, rfl⟩
  rw [← ef_5] at hf9 hP1 hD1
  clear ef_5 f1
  have hfx_6 := fx_up (k := 2) hfx_4 hf9
  obtain ⟨hP, hD⟩ := va_join (wr := [(q 0, .inr (1, [.int (nI C), .ref (q 1), .ref (q 2), .ref (q 3), .ref (q 4), .ref (q 9), .ref (q 10), .ref (q 11), .int (nI tg), .int hi, .int mi, .int go])), (q 1, .inr (0, [.ref (q 5), .int (nI (((va_up L 1 (ap_rm x (L 1))) 1).length))])), (q 5, .inl (ca 1, 64, .inl ((va_up f_1 1 f_3) 1))), (q 3, .inr (0, [.ref (q 7), .int (nI (((va_up L 1 (ap_rm x (L 1))) 3).length))])), (q 7, .inl (ca 3, 64, .inl ((va_up f_1 1 f_3) 3))), (q 4, .inr (0, [.ref (q 8), .int (nI (((va_up L 1 (ap_rm x (L 1))) 4).length))])), (q 8, .inl (ca 4, 64, .inl ((va_up f_1 1 f_3) 4))), (q 9, .inl (ca 5, 64, .inl w)), (q 10, .inl (ca 6, 64, .inl d)), (q 11, .inl (ca 7, 64, .inl st))]) (w1 := (cal (q 2) (q 6) (ca 2) ((x :: (va_up L 1 (ap_rm x (L 1))) 2).length) f_5)) hP hD [3, 4] [0, 1, 2, 5, 6, 7, 8, 9, 10, 11] rfl rfl (by decide) (by decide) hk1 hFc hP1 hD1
  generalize H1 = H at hP hS ⊢
  replace hP := hP.sub (ws' := (cx q ca C (va_up (va_up L 1 (ap_rm x (L 1))) 2 (x :: (va_up L 1 (ap_rm x (L 1))) 2)) (va_up (va_up f_1 1 f_3) 2 f_5) w d st tg hi mi go)) [0, 1, 2, 10, 11, 3, 4, 5, 6, 7, 8, 9] rfl
  replace hD := hD.sub (ws' := (cx q ca C (va_up (va_up L 1 (ap_rm x (L 1))) 2 (x :: (va_up L 1 (ap_rm x (L 1))) 2)) (va_up (va_up f_1 1 f_3) 2 f_5) w d st tg hi mi go)) [0, 1, 2, 10, 11, 3, 4, 5, 6, 7, 8, 9] (by decide) rfl
  exact W.vret hx hb hr (fun t ht hW => ⟨⟨(ap_mv L x 1 2, w, d, st, tg, hi, mi, go), rfl, rfl, va_up (va_up f_1 1 f_3) 2 f_5, hfx_6, by rw [ht]; exact hP, va_K.moved hW.alike hK, hD⟩, hS.F ht⟩) hS.2.2 dX1_moveToCameAgain_17
set_option maxHeartbeats 4000000 in
set_option maxRecDepth 100000 in
theorem c_X_move2 (l : Launch) (dC : Nat → ClassId) (dI : Nat → Nat → Nat) (q : Nat → Nat) (ca : Nat → ClassId) (C : Nat) (L : Nat → List Int32) (f : Nat → Nat → Int32) (w d st : Nat → Int32) (tg : Nat) (hi mi go : Int32) (x : Int32) (sz : Nat) (hf : fx_ok f L) (hI : ap_inv L) (hz : ap_tot L ≤ 48) (hx64 : vp_in x 64) : Met l yX1_moveToCameAgain wsX1_moveToCameAgain ({ frames := 2, cells := 0, slots := 0, locals := 82 }) (va_Pc [.ref (q 0), .int x, .int (nI 2)] (fun U => U.heap.size = sz ∧ va_P (dC, dI) vwCl (cx q ca C L f w d st tg hi mi go) U.heap ∧ va_K (dC, dI) vwCl (kx ca) U ∧ va_D (fun _ => True) (cx q ca C L f w d st tg hi mi go) ∧ va_Nw (.methodLinkNest RX0 23 yX1_isAddress "ArcCache") U)) (va_Qv (fun (u : ap_U) => u = (ap_mv L x 2 2, w, d, st, tg, hi, mi, go)) (at_X dC dI (va_A (cx q ca C L f w d st tg hi mi go) sz) q ca C) (va_A (cx q ca C L f w d st tg hi mi go) sz)) 0 0 (va_A (cx q ca C L f w d st tg hi mi go) sz) := by
  refine Met.ofW (cc := cX1_moveToCameAgain) (maxL := 3) (ret := none) (by decide) rfl ?_
  intro p e s m args below meth c s₁ B hml hv
  obtain ⟨rfl, hsz, hP, hK, hD0, hN⟩ := hv
  have hx := B.exec
  have hb := B.bytes
  have hr := B.returns
  have hts := atoms_spec (ws := wsX1_moveToCameAgain) B.pre
  have hown : s.vm.findClass RX1 = some m.cls := findClass_of_methodNamed B.named
  have hlocks := B.notSynchronized
  have hwX1 : ∀ w ∈ u_ws RX1 TX1 12, w ∈ wsX1_moveToCameAgain := by decide +kernel
  subst hsz
  have hD := hD0.self (sz := s.heap.size)
  generalize hAe : va_A (cx q ca C L f w d st tg hi mi go) s.heap.size = A at hD ⊢
  have hA : ∀ q : Nat, s.heap.size ≤ q → A q := fun q h => by rw [← hAe]; exact Or.inr h
  have hS0 : ∀ H, s.heap = H → va_S A s.heap H [] := fun H h => by subst h; exact va_S.rf
  have hl := lv_entry ([.ref (q 0), .int x, .int (nI 2)]) (n := 3) (Nat.le_of_ble_eq_true rfl)
  rw [lg_entry_eq]
  generalize (lg_sl ([.ref (q 0), .int x, .int (nI 2)]) ++ List.replicate (3 - (lg_sl ([.ref (q 0), .int x, .int (nI 2)])).length) Slot.unset).toArray = ls at hl ⊢
  have hl : lv_has ls 3 [(0, .ref (q 0)), (1, .int x), (2, .int (nI 2))] := hl
  generalize hHe : s.heap = H at hP ⊢
  have hS := hS0 H hHe
  have z1 : (L 1).length ≤ 48 := by unfold ap_tot at hz; omega
  have z2 : (L 2).length ≤ 48 := by unfold ap_tot at hz; omega
  have z3 : (L 3).length ≤ 48 := by unfold ap_tot at hz; omega
  have z4 : (L 4).length ≤ 48 := by unfold ap_tot at hz; omega
  refine lv_aload_n hx hb dX1_moveToCameAgain_0 rfl (lv_at hl 0 rfl) ?_
  refine lv_iload_n hx hb dX1_moveToCameAgain_1 rfl (lv_at hl 2 rfl) ?_
  have hPc := hP.sub (ws' := (cx q ca C L f w d st tg hi mi go)) [0, 1, 2, 3, 4, 5, 6, 7, 8, 9, 10, 11] rfl
  have hDc := hD.sub (ws' := (cx q ca C L f w d st tg hi mi go)) [0, 1, 2, 3, 4, 5, 6, 7, 8, 9, 10, 11] (by decide) rfl
  have hKc := hK.sub (tys' := (kx ca)) [0, 1, 2, 3, 4, 5, 6] rfl
  have hFc := va_free (wc := (cx q ca C L f w d st tg hi mi go)) hD hS hA [0, 1, 2, 3, 4, 5, 6, 7, 8, 9, 10, 11] rfl
  refine va_callr (va_runV (As := [.int (nI 2)]) (rest := []) ⟨hx, hb, hml, hown, hts⟩ (c_X_listNumbered l dC dI q ca C L f w d st tg hi mi go 2 H.size (by decide) (by decide) hf) (cwV 1 hts gX1_moveToCameAgain_X1_listNumbered rfl rfl rfl (by decide +kernel) ⟨Nat.le_of_ble_eq_true rfl, Nat.le_of_ble_eq_true rfl⟩) ⟨fun a U g mk q => by obtain ⟨q0, q1, qP, qK, qD⟩ := q; exact ⟨q0, q1, qP, va_K.moved (u := U) (U := U.calling g mk a) (Vm.Alike.refl U.vm) qK, qD⟩, va_recv hKc hPc (ci := 1) (q0 := 0) rfl rfl, fun U hU hW => ⟨rfl, by rw [hU], by rw [hU]; exact hPc, va_K.moved hW.alike hKc, hDc.weaken (fun _ _ _ _ => trivial)⟩⟩ rfl rfl hl.1 rfl (lv_room (Nat.le_of_ble_eq_true rfl)) dX1_moveToCameAgain_2 ⟨Nat.le_of_ble_eq_true rfl, Nat.le_of_ble_eq_true rfl⟩) hS (fun q _ h => hFc q h) hFc (fun u ra t H1 locs ht hvm hw hB hz1 hk1 hS => ?_)
  obtain ⟨era, f1, hf1, hP1, hK1, hD1⟩ := hB
  rw [ht] at hP1
  subst era
  obtain ⟨f_1, ef_1⟩ : ∃ z, z = f1 := ⟨_, rfl⟩
  rw [← ef_1] at hf1 hP1 hD1
  clear ef_1 f1
  have hfx_2 := hf1
  obtain ⟨hP, hD⟩ := va_join (wr := []) (w1 := (cx q ca C L f_1 w d st tg hi mi go)) hP hD [0, 1, 2, 3, 4, 5, 6, 7, 8, 9, 10, 11] [] rfl rfl (by decide) (by decide) hk1 hFc hP1 hD1
  generalize H1 = H at hP hS ⊢
  replace hP : va_P (dC, dI) vwCl (cx q ca C L f_1 w d st tg hi mi go) H := hP
  replace hD : va_D A (cx q ca C L f_1 w d st tg hi mi go) := hD
  refine lv_iload_n hx hb dX1_moveToCameAgain_5 rfl (lv_at hl 1 rfl) ?_
  have hPc := hP.sub (ws' := (cal (q 2) (q 6) (ca 2) ((L 2).length) (f_1 2))) [3, 4] rfl
  have hDc := hD.sub (ws' := (cal (q 2) (q 6) (ca 2) ((L 2).length) (f_1 2))) [3, 4] (by decide) rfl
  have hKc := hK.sub (tys' := (kal (ca 2))) [1] rfl
  have hFc := va_free (wc := (cal (q 2) (q 6) (ca 2) ((L 2).length) (f_1 2))) hD hS hA [3, 4] rfl
  refine va_callv (va_runV (As := [.int x]) (rest := []) ⟨hx, hb, hml, hown, hts⟩ (c_A_remove l dC dI (q 2) (q 6) (ca 2) (L 2) (f_1 2) x H.size (Nat.le_trans z2 (by decide)) (hfx_2 2 (by decide) (by decide)) (hI.1 2)) (cwV 1 hts gX1_moveToCameAgain_X0_remove rfl rfl rfl (by decide +kernel) ⟨Nat.le_of_ble_eq_true rfl, Nat.le_of_ble_eq_true rfl⟩) ⟨fun a U g mk q => by obtain ⟨q0, q1, qP, qK, qD⟩ := q; exact ⟨q0, q1, qP, va_K.moved (u := U) (U := U.calling g mk a) (Vm.Alike.refl U.vm) qK, qD⟩, va_recv hKc hPc (ci := 0) (q0 := 0) rfl rfl, fun U hU hW => ⟨rfl, by rw [hU], by rw [hU]; exact hPc, va_K.moved hW.alike hKc, hDc.weaken (fun _ _ _ _ => trivial)⟩⟩ rfl rfl hl.1 rfl (lv_room (Nat.le_of_ble_eq_true rfl)) dX1_moveToCameAgain_6 ⟨Nat.le_of_ble_eq_true rfl, Nat.le_of_ble_eq_true rfl⟩) hS (fun q _ h => hFc q h) hFc (fun u t H1 locs ht hvm hw hB hz1 hk1 hS => ?_)
  obtain ⟨n1, f1⟩ := u
  obtain ⟨hP1, hK1, hD1⟩ := hB
  rw [ht] at hP1
  try dsimp only at hw hP1 hD1
  obtain ⟨hn9, hf9⟩ := hw
  subst hn9
  obtain ⟨f_3, ef_3⟩ : ∃ z, z = f1 := ⟨_, rfl⟩
  rw [← ef_3] at hf9 hP1 hD1
  clear ef_3 f1
  have hfx_4 := fx_up (k := 2) hfx_2 hf9
  obtain ⟨hP, hD⟩ := va_join (wr := [(q 0, .inr (1, [.int (nI C), .ref (q 1), .ref (q 2), .ref (q 3), .ref (q 4), .ref (q 9), .ref (q 10), .ref (q 11), .int (nI tg), .int hi, .int mi, .int go])), (q 1, .inr (0, [.ref (q 5), .int (nI ((L 1).length))])), (q 5, .inl (ca 1, 64, .inl (f_1 1))), (q 3, .inr (0, [.ref (q 7), .int (nI ((L 3).length))])), (q 7, .inl (ca 3, 64, .inl (f_1 3))), (q 4, .inr (0, [.ref (q 8), .int (nI ((L 4).length))])), (q 8, .inl (ca 4, 64, .inl (f_1 4))), (q 9, .inl (ca 5, 64, .inl w)), (q 10, .inl (ca 6, 64, .inl d)), (q 11, .inl (ca 7, 64, .inl st))]) (w1 := (cal (q 2) (q 6) (ca 2) ((ap_rm x (L 2)).length) f_3)) hP hD [3, 4] [0, 1, 2, 5, 6, 7, 8, 9, 10, 11] rfl rfl (by decide) (by decide) hk1 hFc hP1 hD1
  generalize H1 = H at hP hS ⊢
  replace hP := hP.sub (ws' := (cx q ca C (va_up L 2 (ap_rm x (L 2))) (va_up f_1 2 f_3) w d st tg hi mi go)) [0, 1, 2, 10, 11, 3, 4, 5, 6, 7, 8, 9] rfl
  replace hD := hD.sub (ws' := (cx q ca C (va_up L 2 (ap_rm x (L 2))) (va_up f_1 2 f_3) w d st tg hi mi go)) [0, 1, 2, 10, 11, 3, 4, 5, 6, 7, 8, 9] (by decide) rfl
  refine lv_aload_n hx hb dX1_moveToCameAgain_9 rfl (lv_at hl 0 rfl) ?_
  refine va_get (D := (dC, dI)) (ci := 1) (v := .ref (q 2)) (C := RX1) (T := TX1) (N := 12) hx hb hts hwX1 hown hK hP 0 rfl rfl 2 (by decide) (hts (.fieldLink RX1 16 "ArcCache" "cameAgain" "LArcCache$AddressList;") (by decide +kernel)) (fun _ h9 => h9) rfl dX1_moveToCameAgain_10 ?_
  refine lv_iload_n hx hb dX1_moveToCameAgain_13 rfl (lv_at hl 1 rfl) ?_
  have hln9 : (ap_rm x (L 2)).length < 64 := Nat.lt_of_le_of_lt ap_rm_le (by omega)
  have hPc := hP.sub (ws' := (cal (q 2) (q 6) (ca 2) (((va_up L 2 (ap_rm x (L 2))) 2).length) ((va_up f_1 2 f_3) 2))) [3, 4] rfl
  have hDc := hD.sub (ws' := (cal (q 2) (q 6) (ca 2) (((va_up L 2 (ap_rm x (L 2))) 2).length) ((va_up f_1 2 f_3) 2))) [3, 4] (by decide) rfl
  have hKc := hK.sub (tys' := (kal (ca 2))) [1] rfl
  have hFc := va_free (wc := (cal (q 2) (q 6) (ca 2) (((va_up L 2 (ap_rm x (L 2))) 2).length) ((va_up f_1 2 f_3) 2))) hD hS hA [3, 4] rfl
  refine va_callv (va_runV (As := [.int x]) (rest := []) ⟨hx, hb, hml, hown, hts⟩ (c_A_addNewest l dC dI (q 2) (q 6) (ca 2) ((va_up L 2 (ap_rm x (L 2))) 2) ((va_up f_1 2 f_3) 2) x H.size hln9 (hfx_4 2 (by decide) (by decide))) (cwV 1 hts gX1_moveToCameAgain_X0_addNewest rfl rfl rfl (by decide +kernel) ⟨Nat.le_of_ble_eq_true rfl, Nat.le_of_ble_eq_true rfl⟩) ⟨fun a U g mk q => by obtain ⟨q0, q1, qP, qK, qD, qN⟩ := q; exact ⟨q0, q1, qP, va_K.moved (u := U) (U := U.calling g mk a) (Vm.Alike.refl U.vm) qK, qD, va_tabs rfl (rfl : U.vm = (U.calling g mk a).vm) qN⟩, va_recv hKc hPc (ci := 0) (q0 := 0) rfl rfl, fun U hU hW => ⟨rfl, by rw [hU], by rw [hU]; exact hPc, va_K.moved hW.alike hKc, hDc.weaken (fun _ _ _ _ => trivial), va_Nw.warmM hW hN⟩⟩ rfl rfl hl.1 rfl (lv_room (Nat.le_of_ble_eq_true rfl)) dX1_moveToCameAgain_14 ⟨Nat.le_of_ble_eq_true rfl, Nat.le_of_ble_eq_true rfl⟩) hS (fun q _ h => hFc q h) hFc (fun u t H1 locs ht hvm hw hB hz1 hk1 hS => ?_)
  obtain ⟨n1, f1⟩ := u
  obtain ⟨hP1, hK1, hD1⟩ := hB
  rw [ht] at hP1
  try dsimp only at hw hP1 hD1
  rw [al_add_in hx64] at hw
  obtain ⟨hn9, hf9⟩ := hw
  subst hn9
  obtain ⟨f_5, ef_5⟩ : ∃ z, z = f1 := ⟨_, rfl⟩
  rw [← ef_5] at hf9 hP1 hD1
  clear ef_5 f1
  have hfx_6 := fx_up (k := 2) hfx_4 hf9
  obtain ⟨hP, hD⟩ := va_join (wr := [(q 0, .inr (1, [.int (nI C), .ref (q 1), .ref (q 2), .ref (q 3), .ref (q 4), .ref (q 9), .ref (q 10), .ref (q 11), .int (nI tg), .int hi, .int mi, .int go])), (q 1, .inr (0, [.ref (q 5), .int (nI (((va_up L 2 (ap_rm x (L 2))) 1).length))])), (q 5, .inl (ca 1, 64, .inl ((va_up f_1 2 f_3) 1))), (q 3, .inr (0, [.ref (q 7), .int (nI (((va_up L 2 (ap_rm x (L 2))) 3).length))])), (q 7, .inl (ca 3, 64, .inl ((va_up f_1 2 f_3) 3))), (q 4, .inr (0, [.ref (q 8), .int (nI (((va_up L 2 (ap_rm x (L 2))) 4).length))])), (q 8, .inl (ca 4, 64, .inl ((va_up f_1 2 f_3) 4))), (q 9, .inl (ca 5, 64, .inl w)), (q 10, .inl (ca 6, 64, .inl d)), (q 11, .inl (ca 7, 64, .inl st))]) (w1 := (cal (q 2) (q 6) (ca 2) ((x :: (va_up L 2 (ap_rm x (L 2))) 2).length) f_5)) hP hD [3, 4] [0, 1, 2, 5, 6, 7, 8, 9, 10, 11] rfl rfl (by decide) (by decide) hk1 hFc hP1 hD1
  generalize H1 = H at hP hS ⊢
  replace hP := hP.sub (ws' := (cx q ca C (va_up (va_up L 2 (ap_rm x (L 2))) 2 (x :: (va_up L 2 (ap_rm x (L 2))) 2)) (va_up (va_up f_1 2 f_3) 2 f_5) w d st tg hi mi go)) [0, 1, 2, 10, 11, 3, 4, 5, 6, 7, 8, 9] rfl
  replace hD := hD.sub (ws' := (cx q ca C (va_up (va_up L 2 (ap_rm x (L 2))) 2 (x :: (va_up L 2 (ap_rm x (L 2))) 2)) (va_up (va_up f_1 2 f_3) 2 f_5) w d st tg hi mi go)) [0, 1, 2, 10, 11, 3, 4, 5, 6, 7, 8, 9] (by decide) rfl
  exact W.vret hx hb hr (fun t ht hW => ⟨⟨(ap_mv L x 2 2, w, d, st, tg, hi, mi, go), rfl, rfl, va_up (va_up f_1 2 f_3) 2 f_5, hfx_6, by rw [ht]; exact hP, va_K.moved hW.alike hK, hD⟩, hS.F ht⟩) hS.2.2 dX1_moveToCameAgain_17
set_option maxHeartbeats 4000000 in
set_option maxRecDepth 100000 in
theorem c_X_move3 (l : Launch) (dC : Nat → ClassId) (dI : Nat → Nat → Nat) (q : Nat → Nat) (ca : Nat → ClassId) (C : Nat) (L : Nat → List Int32) (f : Nat → Nat → Int32) (w d st : Nat → Int32) (tg : Nat) (hi mi go : Int32) (x : Int32) (sz : Nat) (hf : fx_ok f L) (hI : ap_inv L) (hz : ap_tot L ≤ 48) (hx64 : vp_in x 64) : Met l yX1_moveToCameAgain wsX1_moveToCameAgain ({ frames := 2, cells := 0, slots := 0, locals := 82 }) (va_Pc [.ref (q 0), .int x, .int (nI 3)] (fun U => U.heap.size = sz ∧ va_P (dC, dI) vwCl (cx q ca C L f w d st tg hi mi go) U.heap ∧ va_K (dC, dI) vwCl (kx ca) U ∧ va_D (fun _ => True) (cx q ca C L f w d st tg hi mi go) ∧ va_Nw (.methodLinkNest RX0 23 yX1_isAddress "ArcCache") U)) (va_Qv (fun (u : ap_U) => u = (ap_mv L x 3 2, w, d, st, tg, hi, mi, go)) (at_X dC dI (va_A (cx q ca C L f w d st tg hi mi go) sz) q ca C) (va_A (cx q ca C L f w d st tg hi mi go) sz)) 0 0 (va_A (cx q ca C L f w d st tg hi mi go) sz) := by
  refine Met.ofW (cc := cX1_moveToCameAgain) (maxL := 3) (ret := none) (by decide) rfl ?_
  intro p e s m args below meth c s₁ B hml hv
  obtain ⟨rfl, hsz, hP, hK, hD0, hN⟩ := hv
  have hx := B.exec
  have hb := B.bytes
  have hr := B.returns
  have hts := atoms_spec (ws := wsX1_moveToCameAgain) B.pre
  have hown : s.vm.findClass RX1 = some m.cls := findClass_of_methodNamed B.named
  have hlocks := B.notSynchronized
  have hwX1 : ∀ w ∈ u_ws RX1 TX1 12, w ∈ wsX1_moveToCameAgain := by decide +kernel
  subst hsz
  have hD := hD0.self (sz := s.heap.size)
  generalize hAe : va_A (cx q ca C L f w d st tg hi mi go) s.heap.size = A at hD ⊢
  have hA : ∀ q : Nat, s.heap.size ≤ q → A q := fun q h => by rw [← hAe]; exact Or.inr h
  have hS0 : ∀ H, s.heap = H → va_S A s.heap H [] := fun H h => by subst h; exact va_S.rf
  have hl := lv_entry ([.ref (q 0), .int x, .int (nI 3)]) (n := 3) (Nat.le_of_ble_eq_true rfl)
  rw [lg_entry_eq]
  generalize (lg_sl ([.ref (q 0), .int x, .int (nI 3)]) ++ List.replicate (3 - (lg_sl ([.ref (q 0), .int x, .int (nI 3)])).length) Slot.unset).toArray = ls at hl ⊢
  have hl : lv_has ls 3 [(0, .ref (q 0)), (1, .int x), (2, .int (nI 3))] := hl
  generalize hHe : s.heap = H at hP ⊢
  have hS := hS0 H hHe
  have z1 : (L 1).length ≤ 48 := by unfold ap_tot at hz; omega
  have z2 : (L 2).length ≤ 48 := by unfold ap_tot at hz; omega
  have z3 : (L 3).length ≤ 48 := by unfold ap_tot at hz; omega
  have z4 : (L 4).length ≤ 48 := by unfold ap_tot at hz; omega
  refine lv_aload_n hx hb dX1_moveToCameAgain_0 rfl (lv_at hl 0 rfl) ?_
  refine lv_iload_n hx hb dX1_moveToCameAgain_1 rfl (lv_at hl 2 rfl) ?_
  have hPc := hP.sub (ws' := (cx q ca C L f w d st tg hi mi go)) [0, 1, 2, 3, 4, 5, 6, 7, 8, 9, 10, 11] rfl
  have hDc := hD.sub (ws' := (cx q ca C L f w d st tg hi mi go)) [0, 1, 2, 3, 4, 5, 6, 7, 8, 9, 10, 11] (by decide) rfl
  have hKc := hK.sub (tys' := (kx ca)) [0, 1, 2, 3, 4, 5, 6] rfl
  have hFc := va_free (wc := (cx q ca C L f w d st tg hi mi go)) hD hS hA [0, 1, 2, 3, 4, 5, 6, 7, 8, 9, 10, 11] rfl
  refine va_callr (va_runV (As := [.int (nI 3)]) (rest := []) ⟨hx, hb, hml, hown, hts⟩ (c_X_listNumbered l dC dI q ca C L f w d st tg hi mi go 3 H.size (by decide) (by decide) hf) (cwV 1 hts gX1_moveToCameAgain_X1_listNumbered rfl rfl rfl (by decide +kernel) ⟨Nat.le_of_ble_eq_true rfl, Nat.le_of_ble_eq_true rfl⟩) ⟨fun a U g mk q => by obtain ⟨q0, q1, qP, qK, qD⟩ := q; exact ⟨q0, q1, qP, va_K.moved (u := U) (U := U.calling g mk a) (Vm.Alike.refl U.vm) qK, qD⟩, va_recv hKc hPc (ci := 1) (q0 := 0) rfl rfl, fun U hU hW => ⟨rfl, by rw [hU], by rw [hU]; exact hPc, va_K.moved hW.alike hKc, hDc.weaken (fun _ _ _ _ => trivial)⟩⟩ rfl rfl hl.1 rfl (lv_room (Nat.le_of_ble_eq_true rfl)) dX1_moveToCameAgain_2 ⟨Nat.le_of_ble_eq_true rfl, Nat.le_of_ble_eq_true rfl⟩) hS (fun q _ h => hFc q h) hFc (fun u ra t H1 locs ht hvm hw hB hz1 hk1 hS => ?_)
  obtain ⟨era, f1, hf1, hP1, hK1, hD1⟩ := hB
  rw [ht] at hP1
  subst era
  obtain ⟨f_1, ef_1⟩ : ∃ z, z = f1 := ⟨_, rfl⟩
  rw [← ef_1] at hf1 hP1 hD1
  clear ef_1 f1
  have hfx_2 := hf1
  obtain ⟨hP, hD⟩ := va_join (wr := []) (w1 := (cx q ca C L f_1 w d st tg hi mi go)) hP hD [0, 1, 2, 3, 4, 5, 6, 7, 8, 9, 10, 11] [] rfl rfl (by decide) (by decide) hk1 hFc hP1 hD1
  generalize H1 = H at hP hS ⊢
  replace hP : va_P (dC, dI) vwCl (cx q ca C L f_1 w d st tg hi mi go) H := hP
  replace hD : va_D A (cx q ca C L f_1 w d st tg hi mi go) := hD
  refine lv_iload_n hx hb dX1_moveToCameAgain_5 rfl (lv_at hl 1 rfl) ?_
  have hPc := hP.sub (ws' := (cal (q 3) (q 7) (ca 3) ((L 3).length) (f_1 3))) [5, 6] rfl
  have hDc := hD.sub (ws' := (cal (q 3) (q 7) (ca 3) ((L 3).length) (f_1 3))) [5, 6] (by decide) rfl
  have hKc := hK.sub (tys' := (kal (ca 3))) [2] rfl
  have hFc := va_free (wc := (cal (q 3) (q 7) (ca 3) ((L 3).length) (f_1 3))) hD hS hA [5, 6] rfl
  refine va_callv (va_runV (As := [.int x]) (rest := []) ⟨hx, hb, hml, hown, hts⟩ (c_A_remove l dC dI (q 3) (q 7) (ca 3) (L 3) (f_1 3) x H.size (Nat.le_trans z3 (by decide)) (hfx_2 3 (by decide) (by decide)) (hI.1 3)) (cwV 1 hts gX1_moveToCameAgain_X0_remove rfl rfl rfl (by decide +kernel) ⟨Nat.le_of_ble_eq_true rfl, Nat.le_of_ble_eq_true rfl⟩) ⟨fun a U g mk q => by obtain ⟨q0, q1, qP, qK, qD⟩ := q; exact ⟨q0, q1, qP, va_K.moved (u := U) (U := U.calling g mk a) (Vm.Alike.refl U.vm) qK, qD⟩, va_recv hKc hPc (ci := 0) (q0 := 0) rfl rfl, fun U hU hW => ⟨rfl, by rw [hU], by rw [hU]; exact hPc, va_K.moved hW.alike hKc, hDc.weaken (fun _ _ _ _ => trivial)⟩⟩ rfl rfl hl.1 rfl (lv_room (Nat.le_of_ble_eq_true rfl)) dX1_moveToCameAgain_6 ⟨Nat.le_of_ble_eq_true rfl, Nat.le_of_ble_eq_true rfl⟩) hS (fun q _ h => hFc q h) hFc (fun u t H1 locs ht hvm hw hB hz1 hk1 hS => ?_)
  obtain ⟨n1, f1⟩ := u
  obtain ⟨hP1, hK1, hD1⟩ := hB
  rw [ht] at hP1
  try dsimp only at hw hP1 hD1
  obtain ⟨hn9, hf9⟩ := hw
  subst hn9
  obtain ⟨f_3, ef_3⟩ : ∃ z, z = f1 := ⟨_, rfl⟩
  rw [← ef_3] at hf9 hP1 hD1
  clear ef_3 f1
  have hfx_4 := fx_up (k := 3) hfx_2 hf9
  obtain ⟨hP, hD⟩ := va_join (wr := [(q 0, .inr (1, [.int (nI C), .ref (q 1), .ref (q 2), .ref (q 3), .ref (q 4), .ref (q 9), .ref (q 10), .ref (q 11), .int (nI tg), .int hi, .int mi, .int go])), (q 1, .inr (0, [.ref (q 5), .int (nI ((L 1).length))])), (q 5, .inl (ca 1, 64, .inl (f_1 1))), (q 2, .inr (0, [.ref (q 6), .int (nI ((L 2).length))])), (q 6, .inl (ca 2, 64, .inl (f_1 2))), (q 4, .inr (0, [.ref (q 8), .int (nI ((L 4).length))])), (q 8, .inl (ca 4, 64, .inl (f_1 4))), (q 9, .inl (ca 5, 64, .inl w)), (q 10, .inl (ca 6, 64, .inl d)), (q 11, .inl (ca 7, 64, .inl st))]) (w1 := (cal (q 3) (q 7) (ca 3) ((ap_rm x (L 3)).length) f_3)) hP hD [5, 6] [0, 1, 2, 3, 4, 7, 8, 9, 10, 11] rfl rfl (by decide) (by decide) hk1 hFc hP1 hD1
  generalize H1 = H at hP hS ⊢
  replace hP := hP.sub (ws' := (cx q ca C (va_up L 3 (ap_rm x (L 3))) (va_up f_1 3 f_3) w d st tg hi mi go)) [0, 1, 2, 3, 4, 10, 11, 5, 6, 7, 8, 9] rfl
  replace hD := hD.sub (ws' := (cx q ca C (va_up L 3 (ap_rm x (L 3))) (va_up f_1 3 f_3) w d st tg hi mi go)) [0, 1, 2, 3, 4, 10, 11, 5, 6, 7, 8, 9] (by decide) rfl
  refine lv_aload_n hx hb dX1_moveToCameAgain_9 rfl (lv_at hl 0 rfl) ?_
  refine va_get (D := (dC, dI)) (ci := 1) (v := .ref (q 2)) (C := RX1) (T := TX1) (N := 12) hx hb hts hwX1 hown hK hP 0 rfl rfl 2 (by decide) (hts (.fieldLink RX1 16 "ArcCache" "cameAgain" "LArcCache$AddressList;") (by decide +kernel)) (fun _ h9 => h9) rfl dX1_moveToCameAgain_10 ?_
  refine lv_iload_n hx hb dX1_moveToCameAgain_13 rfl (lv_at hl 1 rfl) ?_
  have hln9 : (L 2).length < 64 := by omega
  have hPc := hP.sub (ws' := (cal (q 2) (q 6) (ca 2) (((va_up L 3 (ap_rm x (L 3))) 2).length) ((va_up f_1 3 f_3) 2))) [3, 4] rfl
  have hDc := hD.sub (ws' := (cal (q 2) (q 6) (ca 2) (((va_up L 3 (ap_rm x (L 3))) 2).length) ((va_up f_1 3 f_3) 2))) [3, 4] (by decide) rfl
  have hKc := hK.sub (tys' := (kal (ca 2))) [1] rfl
  have hFc := va_free (wc := (cal (q 2) (q 6) (ca 2) (((va_up L 3 (ap_rm x (L 3))) 2).length) ((va_up f_1 3 f_3) 2))) hD hS hA [3, 4] rfl
  refine va_callv (va_runV (As := [.int x]) (rest := []) ⟨hx, hb, hml, hown, hts⟩ (c_A_addNewest l dC dI (q 2) (q 6) (ca 2) ((va_up L 3 (ap_rm x (L 3))) 2) ((va_up f_1 3 f_3) 2) x H.size hln9 (hfx_4 2 (by decide) (by decide))) (cwV 1 hts gX1_moveToCameAgain_X0_addNewest rfl rfl rfl (by decide +kernel) ⟨Nat.le_of_ble_eq_true rfl, Nat.le_of_ble_eq_true rfl⟩) ⟨fun a U g mk q => by obtain ⟨q0, q1, qP, qK, qD, qN⟩ := q; exact ⟨q0, q1, qP, va_K.moved (u := U) (U := U.calling g mk a) (Vm.Alike.refl U.vm) qK, qD, va_tabs rfl (rfl : U.vm = (U.calling g mk a).vm) qN⟩, va_recv hKc hPc (ci := 0) (q0 := 0) rfl rfl, fun U hU hW => ⟨rfl, by rw [hU], by rw [hU]; exact hPc, va_K.moved hW.alike hKc, hDc.weaken (fun _ _ _ _ => trivial), va_Nw.warmM hW hN⟩⟩ rfl rfl hl.1 rfl (lv_room (Nat.le_of_ble_eq_true rfl)) dX1_moveToCameAgain_14 ⟨Nat.le_of_ble_eq_true rfl, Nat.le_of_ble_eq_true rfl⟩) hS (fun q _ h => hFc q h) hFc (fun u t H1 locs ht hvm hw hB hz1 hk1 hS => ?_)
  obtain ⟨n1, f1⟩ := u
  obtain ⟨hP1, hK1, hD1⟩ := hB
  rw [ht] at hP1
  try dsimp only at hw hP1 hD1
  rw [al_add_in hx64] at hw
  obtain ⟨hn9, hf9⟩ := hw
  subst hn9
  obtain ⟨f_5, ef_5⟩ : ∃ z, z = f1 := ⟨_, rfl⟩
  rw [← ef_5] at hf9 hP1 hD1
  clear ef_5 f1
  have hfx_6 := fx_up (k := 2) hfx_4 hf9
  obtain ⟨hP, hD⟩ := va_join (wr := [(q 0, .inr (1, [.int (nI C), .ref (q 1), .ref (q 2), .ref (q 3), .ref (q 4), .ref (q 9), .ref (q 10), .ref (q 11), .int (nI tg), .int hi, .int mi, .int go])), (q 1, .inr (0, [.ref (q 5), .int (nI (((va_up L 3 (ap_rm x (L 3))) 1).length))])), (q 5, .inl (ca 1, 64, .inl ((va_up f_1 3 f_3) 1))), (q 3, .inr (0, [.ref (q 7), .int (nI (((va_up L 3 (ap_rm x (L 3))) 3).length))])), (q 7, .inl (ca 3, 64, .inl ((va_up f_1 3 f_3) 3))), (q 4, .inr (0, [.ref (q 8), .int (nI (((va_up L 3 (ap_rm x (L 3))) 4).length))])), (q 8, .inl (ca 4, 64, .inl ((va_up f_1 3 f_3) 4))), (q 9, .inl (ca 5, 64, .inl w)), (q 10, .inl (ca 6, 64, .inl d)), (q 11, .inl (ca 7, 64, .inl st))]) (w1 := (cal (q 2) (q 6) (ca 2) ((x :: (va_up L 3 (ap_rm x (L 3))) 2).length) f_5)) hP hD [3, 4] [0, 1, 2, 5, 6, 7, 8, 9, 10, 11] rfl rfl (by decide) (by decide) hk1 hFc hP1 hD1
  generalize H1 = H at hP hS ⊢
  replace hP := hP.sub (ws' := (cx q ca C (va_up (va_up L 3 (ap_rm x (L 3))) 2 (x :: (va_up L 3 (ap_rm x (L 3))) 2)) (va_up (va_up f_1 3 f_3) 2 f_5) w d st tg hi mi go)) [0, 1, 2, 10, 11, 3, 4, 5, 6, 7, 8, 9] rfl
  replace hD := hD.sub (ws' := (cx q ca C (va_up (va_up L 3 (ap_rm x (L 3))) 2 (x :: (va_up L 3 (ap_rm x (L 3))) 2)) (va_up (va_up f_1 3 f_3) 2 f_5) w d st tg hi mi go)) [0, 1, 2, 10, 11, 3, 4, 5, 6, 7, 8, 9] (by decide) rfl
  exact W.vret hx hb hr (fun t ht hW => ⟨⟨(ap_mv L x 3 2, w, d, st, tg, hi, mi, go), rfl, rfl, va_up (va_up f_1 3 f_3) 2 f_5, hfx_6, by rw [ht]; exact hP, va_K.moved hW.alike hK, hD⟩, hS.F ht⟩) hS.2.2 dX1_moveToCameAgain_17
set_option maxHeartbeats 4000000 in
set_option maxRecDepth 100000 in
theorem c_X_move4 (l : Launch) (dC : Nat → ClassId) (dI : Nat → Nat → Nat) (q : Nat → Nat) (ca : Nat → ClassId) (C : Nat) (L : Nat → List Int32) (f : Nat → Nat → Int32) (w d st : Nat → Int32) (tg : Nat) (hi mi go : Int32) (x : Int32) (sz : Nat) (hf : fx_ok f L) (hI : ap_inv L) (hz : ap_tot L ≤ 48) (hx64 : vp_in x 64) : Met l yX1_moveToCameAgain wsX1_moveToCameAgain ({ frames := 2, cells := 0, slots := 0, locals := 82 }) (va_Pc [.ref (q 0), .int x, .int (nI 4)] (fun U => U.heap.size = sz ∧ va_P (dC, dI) vwCl (cx q ca C L f w d st tg hi mi go) U.heap ∧ va_K (dC, dI) vwCl (kx ca) U ∧ va_D (fun _ => True) (cx q ca C L f w d st tg hi mi go) ∧ va_Nw (.methodLinkNest RX0 23 yX1_isAddress "ArcCache") U)) (va_Qv (fun (u : ap_U) => u = (ap_mv L x 4 2, w, d, st, tg, hi, mi, go)) (at_X dC dI (va_A (cx q ca C L f w d st tg hi mi go) sz) q ca C) (va_A (cx q ca C L f w d st tg hi mi go) sz)) 0 0 (va_A (cx q ca C L f w d st tg hi mi go) sz) := by
  refine Met.ofW (cc := cX1_moveToCameAgain) (maxL := 3) (ret := none) (by decide) rfl ?_
  intro p e s m args below meth c s₁ B hml hv
  obtain ⟨rfl, hsz, hP, hK, hD0, hN⟩ := hv
  have hx := B.exec
  have hb := B.bytes
  have hr := B.returns
  have hts := atoms_spec (ws := wsX1_moveToCameAgain) B.pre
  have hown : s.vm.findClass RX1 = some m.cls := findClass_of_methodNamed B.named
  have hlocks := B.notSynchronized
  have hwX1 : ∀ w ∈ u_ws RX1 TX1 12, w ∈ wsX1_moveToCameAgain := by decide +kernel
  subst hsz
  have hD := hD0.self (sz := s.heap.size)
  generalize hAe : va_A (cx q ca C L f w d st tg hi mi go) s.heap.size = A at hD ⊢
  have hA : ∀ q : Nat, s.heap.size ≤ q → A q := fun q h => by rw [← hAe]; exact Or.inr h
  have hS0 : ∀ H, s.heap = H → va_S A s.heap H [] := fun H h => by subst h; exact va_S.rf
  have hl := lv_entry ([.ref (q 0), .int x, .int (nI 4)]) (n := 3) (Nat.le_of_ble_eq_true rfl)
  rw [lg_entry_eq]
  generalize (lg_sl ([.ref (q 0), .int x, .int (nI 4)]) ++ List.replicate (3 - (lg_sl ([.ref (q 0), .int x, .int (nI 4)])).length) Slot.unset).toArray = ls at hl ⊢
  have hl : lv_has ls 3 [(0, .ref (q 0)), (1, .int x), (2, .int (nI 4))] := hl
  generalize hHe : s.heap = H at hP ⊢
  have hS := hS0 H hHe
  have z1 : (L 1).length ≤ 48 := by unfold ap_tot at hz; omega
  have z2 : (L 2).length ≤ 48 := by unfold ap_tot at hz; omega
  have z3 : (L 3).length ≤ 48 := by unfold ap_tot at hz; omega
  have z4 : (L 4).length ≤ 48 := by unfold ap_tot at hz; omega
  refine lv_aload_n hx hb dX1_moveToCameAgain_0 rfl (lv_at hl 0 rfl) ?_
  refine lv_iload_n hx hb dX1_moveToCameAgain_1 rfl (lv_at hl 2 rfl) ?_
  have hPc := hP.sub (ws' := (cx q ca C L f w d st tg hi mi go)) [0, 1, 2, 3, 4, 5, 6, 7, 8, 9, 10, 11] rfl
  have hDc := hD.sub (ws' := (cx q ca C L f w d st tg hi mi go)) [0, 1, 2, 3, 4, 5, 6, 7, 8, 9, 10, 11] (by decide) rfl
  have hKc := hK.sub (tys' := (kx ca)) [0, 1, 2, 3, 4, 5, 6] rfl
  have hFc := va_free (wc := (cx q ca C L f w d st tg hi mi go)) hD hS hA [0, 1, 2, 3, 4, 5, 6, 7, 8, 9, 10, 11] rfl
  refine va_callr (va_runV (As := [.int (nI 4)]) (rest := []) ⟨hx, hb, hml, hown, hts⟩ (c_X_listNumbered l dC dI q ca C L f w d st tg hi mi go 4 H.size (by decide) (by decide) hf) (cwV 1 hts gX1_moveToCameAgain_X1_listNumbered rfl rfl rfl (by decide +kernel) ⟨Nat.le_of_ble_eq_true rfl, Nat.le_of_ble_eq_true rfl⟩) ⟨fun a U g mk q => by obtain ⟨q0, q1, qP, qK, qD⟩ := q; exact ⟨q0, q1, qP, va_K.moved (u := U) (U := U.calling g mk a) (Vm.Alike.refl U.vm) qK, qD⟩, va_recv hKc hPc (ci := 1) (q0 := 0) rfl rfl, fun U hU hW => ⟨rfl, by rw [hU], by rw [hU]; exact hPc, va_K.moved hW.alike hKc, hDc.weaken (fun _ _ _ _ => trivial)⟩⟩ rfl rfl hl.1 rfl (lv_room (Nat.le_of_ble_eq_true rfl)) dX1_moveToCameAgain_2 ⟨Nat.le_of_ble_eq_true rfl, Nat.le_of_ble_eq_true rfl⟩) hS (fun q _ h => hFc q h) hFc (fun u ra t H1 locs ht hvm hw hB hz1 hk1 hS => ?_)
  obtain ⟨era, f1, hf1, hP1, hK1, hD1⟩ := hB
  rw [ht] at hP1
  subst era
  obtain ⟨f_1, ef_1⟩ : ∃ z, z = f1 := ⟨_, rfl⟩
  rw [← ef_1] at hf1 hP1 hD1
  clear ef_1 f1
  have hfx_2 := hf1
  obtain ⟨hP, hD⟩ := va_join (wr := []) (w1 := (cx q ca C L f_1 w d st tg hi mi go)) hP hD [0, 1, 2, 3, 4, 5, 6, 7, 8, 9, 10, 11] [] rfl rfl (by decide) (by decide) hk1 hFc hP1 hD1
  generalize H1 = H at hP hS ⊢
  replace hP : va_P (dC, dI) vwCl (cx q ca C L f_1 w d st tg hi mi go) H := hP
  replace hD : va_D A (cx q ca C L f_1 w d st tg hi mi go) := hD
  refine lv_iload_n hx hb dX1_moveToCameAgain_5 rfl (lv_at hl 1 rfl) ?_
  have hPc := hP.sub (ws' := (cal (q 4) (q 8) (ca 4) ((L 4).length) (f_1 4))) [7, 8] rfl
  have hDc := hD.sub (ws' := (cal (q 4) (q 8) (ca 4) ((L 4).length) (f_1 4))) [7, 8] (by decide) rfl
  have hKc := hK.sub (tys' := (kal (ca 4))) [3] rfl
  have hFc := va_free (wc := (cal (q 4) (q 8) (ca 4) ((L 4).length) (f_1 4))) hD hS hA [7, 8] rfl
  refine va_callv (va_runV (As := [.int x]) (rest := []) ⟨hx, hb, hml, hown, hts⟩ (c_A_remove l dC dI (q 4) (q 8) (ca 4) (L 4) (f_1 4) x H.size (Nat.le_trans z4 (by decide)) (hfx_2 4 (by decide) (by decide)) (hI.1 4)) (cwV 1 hts gX1_moveToCameAgain_X0_remove rfl rfl rfl (by decide +kernel) ⟨Nat.le_of_ble_eq_true rfl, Nat.le_of_ble_eq_true rfl⟩) ⟨fun a U g mk q => by obtain ⟨q0, q1, qP, qK, qD⟩ := q; exact ⟨q0, q1, qP, va_K.moved (u := U) (U := U.calling g mk a) (Vm.Alike.refl U.vm) qK, qD⟩, va_recv hKc hPc (ci := 0) (q0 := 0) rfl rfl, fun U hU hW => ⟨rfl, by rw [hU], by rw [hU]; exact hPc, va_K.moved hW.alike hKc, hDc.weaken (fun _ _ _ _ => trivial)⟩⟩ rfl rfl hl.1 rfl (lv_room (Nat.le_of_ble_eq_true rfl)) dX1_moveToCameAgain_6 ⟨Nat.le_of_ble_eq_true rfl, Nat.le_of_ble_eq_true rfl⟩) hS (fun q _ h => hFc q h) hFc (fun u t H1 locs ht hvm hw hB hz1 hk1 hS => ?_)
  obtain ⟨n1, f1⟩ := u
  obtain ⟨hP1, hK1, hD1⟩ := hB
  rw [ht] at hP1
  try dsimp only at hw hP1 hD1
  obtain ⟨hn9, hf9⟩ := hw
  subst hn9
  obtain ⟨f_3, ef_3⟩ : ∃ z, z = f1 := ⟨_, rfl⟩
  rw [← ef_3] at hf9 hP1 hD1
  clear ef_3 f1
  have hfx_4 := fx_up (k := 4) hfx_2 hf9
  obtain ⟨hP, hD⟩ := va_join (wr := [(q 0, .inr (1, [.int (nI C), .ref (q 1), .ref (q 2), .ref (q 3), .ref (q 4), .ref (q 9), .ref (q 10), .ref (q 11), .int (nI tg), .int hi, .int mi, .int go])), (q 1, .inr (0, [.ref (q 5), .int (nI ((L 1).length))])), (q 5, .inl (ca 1, 64, .inl (f_1 1))), (q 2, .inr (0, [.ref (q 6), .int (nI ((L 2).length))])), (q 6, .inl (ca 2, 64, .inl (f_1 2))), (q 3, .inr (0, [.ref (q 7), .int (nI ((L 3).length))])), (q 7, .inl (ca 3, 64, .inl (f_1 3))), (q 9, .inl (ca 5, 64, .inl w)), (q 10, .inl (ca 6, 64, .inl d)), (q 11, .inl (ca 7, 64, .inl st))]) (w1 := (cal (q 4) (q 8) (ca 4) ((ap_rm x (L 4)).length) f_3)) hP hD [7, 8] [0, 1, 2, 3, 4, 5, 6, 9, 10, 11] rfl rfl (by decide) (by decide) hk1 hFc hP1 hD1
  generalize H1 = H at hP hS ⊢
  replace hP := hP.sub (ws' := (cx q ca C (va_up L 4 (ap_rm x (L 4))) (va_up f_1 4 f_3) w d st tg hi mi go)) [0, 1, 2, 3, 4, 5, 6, 10, 11, 7, 8, 9] rfl
  replace hD := hD.sub (ws' := (cx q ca C (va_up L 4 (ap_rm x (L 4))) (va_up f_1 4 f_3) w d st tg hi mi go)) [0, 1, 2, 3, 4, 5, 6, 10, 11, 7, 8, 9] (by decide) rfl
  refine lv_aload_n hx hb dX1_moveToCameAgain_9 rfl (lv_at hl 0 rfl) ?_
  refine va_get (D := (dC, dI)) (ci := 1) (v := .ref (q 2)) (C := RX1) (T := TX1) (N := 12) hx hb hts hwX1 hown hK hP 0 rfl rfl 2 (by decide) (hts (.fieldLink RX1 16 "ArcCache" "cameAgain" "LArcCache$AddressList;") (by decide +kernel)) (fun _ h9 => h9) rfl dX1_moveToCameAgain_10 ?_
  refine lv_iload_n hx hb dX1_moveToCameAgain_13 rfl (lv_at hl 1 rfl) ?_
  have hln9 : (L 2).length < 64 := by omega
  have hPc := hP.sub (ws' := (cal (q 2) (q 6) (ca 2) (((va_up L 4 (ap_rm x (L 4))) 2).length) ((va_up f_1 4 f_3) 2))) [3, 4] rfl
  have hDc := hD.sub (ws' := (cal (q 2) (q 6) (ca 2) (((va_up L 4 (ap_rm x (L 4))) 2).length) ((va_up f_1 4 f_3) 2))) [3, 4] (by decide) rfl
  have hKc := hK.sub (tys' := (kal (ca 2))) [1] rfl
  have hFc := va_free (wc := (cal (q 2) (q 6) (ca 2) (((va_up L 4 (ap_rm x (L 4))) 2).length) ((va_up f_1 4 f_3) 2))) hD hS hA [3, 4] rfl
  refine va_callv (va_runV (As := [.int x]) (rest := []) ⟨hx, hb, hml, hown, hts⟩ (c_A_addNewest l dC dI (q 2) (q 6) (ca 2) ((va_up L 4 (ap_rm x (L 4))) 2) ((va_up f_1 4 f_3) 2) x H.size hln9 (hfx_4 2 (by decide) (by decide))) (cwV 1 hts gX1_moveToCameAgain_X0_addNewest rfl rfl rfl (by decide +kernel) ⟨Nat.le_of_ble_eq_true rfl, Nat.le_of_ble_eq_true rfl⟩) ⟨fun a U g mk q => by obtain ⟨q0, q1, qP, qK, qD, qN⟩ := q; exact ⟨q0, q1, qP, va_K.moved (u := U) (U := U.calling g mk a) (Vm.Alike.refl U.vm) qK, qD, va_tabs rfl (rfl : U.vm = (U.calling g mk a).vm) qN⟩, va_recv hKc hPc (ci := 0) (q0 := 0) rfl rfl, fun U hU hW => ⟨rfl, by rw [hU], by rw [hU]; exact hPc, va_K.moved hW.alike hKc, hDc.weaken (fun _ _ _ _ => trivial), va_Nw.warmM hW hN⟩⟩ rfl rfl hl.1 rfl (lv_room (Nat.le_of_ble_eq_true rfl)) dX1_moveToCameAgain_14 ⟨Nat.le_of_ble_eq_true rfl, Nat.le_of_ble_eq_true rfl⟩) hS (fun q _ h => hFc q h) hFc (fun u t H1 locs ht hvm hw hB hz1 hk1 hS => ?_)
  obtain ⟨n1, f1⟩ := u
  obtain ⟨hP1, hK1, hD1⟩ := hB
  rw [ht] at hP1
  try dsimp only at hw hP1 hD1
  rw [al_add_in hx64] at hw
  obtain ⟨hn9, hf9⟩ := hw
  subst hn9
  obtain ⟨f_5, ef_5⟩ : ∃ z, z = f1 := ⟨_, rfl⟩
  rw [← ef_5] at hf9 hP1 hD1
  clear ef_5 f1
  have hfx_6 := fx_up (k := 2) hfx_4 hf9
  obtain ⟨hP, hD⟩ := va_join (wr := [(q 0, .inr (1, [.int (nI C), .ref (q 1), .ref (q 2), .ref (q 3), .ref (q 4), .ref (q 9), .ref (q 10), .ref (q 11), .int (nI tg), .int hi, .int mi, .int go])), (q 1, .inr (0, [.ref (q 5), .int (nI (((va_up L 4 (ap_rm x (L 4))) 1).length))])), (q 5, .inl (ca 1, 64, .inl ((va_up f_1 4 f_3) 1))), (q 3, .inr (0, [.ref (q 7), .int (nI (((va_up L 4 (ap_rm x (L 4))) 3).length))])), (q 7, .inl (ca 3, 64, .inl ((va_up f_1 4 f_3) 3))), (q 4, .inr (0, [.ref (q 8), .int (nI (((va_up L 4 (ap_rm x (L 4))) 4).length))])), (q 8, .inl (ca 4, 64, .inl ((va_up f_1 4 f_3) 4))), (q 9, .inl (ca 5, 64, .inl w)), (q 10, .inl (ca 6, 64, .inl d)), (q 11, .inl (ca 7, 64, .inl st))]) (w1 := (cal (q 2) (q 6) (ca 2) ((x :: (va_up L 4 (ap_rm x (L 4))) 2).length) f_5)) hP hD [3, 4] [0, 1, 2, 5, 6, 7, 8, 9, 10, 11] rfl rfl (by decide) (by decide) hk1 hFc hP1 hD1
  generalize H1 = H at hP hS ⊢
  replace hP := hP.sub (ws' := (cx q ca C (va_up (va_up L 4 (ap_rm x (L 4))) 2 (x :: (va_up L 4 (ap_rm x (L 4))) 2)) (va_up (va_up f_1 4 f_3) 2 f_5) w d st tg hi mi go)) [0, 1, 2, 10, 11, 3, 4, 5, 6, 7, 8, 9] rfl
  replace hD := hD.sub (ws' := (cx q ca C (va_up (va_up L 4 (ap_rm x (L 4))) 2 (x :: (va_up L 4 (ap_rm x (L 4))) 2)) (va_up (va_up f_1 4 f_3) 2 f_5) w d st tg hi mi go)) [0, 1, 2, 10, 11, 3, 4, 5, 6, 7, 8, 9] (by decide) rfl
  exact W.vret hx hb hr (fun t ht hW => ⟨⟨(ap_mv L x 4 2, w, d, st, tg, hi, mi, go), rfl, rfl, va_up (va_up f_1 4 f_3) 2 f_5, hfx_6, by rw [ht]; exact hP, va_K.moved hW.alike hK, hD⟩, hS.F ht⟩) hS.2.2 dX1_moveToCameAgain_17
set_option maxHeartbeats 4000000 in
set_option maxRecDepth 100000 in
theorem c_X_old1 (l : Launch) (dC : Nat → ClassId) (dI : Nat → Nat → Nat) (q : Nat → Nat) (ca : Nat → ClassId) (C : Nat) (L : Nat → List Int32) (f : Nat → Nat → Int32) (w d st : Nat → Int32) (tg : Nat) (hi mi go : Int32)  (sz : Nat) (hf : fx_ok f L) (hI : ap_inv L) (hz : ap_tot L ≤ 48) (he : L 1 ≠ []) : Met l yX1_oldestGoes wsX1_oldestGoes ({ frames := 2, cells := 0, slots := 0, locals := 82 }) (va_Pc [.ref (q 0), .ref (q 1), .ref (q 3)] (fun U => U.heap.size = sz ∧ va_P (dC, dI) vwCl (cx q ca C L f w d st tg hi mi go) U.heap ∧ va_K (dC, dI) vwCl (kx ca) U ∧ va_D (fun _ => True) (cx q ca C L f w d st tg hi mi go) ∧ va_Nw (.methodLinkNest RX0 23 yX1_isAddress "ArcCache") U)) (va_Qv (fun (u : ap_U) => u = (ap_mv L (ap_old (L 1)) 1 3, w, ap_cd d (ap_old (L 1)), ap_cs w d st (ap_old (L 1)), tg, hi, mi, go + 1)) (at_X dC dI (va_A (cx q ca C L f w d st tg hi mi go) sz) q ca C) (va_A (cx q ca C L f w d st tg hi mi go) sz)) 0 0 (va_A (cx q ca C L f w d st tg hi mi go) sz) := by
  refine Met.ofW (cc := cX1_oldestGoes) (maxL := 4) (ret := none) (by decide) rfl ?_
  intro p e s m args below meth c s₁ B hml hv
  obtain ⟨rfl, hsz, hP, hK, hD0, hN⟩ := hv
  have hx := B.exec
  have hb := B.bytes
  have hr := B.returns
  have hts := atoms_spec (ws := wsX1_oldestGoes) B.pre
  have hown : s.vm.findClass RX1 = some m.cls := findClass_of_methodNamed B.named
  have hlocks := B.notSynchronized
  have hwX1 : ∀ w ∈ u_ws RX1 TX1 12, w ∈ wsX1_oldestGoes := by decide +kernel
  subst hsz
  have hD := hD0.self (sz := s.heap.size)
  generalize hAe : va_A (cx q ca C L f w d st tg hi mi go) s.heap.size = A at hD ⊢
  have hA : ∀ q : Nat, s.heap.size ≤ q → A q := fun q h => by rw [← hAe]; exact Or.inr h
  have hS0 : ∀ H, s.heap = H → va_S A s.heap H [] := fun H h => by subst h; exact va_S.rf
  have hl := lv_entry ([.ref (q 0), .ref (q 1), .ref (q 3)]) (n := 4) (Nat.le_of_ble_eq_true rfl)
  rw [lg_entry_eq]
  generalize (lg_sl ([.ref (q 0), .ref (q 1), .ref (q 3)]) ++ List.replicate (4 - (lg_sl ([.ref (q 0), .ref (q 1), .ref (q 3)])).length) Slot.unset).toArray = ls at hl ⊢
  have hl : lv_has ls 4 [(0, .ref (q 0)), (1, .ref (q 1)), (2, .ref (q 3))] := hl
  generalize hHe : s.heap = H at hP ⊢
  have hS := hS0 H hHe
  have z1 : (L 1).length ≤ 48 := by unfold ap_tot at hz; omega
  have z2 : (L 2).length ≤ 48 := by unfold ap_tot at hz; omega
  have z3 : (L 3).length ≤ 48 := by unfold ap_tot at hz; omega
  have z4 : (L 4).length ≤ 48 := by unfold ap_tot at hz; omega
  have hx64 : vp_in (ap_old (L 1)) 64 := ap_old_in hI he
  refine lv_aload_n hx hb dX1_oldestGoes_0 rfl (lv_at hl 1 rfl) ?_
  have hPc := hP.sub (ws' := (cal (q 1) (q 5) (ca 1) ((L 1).length) (f 1))) [1, 2] rfl
  have hDc := hD.sub (ws' := (cal (q 1) (q 5) (ca 1) ((L 1).length) (f 1))) [1, 2] (by decide) rfl
  have hKc := hK.sub (tys' := (kal (ca 1))) [0] rfl
  have hFc := va_free (wc := (cal (q 1) (q 5) (ca 1) ((L 1).length) (f 1))) hD hS hA [1, 2] rfl
  refine va_calli (va_runV (As := []) (rest := []) ⟨hx, hb, hml, hown, hts⟩ (c_A_oldest l dC dI (q 1) (q 5) (ca 1) (L 1) (f 1) H.size (Nat.le_trans z1 (by decide)) (hf 1 (by decide) (by decide))) (cwV 0 hts gX1_oldestGoes_X0_oldest rfl rfl rfl (by decide +kernel) ⟨Nat.le_of_ble_eq_true rfl, Nat.le_of_ble_eq_true rfl⟩) ⟨fun a U g mk q => by obtain ⟨q0, q1, qP, qK, qD⟩ := q; exact ⟨q0, q1, qP, va_K.moved (u := U) (U := U.calling g mk a) (Vm.Alike.refl U.vm) qK, qD⟩, va_recv hKc hPc (ci := 0) (q0 := 0) rfl rfl, fun U hU hW => ⟨rfl, by rw [hU], by rw [hU]; exact hPc, va_K.moved hW.alike hKc, hDc.weaken (fun _ _ _ _ => trivial)⟩⟩ rfl rfl hl.1 rfl (lv_room (Nat.le_of_ble_eq_true rfl)) dX1_oldestGoes_1 ⟨Nat.le_of_ble_eq_true rfl, Nat.le_of_ble_eq_true rfl⟩) hS (fun q _ h => hFc q h) hFc (fun r u t H1 locs ht hvm hw hB hz1 hk1 hS => ?_)
  obtain ⟨n1, f1⟩ := u
  obtain ⟨hP1, hK1, hD1⟩ := hB
  rw [ht] at hP1
  try dsimp only at hw hP1 hD1
  obtain ⟨hr9, hu⟩ := hw
  cases hu
  obtain ⟨hP, hD⟩ := va_join (wr := [(q 0, .inr (1, [.int (nI C), .ref (q 1), .ref (q 2), .ref (q 3), .ref (q 4), .ref (q 9), .ref (q 10), .ref (q 11), .int (nI tg), .int hi, .int mi, .int go])), (q 2, .inr (0, [.ref (q 6), .int (nI ((L 2).length))])), (q 6, .inl (ca 2, 64, .inl (f 2))), (q 3, .inr (0, [.ref (q 7), .int (nI ((L 3).length))])), (q 7, .inl (ca 3, 64, .inl (f 3))), (q 4, .inr (0, [.ref (q 8), .int (nI ((L 4).length))])), (q 8, .inl (ca 4, 64, .inl (f 4))), (q 9, .inl (ca 5, 64, .inl w)), (q 10, .inl (ca 6, 64, .inl d)), (q 11, .inl (ca 7, 64, .inl st))]) (w1 := (cal (q 1) (q 5) (ca 1) ((L 1).length) (f 1))) hP hD [1, 2] [0, 3, 4, 5, 6, 7, 8, 9, 10, 11] rfl rfl (by decide) (by decide) hk1 hFc hP1 hD1
  generalize H1 = H at hP hS ⊢
  replace hP := hP.sub (ws' := (cx q ca C L f w d st tg hi mi go)) [0, 10, 11, 1, 2, 3, 4, 5, 6, 7, 8, 9] rfl
  replace hD := hD.sub (ws' := (cx q ca C L f w d st tg hi mi go)) [0, 10, 11, 1, 2, 3, 4, 5, 6, 7, 8, 9] (by decide) rfl
  subst hr9
  refine lv_istore_n (lv' := [(3, .int (ap_old (L 1))), (0, .ref (q 0)), (1, .ref (q 1)), (2, .ref (q 3))]) hx hb dX1_oldestGoes_4 rfl hl (by decide) rfl (fun ls hl => ?_)
  refine lv_aload_n hx hb dX1_oldestGoes_5 rfl (lv_at hl 1 rfl) ?_
  refine lv_iload_n hx hb dX1_oldestGoes_6 rfl (lv_at hl 0 rfl) ?_
  have hPc := hP.sub (ws' := (cx q ca C L f w d st tg hi mi go)) [0, 1, 2, 3, 4, 5, 6, 7, 8, 9, 10, 11] rfl
  have hDc := hD.sub (ws' := (cx q ca C L f w d st tg hi mi go)) [0, 1, 2, 3, 4, 5, 6, 7, 8, 9, 10, 11] (by decide) rfl
  have hKc := hK.sub (tys' := (kx ca)) [0, 1, 2, 3, 4, 5, 6] rfl
  have hFc := va_free (wc := (cx q ca C L f w d st tg hi mi go)) hD hS hA [0, 1, 2, 3, 4, 5, 6, 7, 8, 9, 10, 11] rfl
  refine va_callv (va_runV (As := [.int (ap_old (L 1))]) (rest := []) ⟨hx, hb, hml, hown, hts⟩ (c_X_pageGoes l dC dI q ca C L f w d st tg hi mi go (ap_old (L 1)) H.size hf hx64) (cwV 1 hts gX1_oldestGoes_X1_pageGoes rfl rfl rfl (by decide +kernel) ⟨Nat.le_of_ble_eq_true rfl, Nat.le_of_ble_eq_true rfl⟩) ⟨fun a U g mk q => by obtain ⟨q0, q1, qP, qK, qD⟩ := q; exact ⟨q0, q1, qP, va_K.moved (u := U) (U := U.calling g mk a) (Vm.Alike.refl U.vm) qK, qD⟩, va_recv hKc hPc (ci := 1) (q0 := 0) rfl rfl, fun U hU hW => ⟨rfl, by rw [hU], by rw [hU]; exact hPc, va_K.moved hW.alike hKc, hDc.weaken (fun _ _ _ _ => trivial)⟩⟩ rfl rfl hl.1 rfl (lv_room (Nat.le_of_ble_eq_true rfl)) dX1_oldestGoes_7 ⟨Nat.le_of_ble_eq_true rfl, Nat.le_of_ble_eq_true rfl⟩) hS (fun q _ h => hFc q h) hFc (fun u t H1 locs ht hvm hw hB hz1 hk1 hS => ?_)
  obtain ⟨L1, w1, d1, st1, tg1, hi1, mi1, go1⟩ := u
  obtain ⟨f1, hf1, hP1, hK1, hD1⟩ := hB
  rw [ht] at hP1
  cases hw
  obtain ⟨f_1, ef_1⟩ : ∃ z, z = f1 := ⟨_, rfl⟩
  rw [← ef_1] at hf1 hP1 hD1
  clear ef_1 f1
  have hfx_2 := hf1
  obtain ⟨hP, hD⟩ := va_join (wr := []) (w1 := (cx q ca C L f_1 w (ap_cd d (ap_old (L 1))) (ap_cs w d st (ap_old (L 1))) tg hi mi (go + 1))) hP hD [0, 1, 2, 3, 4, 5, 6, 7, 8, 9, 10, 11] [] rfl rfl (by decide) (by decide) hk1 hFc hP1 hD1
  generalize H1 = H at hP hS ⊢
  replace hP : va_P (dC, dI) vwCl (cx q ca C L f_1 w (ap_cd d (ap_old (L 1))) (ap_cs w d st (ap_old (L 1))) tg hi mi (go + 1)) H := hP
  replace hD : va_D A (cx q ca C L f_1 w (ap_cd d (ap_old (L 1))) (ap_cs w d st (ap_old (L 1))) tg hi mi (go + 1)) := hD
  refine lv_aload_n hx hb dX1_oldestGoes_10 rfl (lv_at hl 2 rfl) ?_
  refine lv_iload_n hx hb dX1_oldestGoes_11 rfl (lv_at hl 0 rfl) ?_
  have hPc := hP.sub (ws' := (cal (q 1) (q 5) (ca 1) ((L 1).length) (f_1 1))) [1, 2] rfl
  have hDc := hD.sub (ws' := (cal (q 1) (q 5) (ca 1) ((L 1).length) (f_1 1))) [1, 2] (by decide) rfl
  have hKc := hK.sub (tys' := (kal (ca 1))) [0] rfl
  have hFc := va_free (wc := (cal (q 1) (q 5) (ca 1) ((L 1).length) (f_1 1))) hD hS hA [1, 2] rfl
  refine va_callv (va_runV (As := [.int (ap_old (L 1))]) (rest := []) ⟨hx, hb, hml, hown, hts⟩ (c_A_remove l dC dI (q 1) (q 5) (ca 1) (L 1) (f_1 1) (ap_old (L 1)) H.size (Nat.le_trans z1 (by decide)) (hfx_2 1 (by decide) (by decide)) (hI.1 1)) (cwV 1 hts gX1_oldestGoes_X0_remove rfl rfl rfl (by decide +kernel) ⟨Nat.le_of_ble_eq_true rfl, Nat.le_of_ble_eq_true rfl⟩) ⟨fun a U g mk q => by obtain ⟨q0, q1, qP, qK, qD⟩ := q; exact ⟨q0, q1, qP, va_K.moved (u := U) (U := U.calling g mk a) (Vm.Alike.refl U.vm) qK, qD⟩, va_recv hKc hPc (ci := 0) (q0 := 0) rfl rfl, fun U hU hW => ⟨rfl, by rw [hU], by rw [hU]; exact hPc, va_K.moved hW.alike hKc, hDc.weaken (fun _ _ _ _ => trivial)⟩⟩ rfl rfl hl.1 rfl (lv_room (Nat.le_of_ble_eq_true rfl)) dX1_oldestGoes_12 ⟨Nat.le_of_ble_eq_true rfl, Nat.le_of_ble_eq_true rfl⟩) hS (fun q _ h => hFc q h) hFc (fun u t H1 locs ht hvm hw hB hz1 hk1 hS => ?_)
  obtain ⟨n1, f1⟩ := u
  obtain ⟨hP1, hK1, hD1⟩ := hB
  rw [ht] at hP1
  try dsimp only at hw hP1 hD1
  obtain ⟨hn9, hf9⟩ := hw
  subst hn9
  obtain ⟨f_3, ef_3⟩ : ∃ z, z = f1 := ⟨_, rfl⟩
  rw [← ef_3] at hf9 hP1 hD1
  clear ef_3 f1
  have hfx_4 := fx_up (k := 1) hfx_2 hf9
  obtain ⟨hP, hD⟩ := va_join (wr := [(q 0, .inr (1, [.int (nI C), .ref (q 1), .ref (q 2), .ref (q 3), .ref (q 4), .ref (q 9), .ref (q 10), .ref (q 11), .int (nI tg), .int hi, .int mi, .int (go + 1)])), (q 2, .inr (0, [.ref (q 6), .int (nI ((L 2).length))])), (q 6, .inl (ca 2, 64, .inl (f_1 2))), (q 3, .inr (0, [.ref (q 7), .int (nI ((L 3).length))])), (q 7, .inl (ca 3, 64, .inl (f_1 3))), (q 4, .inr (0, [.ref (q 8), .int (nI ((L 4).length))])), (q 8, .inl (ca 4, 64, .inl (f_1 4))), (q 9, .inl (ca 5, 64, .inl w)), (q 10, .inl (ca 6, 64, .inl (ap_cd d (ap_old (L 1))))), (q 11, .inl (ca 7, 64, .inl (ap_cs w d st (ap_old (L 1)))))]) (w1 := (cal (q 1) (q 5) (ca 1) ((ap_rm (ap_old (L 1)) (L 1)).length) f_3)) hP hD [1, 2] [0, 3, 4, 5, 6, 7, 8, 9, 10, 11] rfl rfl (by decide) (by decide) hk1 hFc hP1 hD1
  generalize H1 = H at hP hS ⊢
  replace hP := hP.sub (ws' := (cx q ca C (va_up L 1 (ap_rm (ap_old (L 1)) (L 1))) (va_up f_1 1 f_3) w (ap_cd d (ap_old (L 1))) (ap_cs w d st (ap_old (L 1))) tg hi mi (go + 1))) [0, 10, 11, 1, 2, 3, 4, 5, 6, 7, 8, 9] rfl
  replace hD := hD.sub (ws' := (cx q ca C (va_up L 1 (ap_rm (ap_old (L 1)) (L 1))) (va_up f_1 1 f_3) w (ap_cd d (ap_old (L 1))) (ap_cs w d st (ap_old (L 1))) tg hi mi (go + 1))) [0, 10, 11, 1, 2, 3, 4, 5, 6, 7, 8, 9] (by decide) rfl
  refine lv_aload_n hx hb dX1_oldestGoes_15 rfl (lv_at hl 3 rfl) ?_
  refine lv_iload_n hx hb dX1_oldestGoes_16 rfl (lv_at hl 0 rfl) ?_
  have hPc := hP.sub (ws' := (cal (q 3) (q 7) (ca 3) (((va_up L 1 (ap_rm (ap_old (L 1)) (L 1))) 3).length) ((va_up f_1 1 f_3) 3))) [5, 6] rfl
  have hDc := hD.sub (ws' := (cal (q 3) (q 7) (ca 3) (((va_up L 1 (ap_rm (ap_old (L 1)) (L 1))) 3).length) ((va_up f_1 1 f_3) 3))) [5, 6] (by decide) rfl
  have hKc := hK.sub (tys' := (kal (ca 3))) [2] rfl
  have hFc := va_free (wc := (cal (q 3) (q 7) (ca 3) (((va_up L 1 (ap_rm (ap_old (L 1)) (L 1))) 3).length) ((va_up f_1 1 f_3) 3))) hD hS hA [5, 6] rfl
  refine va_callv (va_runV (As := [.int (ap_old (L 1))]) (rest := []) ⟨hx, hb, hml, hown, hts⟩ (c_A_addNewest l dC dI (q 3) (q 7) (ca 3) ((va_up L 1 (ap_rm (ap_old (L 1)) (L 1))) 3) ((va_up f_1 1 f_3) 3) (ap_old (L 1)) H.size (Nat.lt_of_le_of_lt z3 (by decide)) (hfx_4 3 (by decide) (by decide))) (cwV 1 hts gX1_oldestGoes_X0_addNewest rfl rfl rfl (by decide +kernel) ⟨Nat.le_of_ble_eq_true rfl, Nat.le_of_ble_eq_true rfl⟩) ⟨fun a U g mk q => by obtain ⟨q0, q1, qP, qK, qD, qN⟩ := q; exact ⟨q0, q1, qP, va_K.moved (u := U) (U := U.calling g mk a) (Vm.Alike.refl U.vm) qK, qD, va_tabs rfl (rfl : U.vm = (U.calling g mk a).vm) qN⟩, va_recv hKc hPc (ci := 0) (q0 := 0) rfl rfl, fun U hU hW => ⟨rfl, by rw [hU], by rw [hU]; exact hPc, va_K.moved hW.alike hKc, hDc.weaken (fun _ _ _ _ => trivial), va_Nw.warmM hW hN⟩⟩ rfl rfl hl.1 rfl (lv_room (Nat.le_of_ble_eq_true rfl)) dX1_oldestGoes_17 ⟨Nat.le_of_ble_eq_true rfl, Nat.le_of_ble_eq_true rfl⟩) hS (fun q _ h => hFc q h) hFc (fun u t H1 locs ht hvm hw hB hz1 hk1 hS => ?_)
  obtain ⟨n1, f1⟩ := u
  obtain ⟨hP1, hK1, hD1⟩ := hB
  rw [ht] at hP1
  try dsimp only at hw hP1 hD1
  rw [al_add_in hx64] at hw
  obtain ⟨hn9, hf9⟩ := hw
  subst hn9
  obtain ⟨f_5, ef_5⟩ : ∃ z, z = f1 := ⟨_, rfl⟩
  rw [← ef_5] at hf9 hP1 hD1
  clear ef_5 f1
  have hfx_6 := fx_up (k := 3) hfx_4 hf9
  obtain ⟨hP, hD⟩ := va_join (wr := [(q 0, .inr (1, [.int (nI C), .ref (q 1), .ref (q 2), .ref (q 3), .ref (q 4), .ref (q 9), .ref (q 10), .ref (q 11), .int (nI tg), .int hi, .int mi, .int (go + 1)])), (q 1, .inr (0, [.ref (q 5), .int (nI (((va_up L 1 (ap_rm (ap_old (L 1)) (L 1))) 1).length))])), (q 5, .inl (ca 1, 64, .inl ((va_up f_1 1 f_3) 1))), (q 2, .inr (0, [.ref (q 6), .int (nI (((va_up L 1 (ap_rm (ap_old (L 1)) (L 1))) 2).length))])), (q 6, .inl (ca 2, 64, .inl ((va_up f_1 1 f_3) 2))), (q 4, .inr (0, [.ref (q 8), .int (nI (((va_up L 1 (ap_rm (ap_old (L 1)) (L 1))) 4).length))])), (q 8, .inl (ca 4, 64, .inl ((va_up f_1 1 f_3) 4))), (q 9, .inl (ca 5, 64, .inl w)), (q 10, .inl (ca 6, 64, .inl (ap_cd d (ap_old (L 1))))), (q 11, .inl (ca 7, 64, .inl (ap_cs w d st (ap_old (L 1)))))]) (w1 := (cal (q 3) (q 7) (ca 3) (((ap_old (L 1)) :: (va_up L 1 (ap_rm (ap_old (L 1)) (L 1))) 3).length) f_5)) hP hD [5, 6] [0, 1, 2, 3, 4, 7, 8, 9, 10, 11] rfl rfl (by decide) (by decide) hk1 hFc hP1 hD1
  generalize H1 = H at hP hS ⊢
  replace hP := hP.sub (ws' := (cx q ca C (va_up (va_up L 1 (ap_rm (ap_old (L 1)) (L 1))) 3 ((ap_old (L 1)) :: (va_up L 1 (ap_rm (ap_old (L 1)) (L 1))) 3)) (va_up (va_up f_1 1 f_3) 3 f_5) w (ap_cd d (ap_old (L 1))) (ap_cs w d st (ap_old (L 1))) tg hi mi (go + 1))) [0, 1, 2, 3, 4, 10, 11, 5, 6, 7, 8, 9] rfl
  replace hD := hD.sub (ws' := (cx q ca C (va_up (va_up L 1 (ap_rm (ap_old (L 1)) (L 1))) 3 ((ap_old (L 1)) :: (va_up L 1 (ap_rm (ap_old (L 1)) (L 1))) 3)) (va_up (va_up f_1 1 f_3) 3 f_5) w (ap_cd d (ap_old (L 1))) (ap_cs w d st (ap_old (L 1))) tg hi mi (go + 1))) [0, 1, 2, 3, 4, 10, 11, 5, 6, 7, 8, 9] (by decide) rfl
  exact W.vret hx hb hr (fun t ht hW => ⟨⟨(ap_mv L (ap_old (L 1)) 1 3, w, ap_cd d (ap_old (L 1)), ap_cs w d st (ap_old (L 1)), tg, hi, mi, go + 1), rfl, rfl, va_up (va_up f_1 1 f_3) 3 f_5, hfx_6, by rw [ht]; exact hP, va_K.moved hW.alike hK, hD⟩, hS.F ht⟩) hS.2.2 dX1_oldestGoes_20
set_option maxHeartbeats 4000000 in
set_option maxRecDepth 100000 in
theorem c_X_old1e (l : Launch) (dC : Nat → ClassId) (dI : Nat → Nat → Nat) (q : Nat → Nat) (ca : Nat → ClassId) (C : Nat) (L : Nat → List Int32) (f : Nat → Nat → Int32) (w d st : Nat → Int32) (tg : Nat) (hi mi go : Int32)  (sz : Nat) (hf : fx_ok f L) (hI : ap_inv L) (hz : ap_tot L ≤ 48) (he : L 1 = []) : Met l yX1_oldestGoes wsX1_oldestGoes ({ frames := 2, cells := 0, slots := 0, locals := 82 }) (va_Pc [.ref (q 0), .ref (q 1), .ref (q 3)] (fun U => U.heap.size = sz ∧ va_P (dC, dI) vwCl (cx q ca C L f w d st tg hi mi go) U.heap ∧ va_K (dC, dI) vwCl (kx ca) U ∧ va_D (fun _ => True) (cx q ca C L f w d st tg hi mi go) ∧ va_Nw (.methodLinkNest RX0 23 yX1_isAddress "ArcCache") U)) (va_Qv (fun (u : ap_U) => u = (L, w, d, st, tg, hi, mi, go)) (at_X dC dI (va_A (cx q ca C L f w d st tg hi mi go) sz) q ca C) (va_A (cx q ca C L f w d st tg hi mi go) sz)) 0 0 (va_A (cx q ca C L f w d st tg hi mi go) sz) := by
  refine Met.ofW (cc := cX1_oldestGoes) (maxL := 4) (ret := none) (by decide) rfl ?_
  intro p e s m args below meth c s₁ B hml hv
  obtain ⟨rfl, hsz, hP, hK, hD0, hN⟩ := hv
  have hx := B.exec
  have hb := B.bytes
  have hr := B.returns
  have hts := atoms_spec (ws := wsX1_oldestGoes) B.pre
  have hown : s.vm.findClass RX1 = some m.cls := findClass_of_methodNamed B.named
  have hlocks := B.notSynchronized
  have hwX1 : ∀ w ∈ u_ws RX1 TX1 12, w ∈ wsX1_oldestGoes := by decide +kernel
  subst hsz
  have hD := hD0.self (sz := s.heap.size)
  generalize hAe : va_A (cx q ca C L f w d st tg hi mi go) s.heap.size = A at hD ⊢
  have hA : ∀ q : Nat, s.heap.size ≤ q → A q := fun q h => by rw [← hAe]; exact Or.inr h
  have hS0 : ∀ H, s.heap = H → va_S A s.heap H [] := fun H h => by subst h; exact va_S.rf
  have hl := lv_entry ([.ref (q 0), .ref (q 1), .ref (q 3)]) (n := 4) (Nat.le_of_ble_eq_true rfl)
  rw [lg_entry_eq]
  generalize (lg_sl ([.ref (q 0), .ref (q 1), .ref (q 3)]) ++ List.replicate (4 - (lg_sl ([.ref (q 0), .ref (q 1), .ref (q 3)])).length) Slot.unset).toArray = ls at hl ⊢
  have hl : lv_has ls 4 [(0, .ref (q 0)), (1, .ref (q 1)), (2, .ref (q 3))] := hl
  generalize hHe : s.heap = H at hP ⊢
  have hS := hS0 H hHe
  have z1 : (L 1).length ≤ 48 := by unfold ap_tot at hz; omega
  have z2 : (L 2).length ≤ 48 := by unfold ap_tot at hz; omega
  have z3 : (L 3).length ≤ 48 := by unfold ap_tot at hz; omega
  have z4 : (L 4).length ≤ 48 := by unfold ap_tot at hz; omega
  have hold9 : ap_old (L 1) = -1 := by rw [he]; rfl
  refine lv_aload_n hx hb dX1_oldestGoes_0 rfl (lv_at hl 1 rfl) ?_
  have hPc := hP.sub (ws' := (cal (q 1) (q 5) (ca 1) ((L 1).length) (f 1))) [1, 2] rfl
  have hDc := hD.sub (ws' := (cal (q 1) (q 5) (ca 1) ((L 1).length) (f 1))) [1, 2] (by decide) rfl
  have hKc := hK.sub (tys' := (kal (ca 1))) [0] rfl
  have hFc := va_free (wc := (cal (q 1) (q 5) (ca 1) ((L 1).length) (f 1))) hD hS hA [1, 2] rfl
  refine va_calli (va_runV (As := []) (rest := []) ⟨hx, hb, hml, hown, hts⟩ (c_A_oldest l dC dI (q 1) (q 5) (ca 1) (L 1) (f 1) H.size (Nat.le_trans z1 (by decide)) (hf 1 (by decide) (by decide))) (cwV 0 hts gX1_oldestGoes_X0_oldest rfl rfl rfl (by decide +kernel) ⟨Nat.le_of_ble_eq_true rfl, Nat.le_of_ble_eq_true rfl⟩) ⟨fun a U g mk q => by obtain ⟨q0, q1, qP, qK, qD⟩ := q; exact ⟨q0, q1, qP, va_K.moved (u := U) (U := U.calling g mk a) (Vm.Alike.refl U.vm) qK, qD⟩, va_recv hKc hPc (ci := 0) (q0 := 0) rfl rfl, fun U hU hW => ⟨rfl, by rw [hU], by rw [hU]; exact hPc, va_K.moved hW.alike hKc, hDc.weaken (fun _ _ _ _ => trivial)⟩⟩ rfl rfl hl.1 rfl (lv_room (Nat.le_of_ble_eq_true rfl)) dX1_oldestGoes_1 ⟨Nat.le_of_ble_eq_true rfl, Nat.le_of_ble_eq_true rfl⟩) hS (fun q _ h => hFc q h) hFc (fun r u t H1 locs ht hvm hw hB hz1 hk1 hS => ?_)
  obtain ⟨n1, f1⟩ := u
  obtain ⟨hP1, hK1, hD1⟩ := hB
  rw [ht] at hP1
  try dsimp only at hw hP1 hD1
  obtain ⟨hr9, hu⟩ := hw
  cases hu
  obtain ⟨hP, hD⟩ := va_join (wr := [(q 0, .inr (1, [.int (nI C), .ref (q 1), .ref (q 2), .ref (q 3), .ref (q 4), .ref (q 9), .ref (q 10), .ref (q 11), .int (nI tg), .int hi, .int mi, .int go])), (q 2, .inr (0, [.ref (q 6), .int (nI ((L 2).length))])), (q 6, .inl (ca 2, 64, .inl (f 2))), (q 3, .inr (0, [.ref (q 7), .int (nI ((L 3).length))])), (q 7, .inl (ca 3, 64, .inl (f 3))), (q 4, .inr (0, [.ref (q 8), .int (nI ((L 4).length))])), (q 8, .inl (ca 4, 64, .inl (f 4))), (q 9, .inl (ca 5, 64, .inl w)), (q 10, .inl (ca 6, 64, .inl d)), (q 11, .inl (ca 7, 64, .inl st))]) (w1 := (cal (q 1) (q 5) (ca 1) ((L 1).length) (f 1))) hP hD [1, 2] [0, 3, 4, 5, 6, 7, 8, 9, 10, 11] rfl rfl (by decide) (by decide) hk1 hFc hP1 hD1
  generalize H1 = H at hP hS ⊢
  replace hP := hP.sub (ws' := (cx q ca C L f w d st tg hi mi go)) [0, 10, 11, 1, 2, 3, 4, 5, 6, 7, 8, 9] rfl
  replace hD := hD.sub (ws' := (cx q ca C L f w d st tg hi mi go)) [0, 10, 11, 1, 2, 3, 4, 5, 6, 7, 8, 9] (by decide) rfl
  rw [hold9] at hr9
  subst hr9
  refine lv_istore_n (lv' := [(3, .int (-1)), (0, .ref (q 0)), (1, .ref (q 1)), (2, .ref (q 3))]) hx hb dX1_oldestGoes_4 rfl hl (by decide) rfl (fun ls hl => ?_)
  refine lv_aload_n hx hb dX1_oldestGoes_5 rfl (lv_at hl 1 rfl) ?_
  refine lv_iload_n hx hb dX1_oldestGoes_6 rfl (lv_at hl 0 rfl) ?_
  have hPc := hP.sub (ws' := (cx q ca C L f w d st tg hi mi go)) [0, 1, 2, 3, 4, 5, 6, 7, 8, 9, 10, 11] rfl
  have hDc := hD.sub (ws' := (cx q ca C L f w d st tg hi mi go)) [0, 1, 2, 3, 4, 5, 6, 7, 8, 9, 10, 11] (by decide) rfl
  have hKc := hK.sub (tys' := (kx ca)) [0, 1, 2, 3, 4, 5, 6] rfl
  have hFc := va_free (wc := (cx q ca C L f w d st tg hi mi go)) hD hS hA [0, 1, 2, 3, 4, 5, 6, 7, 8, 9, 10, 11] rfl
  refine va_callv (va_runV (As := [.int (-1)]) (rest := []) ⟨hx, hb, hml, hown, hts⟩ (c_X_pageGoes0 l dC dI q ca C L f w d st tg hi mi go H.size hf) (cwV 1 hts gX1_oldestGoes_X1_pageGoes rfl rfl rfl (by decide +kernel) ⟨Nat.le_of_ble_eq_true rfl, Nat.le_of_ble_eq_true rfl⟩) ⟨fun a U g mk q => by obtain ⟨q0, q1, qP, qK, qD⟩ := q; exact ⟨q0, q1, qP, va_K.moved (u := U) (U := U.calling g mk a) (Vm.Alike.refl U.vm) qK, qD⟩, va_recv hKc hPc (ci := 1) (q0 := 0) rfl rfl, fun U hU hW => ⟨rfl, by rw [hU], by rw [hU]; exact hPc, va_K.moved hW.alike hKc, hDc.weaken (fun _ _ _ _ => trivial)⟩⟩ rfl rfl hl.1 rfl (lv_room (Nat.le_of_ble_eq_true rfl)) dX1_oldestGoes_7 ⟨Nat.le_of_ble_eq_true rfl, Nat.le_of_ble_eq_true rfl⟩) hS (fun q _ h => hFc q h) hFc (fun u t H1 locs ht hvm hw hB hz1 hk1 hS => ?_)
  obtain ⟨L1, w1, d1, st1, tg1, hi1, mi1, go1⟩ := u
  obtain ⟨f1, hf1, hP1, hK1, hD1⟩ := hB
  rw [ht] at hP1
  cases hw
  obtain ⟨f_1, ef_1⟩ : ∃ z, z = f1 := ⟨_, rfl⟩
  rw [← ef_1] at hf1 hP1 hD1
  clear ef_1 f1
  have hfx_2 := hf1
  obtain ⟨hP, hD⟩ := va_join (wr := []) (w1 := (cx q ca C L f_1 w d st tg hi mi go)) hP hD [0, 1, 2, 3, 4, 5, 6, 7, 8, 9, 10, 11] [] rfl rfl (by decide) (by decide) hk1 hFc hP1 hD1
  generalize H1 = H at hP hS ⊢
  replace hP : va_P (dC, dI) vwCl (cx q ca C L f_1 w d st tg hi mi go) H := hP
  replace hD : va_D A (cx q ca C L f_1 w d st tg hi mi go) := hD
  refine lv_aload_n hx hb dX1_oldestGoes_10 rfl (lv_at hl 2 rfl) ?_
  refine lv_iload_n hx hb dX1_oldestGoes_11 rfl (lv_at hl 0 rfl) ?_
  have hPc := hP.sub (ws' := (cal (q 1) (q 5) (ca 1) ((L 1).length) (f_1 1))) [1, 2] rfl
  have hDc := hD.sub (ws' := (cal (q 1) (q 5) (ca 1) ((L 1).length) (f_1 1))) [1, 2] (by decide) rfl
  have hKc := hK.sub (tys' := (kal (ca 1))) [0] rfl
  have hFc := va_free (wc := (cal (q 1) (q 5) (ca 1) ((L 1).length) (f_1 1))) hD hS hA [1, 2] rfl
  refine va_callv (va_runV (As := [.int (-1)]) (rest := []) ⟨hx, hb, hml, hown, hts⟩ (c_A_remove l dC dI (q 1) (q 5) (ca 1) (L 1) (f_1 1) (-1) H.size (Nat.le_trans z1 (by decide)) (hfx_2 1 (by decide) (by decide)) (hI.1 1)) (cwV 1 hts gX1_oldestGoes_X0_remove rfl rfl rfl (by decide +kernel) ⟨Nat.le_of_ble_eq_true rfl, Nat.le_of_ble_eq_true rfl⟩) ⟨fun a U g mk q => by obtain ⟨q0, q1, qP, qK, qD⟩ := q; exact ⟨q0, q1, qP, va_K.moved (u := U) (U := U.calling g mk a) (Vm.Alike.refl U.vm) qK, qD⟩, va_recv hKc hPc (ci := 0) (q0 := 0) rfl rfl, fun U hU hW => ⟨rfl, by rw [hU], by rw [hU]; exact hPc, va_K.moved hW.alike hKc, hDc.weaken (fun _ _ _ _ => trivial)⟩⟩ rfl rfl hl.1 rfl (lv_room (Nat.le_of_ble_eq_true rfl)) dX1_oldestGoes_12 ⟨Nat.le_of_ble_eq_true rfl, Nat.le_of_ble_eq_true rfl⟩) hS (fun q _ h => hFc q h) hFc (fun u t H1 locs ht hvm hw hB hz1 hk1 hS => ?_)
  obtain ⟨n1, f1⟩ := u
  obtain ⟨hP1, hK1, hD1⟩ := hB
  rw [ht] at hP1
  try dsimp only at hw hP1 hD1
  rw [ap_rm_nil he] at hw
  obtain ⟨hn9, hf9⟩ := hw
  subst hn9
  obtain ⟨f_3, ef_3⟩ : ∃ z, z = f1 := ⟨_, rfl⟩
  rw [← ef_3] at hf9 hP1 hD1
  clear ef_3 f1
  have hfx_4 := fx_same (k := 1) hfx_2 hf9
  obtain ⟨hP, hD⟩ := va_join (wr := [(q 0, .inr (1, [.int (nI C), .ref (q 1), .ref (q 2), .ref (q 3), .ref (q 4), .ref (q 9), .ref (q 10), .ref (q 11), .int (nI tg), .int hi, .int mi, .int go])), (q 2, .inr (0, [.ref (q 6), .int (nI ((L 2).length))])), (q 6, .inl (ca 2, 64, .inl (f_1 2))), (q 3, .inr (0, [.ref (q 7), .int (nI ((L 3).length))])), (q 7, .inl (ca 3, 64, .inl (f_1 3))), (q 4, .inr (0, [.ref (q 8), .int (nI ((L 4).length))])), (q 8, .inl (ca 4, 64, .inl (f_1 4))), (q 9, .inl (ca 5, 64, .inl w)), (q 10, .inl (ca 6, 64, .inl d)), (q 11, .inl (ca 7, 64, .inl st))]) (w1 := (cal (q 1) (q 5) (ca 1) ((L 1).length) f_3)) hP hD [1, 2] [0, 3, 4, 5, 6, 7, 8, 9, 10, 11] rfl rfl (by decide) (by decide) hk1 hFc hP1 hD1
  generalize H1 = H at hP hS ⊢
  replace hP := hP.sub (ws' := (cx q ca C L (va_up f_1 1 f_3) w d st tg hi mi go)) [0, 10, 11, 1, 2, 3, 4, 5, 6, 7, 8, 9] rfl
  replace hD := hD.sub (ws' := (cx q ca C L (va_up f_1 1 f_3) w d st tg hi mi go)) [0, 10, 11, 1, 2, 3, 4, 5, 6, 7, 8, 9] (by decide) rfl
  refine lv_aload_n hx hb dX1_oldestGoes_15 rfl (lv_at hl 3 rfl) ?_
  refine lv_iload_n hx hb dX1_oldestGoes_16 rfl (lv_at hl 0 rfl) ?_
  have hPc := hP.sub (ws' := (cal (q 3) (q 7) (ca 3) ((L 3).length) ((va_up f_1 1 f_3) 3))) [5, 6] rfl
  have hDc := hD.sub (ws' := (cal (q 3) (q 7) (ca 3) ((L 3).length) ((va_up f_1 1 f_3) 3))) [5, 6] (by decide) rfl
  have hKc := hK.sub (tys' := (kal (ca 3))) [2] rfl
  have hFc := va_free (wc := (cal (q 3) (q 7) (ca 3) ((L 3).length) ((va_up f_1 1 f_3) 3))) hD hS hA [5, 6] rfl
  refine va_callv (va_runV (As := [.int (-1)]) (rest := []) ⟨hx, hb, hml, hown, hts⟩ (c_A_addNewest l dC dI (q 3) (q 7) (ca 3) (L 3) ((va_up f_1 1 f_3) 3) (-1) H.size (Nat.lt_of_le_of_lt z3 (by decide)) (hfx_4 3 (by decide) (by decide))) (cwV 1 hts gX1_oldestGoes_X0_addNewest rfl rfl rfl (by decide +kernel) ⟨Nat.le_of_ble_eq_true rfl, Nat.le_of_ble_eq_true rfl⟩) ⟨fun a U g mk q => by obtain ⟨q0, q1, qP, qK, qD, qN⟩ := q; exact ⟨q0, q1, qP, va_K.moved (u := U) (U := U.calling g mk a) (Vm.Alike.refl U.vm) qK, qD, va_tabs rfl (rfl : U.vm = (U.calling g mk a).vm) qN⟩, va_recv hKc hPc (ci := 0) (q0 := 0) rfl rfl, fun U hU hW => ⟨rfl, by rw [hU], by rw [hU]; exact hPc, va_K.moved hW.alike hKc, hDc.weaken (fun _ _ _ _ => trivial), va_Nw.warmM hW hN⟩⟩ rfl rfl hl.1 rfl (lv_room (Nat.le_of_ble_eq_true rfl)) dX1_oldestGoes_17 ⟨Nat.le_of_ble_eq_true rfl, Nat.le_of_ble_eq_true rfl⟩) hS (fun q _ h => hFc q h) hFc (fun u t H1 locs ht hvm hw hB hz1 hk1 hS => ?_)
  obtain ⟨n1, f1⟩ := u
  obtain ⟨hP1, hK1, hD1⟩ := hB
  rw [ht] at hP1
  try dsimp only at hw hP1 hD1
  rw [al_add_no] at hw
  obtain ⟨hn9, hf9⟩ := hw
  subst hn9
  obtain ⟨f_5, ef_5⟩ : ∃ z, z = f1 := ⟨_, rfl⟩
  rw [← ef_5] at hf9 hP1 hD1
  clear ef_5 f1
  have hfx_6 := fx_same (k := 3) hfx_4 hf9
  obtain ⟨hP, hD⟩ := va_join (wr := [(q 0, .inr (1, [.int (nI C), .ref (q 1), .ref (q 2), .ref (q 3), .ref (q 4), .ref (q 9), .ref (q 10), .ref (q 11), .int (nI tg), .int hi, .int mi, .int go])), (q 1, .inr (0, [.ref (q 5), .int (nI ((L 1).length))])), (q 5, .inl (ca 1, 64, .inl ((va_up f_1 1 f_3) 1))), (q 2, .inr (0, [.ref (q 6), .int (nI ((L 2).length))])), (q 6, .inl (ca 2, 64, .inl ((va_up f_1 1 f_3) 2))), (q 4, .inr (0, [.ref (q 8), .int (nI ((L 4).length))])), (q 8, .inl (ca 4, 64, .inl ((va_up f_1 1 f_3) 4))), (q 9, .inl (ca 5, 64, .inl w)), (q 10, .inl (ca 6, 64, .inl d)), (q 11, .inl (ca 7, 64, .inl st))]) (w1 := (cal (q 3) (q 7) (ca 3) ((L 3).length) f_5)) hP hD [5, 6] [0, 1, 2, 3, 4, 7, 8, 9, 10, 11] rfl rfl (by decide) (by decide) hk1 hFc hP1 hD1
  generalize H1 = H at hP hS ⊢
  replace hP := hP.sub (ws' := (cx q ca C L (va_up (va_up f_1 1 f_3) 3 f_5) w d st tg hi mi go)) [0, 1, 2, 3, 4, 10, 11, 5, 6, 7, 8, 9] rfl
  replace hD := hD.sub (ws' := (cx q ca C L (va_up (va_up f_1 1 f_3) 3 f_5) w d st tg hi mi go)) [0, 1, 2, 3, 4, 10, 11, 5, 6, 7, 8, 9] (by decide) rfl
  exact W.vret hx hb hr (fun t ht hW => ⟨⟨(L, w, d, st, tg, hi, mi, go), rfl, rfl, va_up (va_up f_1 1 f_3) 3 f_5, hfx_6, by rw [ht]; exact hP, va_K.moved hW.alike hK, hD⟩, hS.F ht⟩) hS.2.2 dX1_oldestGoes_20
set_option maxHeartbeats 4000000 in
set_option maxRecDepth 100000 in
theorem c_X_old2 (l : Launch) (dC : Nat → ClassId) (dI : Nat → Nat → Nat) (q : Nat → Nat) (ca : Nat → ClassId) (C : Nat) (L : Nat → List Int32) (f : Nat → Nat → Int32) (w d st : Nat → Int32) (tg : Nat) (hi mi go : Int32)  (sz : Nat) (hf : fx_ok f L) (hI : ap_inv L) (hz : ap_tot L ≤ 48) (he : L 2 ≠ []) : Met l yX1_oldestGoes wsX1_oldestGoes ({ frames := 2, cells := 0, slots := 0, locals := 82 }) (va_Pc [.ref (q 0), .ref (q 2), .ref (q 4)] (fun U => U.heap.size = sz ∧ va_P (dC, dI) vwCl (cx q ca C L f w d st tg hi mi go) U.heap ∧ va_K (dC, dI) vwCl (kx ca) U ∧ va_D (fun _ => True) (cx q ca C L f w d st tg hi mi go) ∧ va_Nw (.methodLinkNest RX0 23 yX1_isAddress "ArcCache") U)) (va_Qv (fun (u : ap_U) => u = (ap_mv L (ap_old (L 2)) 2 4, w, ap_cd d (ap_old (L 2)), ap_cs w d st (ap_old (L 2)), tg, hi, mi, go + 1)) (at_X dC dI (va_A (cx q ca C L f w d st tg hi mi go) sz) q ca C) (va_A (cx q ca C L f w d st tg hi mi go) sz)) 0 0 (va_A (cx q ca C L f w d st tg hi mi go) sz) := by
  refine Met.ofW (cc := cX1_oldestGoes) (maxL := 4) (ret := none) (by decide) rfl ?_
  intro p e s m args below meth c s₁ B hml hv
  obtain ⟨rfl, hsz, hP, hK, hD0, hN⟩ := hv
  have hx := B.exec
  have hb := B.bytes
  have hr := B.returns
  have hts := atoms_spec (ws := wsX1_oldestGoes) B.pre
  have hown : s.vm.findClass RX1 = some m.cls := findClass_of_methodNamed B.named
  have hlocks := B.notSynchronized
  have hwX1 : ∀ w ∈ u_ws RX1 TX1 12, w ∈ wsX1_oldestGoes := by decide +kernel
  subst hsz
  have hD := hD0.self (sz := s.heap.size)
  generalize hAe : va_A (cx q ca C L f w d st tg hi mi go) s.heap.size = A at hD ⊢
  have hA : ∀ q : Nat, s.heap.size ≤ q → A q := fun q h => by rw [← hAe]; exact Or.inr h
  have hS0 : ∀ H, s.heap = H → va_S A s.heap H [] := fun H h => by subst h; exact va_S.rf
  have hl := lv_entry ([.ref (q 0), .ref (q 2), .ref (q 4)]) (n := 4) (Nat.le_of_ble_eq_true rfl)
  rw [lg_entry_eq]
  generalize (lg_sl ([.ref (q 0), .ref (q 2), .ref (q 4)]) ++ List.replicate (4 - (lg_sl ([.ref (q 0), .ref (q 2), .ref (q 4)])).length) Slot.unset).toArray = ls at hl ⊢
  have hl : lv_has ls 4 [(0, .ref (q 0)), (1, .ref (q 2)), (2, .ref (q 4))] := hl
  generalize hHe : s.heap = H at hP ⊢
  have hS := hS0 H hHe
  have z1 : (L 1).length ≤ 48 := by unfold ap_tot at hz; omega
  have z2 : (L 2).length ≤ 48 := by unfold ap_tot at hz; omega
  have z3 : (L 3).length ≤ 48 := by unfold ap_tot at hz; omega
  have z4 : (L 4).length ≤ 48 := by unfold ap_tot at hz; omega
  have hx64 : vp_in (ap_old (L 2)) 64 := ap_old_in hI he
  refine lv_aload_n hx hb dX1_oldestGoes_0 rfl (lv_at hl 1 rfl) ?_
  have hPc := hP.sub (ws' := (cal (q 2) (q 6) (ca 2) ((L 2).length) (f 2))) [3, 4] rfl
  have hDc := hD.sub (ws' := (cal (q 2) (q 6) (ca 2) ((L 2).length) (f 2))) [3, 4] (by decide) rfl
  have hKc := hK.sub (tys' := (kal (ca 2))) [1] rfl
  have hFc := va_free (wc := (cal (q 2) (q 6) (ca 2) ((L 2).length) (f 2))) hD hS hA [3, 4] rfl
  refine va_calli (va_runV (As := []) (rest := []) ⟨hx, hb, hml, hown, hts⟩ (c_A_oldest l dC dI (q 2) (q 6) (ca 2) (L 2) (f 2) H.size (Nat.le_trans z2 (by decide)) (hf 2 (by decide) (by decide))) (cwV 0 hts gX1_oldestGoes_X0_oldest rfl rfl rfl (by decide +kernel) ⟨Nat.le_of_ble_eq_true rfl, Nat.le_of_ble_eq_true rfl⟩) ⟨fun a U g mk q => by obtain ⟨q0, q1, qP, qK, qD⟩ := q; exact ⟨q0, q1, qP, va_K.moved (u := U) (U := U.calling g mk a) (Vm.Alike.refl U.vm) qK, qD⟩, va_recv hKc hPc (ci := 0) (q0 := 0) rfl rfl, fun U hU hW => ⟨rfl, by rw [hU], by rw [hU]; exact hPc, va_K.moved hW.alike hKc, hDc.weaken (fun _ _ _ _ => trivial)⟩⟩ rfl rfl hl.1 rfl (lv_room (Nat.le_of_ble_eq_true rfl)) dX1_oldestGoes_1 ⟨Nat.le_of_ble_eq_true rfl, Nat.le_of_ble_eq_true rfl⟩) hS (fun q _ h => hFc q h) hFc (fun r u t H1 locs ht hvm hw hB hz1 hk1 hS => ?_)
  obtain ⟨n1, f1⟩ := u
  obtain ⟨hP1, hK1, hD1⟩ := hB
  rw [ht] at hP1
  try dsimp only at hw hP1 hD1
  obtain ⟨hr9, hu⟩ := hw
  cases hu
  obtain ⟨hP, hD⟩ := va_join (wr := [(q 0, .inr (1, [.int (nI C), .ref (q 1), .ref (q 2), .ref (q 3), .ref (q 4), .ref (q 9), .ref (q 10), .ref (q 11), .int (nI tg), .int hi, .int mi, .int go])), (q 1, .inr (0, [.ref (q 5), .int (nI ((L 1).length))])), (q 5, .inl (ca 1, 64, .inl (f 1))), (q 3, .inr (0, [.ref (q 7), .int (nI ((L 3).length))])), (q 7, .inl (ca 3, 64, .inl (f 3))), (q 4, .inr (0, [.ref (q 8), .int (nI ((L 4).length))])), (q 8, .inl (ca 4, 64, .inl (f 4))), (q 9, .inl (ca 5, 64, .inl w)), (q 10, .inl (ca 6, 64, .inl d)), (q 11, .inl (ca 7, 64, .inl st))]) (w1 := (cal (q 2) (q 6) (ca 2) ((L 2).length) (f 2))) hP hD [3, 4] [0, 1, 2, 5, 6, 7, 8, 9, 10, 11] rfl rfl (by decide) (by decide) hk1 hFc hP1 hD1
  generalize H1 = H at hP hS ⊢
  replace hP := hP.sub (ws' := (cx q ca C L f w d st tg hi mi go)) [0, 1, 2, 10, 11, 3, 4, 5, 6, 7, 8, 9] rfl
  replace hD := hD.sub (ws' := (cx q ca C L f w d st tg hi mi go)) [0, 1, 2, 10, 11, 3, 4, 5, 6, 7, 8, 9] (by decide) rfl
  subst hr9
  refine lv_istore_n (lv' := [(3, .int (ap_old (L 2))), (0, .ref (q 0)), (1, .ref (q 2)), (2, .ref (q 4))]) hx hb dX1_oldestGoes_4 rfl hl (by decide) rfl (fun ls hl => ?_)
  refine lv_aload_n hx hb dX1_oldestGoes_5 rfl (lv_at hl 1 rfl) ?_
  refine lv_iload_n hx hb dX1_oldestGoes_6 rfl (lv_at hl 0 rfl) ?_
  have hPc := hP.sub (ws' := (cx q ca C L f w d st tg hi mi go)) [0, 1, 2, 3, 4, 5, 6, 7, 8, 9, 10, 11] rfl
  have hDc := hD.sub (ws' := (cx q ca C L f w d st tg hi mi go)) [0, 1, 2, 3, 4, 5, 6, 7, 8, 9, 10, 11] (by decide) rfl
  have hKc := hK.sub (tys' := (kx ca)) [0, 1, 2, 3, 4, 5, 6] rfl
  have hFc := va_free (wc := (cx q ca C L f w d st tg hi mi go)) hD hS hA [0, 1, 2, 3, 4, 5, 6, 7, 8, 9, 10, 11] rfl
  refine va_callv (va_runV (As := [.int (ap_old (L 2))]) (rest := []) ⟨hx, hb, hml, hown, hts⟩ (c_X_pageGoes l dC dI q ca C L f w d st tg hi mi go (ap_old (L 2)) H.size hf hx64) (cwV 1 hts gX1_oldestGoes_X1_pageGoes rfl rfl rfl (by decide +kernel) ⟨Nat.le_of_ble_eq_true rfl, Nat.le_of_ble_eq_true rfl⟩) ⟨fun a U g mk q => by obtain ⟨q0, q1, qP, qK, qD⟩ := q; exact ⟨q0, q1, qP, va_K.moved (u := U) (U := U.calling g mk a) (Vm.Alike.refl U.vm) qK, qD⟩, va_recv hKc hPc (ci := 1) (q0 := 0) rfl rfl, fun U hU hW => ⟨rfl, by rw [hU], by rw [hU]; exact hPc, va_K.moved hW.alike hKc, hDc.weaken (fun _ _ _ _ => trivial)⟩⟩ rfl rfl hl.1 rfl (lv_room (Nat.le_of_ble_eq_true rfl)) dX1_oldestGoes_7 ⟨Nat.le_of_ble_eq_true rfl, Nat.le_of_ble_eq_true rfl⟩) hS (fun q _ h => hFc q h) hFc (fun u t H1 locs ht hvm hw hB hz1 hk1 hS => ?_)
  obtain ⟨L1, w1, d1, st1, tg1, hi1, mi1, go1⟩ := u
  obtain ⟨f1, hf1, hP1, hK1, hD1⟩ := hB
  rw [ht] at hP1
  cases hw
  obtain ⟨f_1, ef_1⟩ : ∃ z, z = f1 := ⟨_, rfl⟩
  rw [← ef_1] at hf1 hP1 hD1
  clear ef_1 f1
  have hfx_2 := hf1
  obtain ⟨hP, hD⟩ := va_join (wr := []) (w1 := (cx q ca C L f_1 w (ap_cd d (ap_old (L 2))) (ap_cs w d st (ap_old (L 2))) tg hi mi (go + 1))) hP hD [0, 1, 2, 3, 4, 5, 6, 7, 8, 9, 10, 11] [] rfl rfl (by decide) (by decide) hk1 hFc hP1 hD1
  generalize H1 = H at hP hS ⊢
  replace hP : va_P (dC, dI) vwCl (cx q ca C L f_1 w (ap_cd d (ap_old (L 2))) (ap_cs w d st (ap_old (L 2))) tg hi mi (go + 1)) H := hP
  replace hD : va_D A (cx q ca C L f_1 w (ap_cd d (ap_old (L 2))) (ap_cs w d st (ap_old (L 2))) tg hi mi (go + 1)) := hD
  refine lv_aload_n hx hb dX1_oldestGoes_10 rfl (lv_at hl 2 rfl) ?_
  refine lv_iload_n hx hb dX1_oldestGoes_11 rfl (lv_at hl 0 rfl) ?_
  have hPc := hP.sub (ws' := (cal (q 2) (q 6) (ca 2) ((L 2).length) (f_1 2))) [3, 4] rfl
  have hDc := hD.sub (ws' := (cal (q 2) (q 6) (ca 2) ((L 2).length) (f_1 2))) [3, 4] (by decide) rfl
  have hKc := hK.sub (tys' := (kal (ca 2))) [1] rfl
  have hFc := va_free (wc := (cal (q 2) (q 6) (ca 2) ((L 2).length) (f_1 2))) hD hS hA [3, 4] rfl
  refine va_callv (va_runV (As := [.int (ap_old (L 2))]) (rest := []) ⟨hx, hb, hml, hown, hts⟩ (c_A_remove l dC dI (q 2) (q 6) (ca 2) (L 2) (f_1 2) (ap_old (L 2)) H.size (Nat.le_trans z2 (by decide)) (hfx_2 2 (by decide) (by decide)) (hI.1 2)) (cwV 1 hts gX1_oldestGoes_X0_remove rfl rfl rfl (by decide +kernel) ⟨Nat.le_of_ble_eq_true rfl, Nat.le_of_ble_eq_true rfl⟩) ⟨fun a U g mk q => by obtain ⟨q0, q1, qP, qK, qD⟩ := q; exact ⟨q0, q1, qP, va_K.moved (u := U) (U := U.calling g mk a) (Vm.Alike.refl U.vm) qK, qD⟩, va_recv hKc hPc (ci := 0) (q0 := 0) rfl rfl, fun U hU hW => ⟨rfl, by rw [hU], by rw [hU]; exact hPc, va_K.moved hW.alike hKc, hDc.weaken (fun _ _ _ _ => trivial)⟩⟩ rfl rfl hl.1 rfl (lv_room (Nat.le_of_ble_eq_true rfl)) dX1_oldestGoes_12 ⟨Nat.le_of_ble_eq_true rfl, Nat.le_of_ble_eq_true rfl⟩) hS (fun q _ h => hFc q h) hFc (fun u t H1 locs ht hvm hw hB hz1 hk1 hS => ?_)
  obtain ⟨n1, f1⟩ := u
  obtain ⟨hP1, hK1, hD1⟩ := hB
  rw [ht] at hP1
  try dsimp only at hw hP1 hD1
  obtain ⟨hn9, hf9⟩ := hw
  subst hn9
  obtain ⟨f_3, ef_3⟩ : ∃ z, z = f1 := ⟨_, rfl⟩
  rw [← ef_3] at hf9 hP1 hD1
  clear ef_3 f1
  have hfx_4 := fx_up (k := 2) hfx_2 hf9
  obtain ⟨hP, hD⟩ := va_join (wr := [(q 0, .inr (1, [.int (nI C), .ref (q 1), .ref (q 2), .ref (q 3), .ref (q 4), .ref (q 9), .ref (q 10), .ref (q 11), .int (nI tg), .int hi, .int mi, .int (go + 1)])), (q 1, .inr (0, [.ref (q 5), .int (nI ((L 1).length))])), (q 5, .inl (ca 1, 64, .inl (f_1 1))), (q 3, .inr (0, [.ref (q 7), .int (nI ((L 3).length))])), (q 7, .inl (ca 3, 64, .inl (f_1 3))), (q 4, .inr (0, [.ref (q 8), .int (nI ((L 4).length))])), (q 8, .inl (ca 4, 64, .inl (f_1 4))), (q 9, .inl (ca 5, 64, .inl w)), (q 10, .inl (ca 6, 64, .inl (ap_cd d (ap_old (L 2))))), (q 11, .inl (ca 7, 64, .inl (ap_cs w d st (ap_old (L 2)))))]) (w1 := (cal (q 2) (q 6) (ca 2) ((ap_rm (ap_old (L 2)) (L 2)).length) f_3)) hP hD [3, 4] [0, 1, 2, 5, 6, 7, 8, 9, 10, 11] rfl rfl (by decide) (by decide) hk1 hFc hP1 hD1
  generalize H1 = H at hP hS ⊢
  replace hP := hP.sub (ws' := (cx q ca C (va_up L 2 (ap_rm (ap_old (L 2)) (L 2))) (va_up f_1 2 f_3) w (ap_cd d (ap_old (L 2))) (ap_cs w d st (ap_old (L 2))) tg hi mi (go + 1))) [0, 1, 2, 10, 11, 3, 4, 5, 6, 7, 8, 9] rfl
  replace hD := hD.sub (ws' := (cx q ca C (va_up L 2 (ap_rm (ap_old (L 2)) (L 2))) (va_up f_1 2 f_3) w (ap_cd d (ap_old (L 2))) (ap_cs w d st (ap_old (L 2))) tg hi mi (go + 1))) [0, 1, 2, 10, 11, 3, 4, 5, 6, 7, 8, 9] (by decide) rfl
  refine lv_aload_n hx hb dX1_oldestGoes_15 rfl (lv_at hl 3 rfl) ?_
  refine lv_iload_n hx hb dX1_oldestGoes_16 rfl (lv_at hl 0 rfl) ?_
  have hPc := hP.sub (ws' := (cal (q 4) (q 8) (ca 4) (((va_up L 2 (ap_rm (ap_old (L 2)) (L 2))) 4).length) ((va_up f_1 2 f_3) 4))) [7, 8] rfl
  have hDc := hD.sub (ws' := (cal (q 4) (q 8) (ca 4) (((va_up L 2 (ap_rm (ap_old (L 2)) (L 2))) 4).length) ((va_up f_1 2 f_3) 4))) [7, 8] (by decide) rfl
  have hKc := hK.sub (tys' := (kal (ca 4))) [3] rfl
  have hFc := va_free (wc := (cal (q 4) (q 8) (ca 4) (((va_up L 2 (ap_rm (ap_old (L 2)) (L 2))) 4).length) ((va_up f_1 2 f_3) 4))) hD hS hA [7, 8] rfl
  refine va_callv (va_runV (As := [.int (ap_old (L 2))]) (rest := []) ⟨hx, hb, hml, hown, hts⟩ (c_A_addNewest l dC dI (q 4) (q 8) (ca 4) ((va_up L 2 (ap_rm (ap_old (L 2)) (L 2))) 4) ((va_up f_1 2 f_3) 4) (ap_old (L 2)) H.size (Nat.lt_of_le_of_lt z4 (by decide)) (hfx_4 4 (by decide) (by decide))) (cwV 1 hts gX1_oldestGoes_X0_addNewest rfl rfl rfl (by decide +kernel) ⟨Nat.le_of_ble_eq_true rfl, Nat.le_of_ble_eq_true rfl⟩) ⟨fun a U g mk q => by obtain ⟨q0, q1, qP, qK, qD, qN⟩ := q; exact ⟨q0, q1, qP, va_K.moved (u := U) (U := U.calling g mk a) (Vm.Alike.refl U.vm) qK, qD, va_tabs rfl (rfl : U.vm = (U.calling g mk a).vm) qN⟩, va_recv hKc hPc (ci := 0) (q0 := 0) rfl rfl, fun U hU hW => ⟨rfl, by rw [hU], by rw [hU]; exact hPc, va_K.moved hW.alike hKc, hDc.weaken (fun _ _ _ _ => trivial), va_Nw.warmM hW hN⟩⟩ rfl rfl hl.1 rfl (lv_room (Nat.le_of_ble_eq_true rfl)) dX1_oldestGoes_17 ⟨Nat.le_of_ble_eq_true rfl, Nat.le_of_ble_eq_true rfl⟩) hS (fun q _ h => hFc q h) hFc (fun u t H1 locs ht hvm hw hB hz1 hk1 hS => ?_)
  obtain ⟨n1, f1⟩ := u
  obtain ⟨hP1, hK1, hD1⟩ := hB
  rw [ht] at hP1
  try dsimp only at hw hP1 hD1
  rw [al_add_in hx64] at hw
  obtain ⟨hn9, hf9⟩ := hw
  subst hn9
  obtain ⟨f_5, ef_5⟩ : ∃ z, z = f1 := ⟨_, rfl⟩
  rw [← ef_5] at hf9 hP1 hD1
  clear ef_5 f1
  have hfx_6 := fx_up (k := 4) hfx_4 hf9
  obtain ⟨hP, hD⟩ := va_join (wr := [(q 0, .inr (1, [.int (nI C), .ref (q 1), .ref (q 2), .ref (q 3), .ref (q 4), .ref (q 9), .ref (q 10), .ref (q 11), .int (nI tg), .int hi, .int mi, .int (go + 1)])), (q 1, .inr (0, [.ref (q 5), .int (nI (((va_up L 2 (ap_rm (ap_old (L 2)) (L 2))) 1).length))])), (q 5, .inl (ca 1, 64, .inl ((va_up f_1 2 f_3) 1))), (q 2, .inr (0, [.ref (q 6), .int (nI (((va_up L 2 (ap_rm (ap_old (L 2)) (L 2))) 2).length))])), (q 6, .inl (ca 2, 64, .inl ((va_up f_1 2 f_3) 2))), (q 3, .inr (0, [.ref (q 7), .int (nI (((va_up L 2 (ap_rm (ap_old (L 2)) (L 2))) 3).length))])), (q 7, .inl (ca 3, 64, .inl ((va_up f_1 2 f_3) 3))), (q 9, .inl (ca 5, 64, .inl w)), (q 10, .inl (ca 6, 64, .inl (ap_cd d (ap_old (L 2))))), (q 11, .inl (ca 7, 64, .inl (ap_cs w d st (ap_old (L 2)))))]) (w1 := (cal (q 4) (q 8) (ca 4) (((ap_old (L 2)) :: (va_up L 2 (ap_rm (ap_old (L 2)) (L 2))) 4).length) f_5)) hP hD [7, 8] [0, 1, 2, 3, 4, 5, 6, 9, 10, 11] rfl rfl (by decide) (by decide) hk1 hFc hP1 hD1
  generalize H1 = H at hP hS ⊢
  replace hP := hP.sub (ws' := (cx q ca C (va_up (va_up L 2 (ap_rm (ap_old (L 2)) (L 2))) 4 ((ap_old (L 2)) :: (va_up L 2 (ap_rm (ap_old (L 2)) (L 2))) 4)) (va_up (va_up f_1 2 f_3) 4 f_5) w (ap_cd d (ap_old (L 2))) (ap_cs w d st (ap_old (L 2))) tg hi mi (go + 1))) [0, 1, 2, 3, 4, 5, 6, 10, 11, 7, 8, 9] rfl
  replace hD := hD.sub (ws' := (cx q ca C (va_up (va_up L 2 (ap_rm (ap_old (L 2)) (L 2))) 4 ((ap_old (L 2)) :: (va_up L 2 (ap_rm (ap_old (L 2)) (L 2))) 4)) (va_up (va_up f_1 2 f_3) 4 f_5) w (ap_cd d (ap_old (L 2))) (ap_cs w d st (ap_old (L 2))) tg hi mi (go + 1))) [0, 1, 2, 3, 4, 5, 6, 10, 11, 7, 8, 9] (by decide) rfl
  exact W.vret hx hb hr (fun t ht hW => ⟨⟨(ap_mv L (ap_old (L 2)) 2 4, w, ap_cd d (ap_old (L 2)), ap_cs w d st (ap_old (L 2)), tg, hi, mi, go + 1), rfl, rfl, va_up (va_up f_1 2 f_3) 4 f_5, hfx_6, by rw [ht]; exact hP, va_K.moved hW.alike hK, hD⟩, hS.F ht⟩) hS.2.2 dX1_oldestGoes_20
set_option maxHeartbeats 4000000 in
set_option maxRecDepth 100000 in
theorem c_X_old2e (l : Launch) (dC : Nat → ClassId) (dI : Nat → Nat → Nat) (q : Nat → Nat) (ca : Nat → ClassId) (C : Nat) (L : Nat → List Int32) (f : Nat → Nat → Int32) (w d st : Nat → Int32) (tg : Nat) (hi mi go : Int32)  (sz : Nat) (hf : fx_ok f L) (hI : ap_inv L) (hz : ap_tot L ≤ 48) (he : L 2 = []) : Met l yX1_oldestGoes wsX1_oldestGoes ({ frames := 2, cells := 0, slots := 0, locals := 82 }) (va_Pc [.ref (q 0), .ref (q 2), .ref (q 4)] (fun U => U.heap.size = sz ∧ va_P (dC, dI) vwCl (cx q ca C L f w d st tg hi mi go) U.heap ∧ va_K (dC, dI) vwCl (kx ca) U ∧ va_D (fun _ => True) (cx q ca C L f w d st tg hi mi go) ∧ va_Nw (.methodLinkNest RX0 23 yX1_isAddress "ArcCache") U)) (va_Qv (fun (u : ap_U) => u = (L, w, d, st, tg, hi, mi, go)) (at_X dC dI (va_A (cx q ca C L f w d st tg hi mi go) sz) q ca C) (va_A (cx q ca C L f w d st tg hi mi go) sz)) 0 0 (va_A (cx q ca C L f w d st tg hi mi go) sz) := by
  refine Met.ofW (cc := cX1_oldestGoes) (maxL := 4) (ret := none) (by decide) rfl ?_
  intro p e s m args below meth c s₁ B hml hv
  obtain ⟨rfl, hsz, hP, hK, hD0, hN⟩ := hv
  have hx := B.exec
  have hb := B.bytes
  have hr := B.returns
  have hts := atoms_spec (ws := wsX1_oldestGoes) B.pre
  have hown : s.vm.findClass RX1 = some m.cls := findClass_of_methodNamed B.named
  have hlocks := B.notSynchronized
  have hwX1 : ∀ w ∈ u_ws RX1 TX1 12, w ∈ wsX1_oldestGoes := by decide +kernel
  subst hsz
  have hD := hD0.self (sz := s.heap.size)
  generalize hAe : va_A (cx q ca C L f w d st tg hi mi go) s.heap.size = A at hD ⊢
  have hA : ∀ q : Nat, s.heap.size ≤ q → A q := fun q h => by rw [← hAe]; exact Or.inr h
  have hS0 : ∀ H, s.heap = H → va_S A s.heap H [] := fun H h => by subst h; exact va_S.rf
  have hl := lv_entry ([.ref (q 0), .ref (q 2), .ref (q 4)]) (n := 4) (Nat.le_of_ble_eq_true rfl)
  rw [lg_entry_eq]
  generalize (lg_sl ([.ref (q 0), .ref (q 2), .ref (q 4)]) ++ List.replicate (4 - (lg_sl ([.ref (q 0), .ref (q 2), .ref (q 4)])).length) Slot.unset).toArray = ls at hl ⊢
  have hl : lv_has ls 4 [(0, .ref (q 0)), (1, .ref (q 2)), (2, .ref (q 4))] := hl
  generalize hHe : s.heap = H at hP ⊢
  have hS := hS0 H hHe
  have z1 : (L 1).length ≤ 48 := by unfold ap_tot at hz; omega
  have z2 : (L 2).length ≤ 48 := by unfold ap_tot at hz; omega
  have z3 : (L 3).length ≤ 48 := by unfold ap_tot at hz; omega
  have z4 : (L 4).length ≤ 48 := by unfold ap_tot at hz; omega
  have hold9 : ap_old (L 2) = -1 := by rw [he]; rfl
  refine lv_aload_n hx hb dX1_oldestGoes_0 rfl (lv_at hl 1 rfl) ?_
  have hPc := hP.sub (ws' := (cal (q 2) (q 6) (ca 2) ((L 2).length) (f 2))) [3, 4] rfl
  have hDc := hD.sub (ws' := (cal (q 2) (q 6) (ca 2) ((L 2).length) (f 2))) [3, 4] (by decide) rfl
  have hKc := hK.sub (tys' := (kal (ca 2))) [1] rfl
  have hFc := va_free (wc := (cal (q 2) (q 6) (ca 2) ((L 2).length) (f 2))) hD hS hA [3, 4] rfl
  refine va_calli (va_runV (As := []) (rest := []) ⟨hx, hb, hml, hown, hts⟩ (c_A_oldest l dC dI (q 2) (q 6) (ca 2) (L 2) (f 2) H.size (Nat.le_trans z2 (by decide)) (hf 2 (by decide) (by decide))) (cwV 0 hts gX1_oldestGoes_X0_oldest rfl rfl rfl (by decide +kernel) ⟨Nat.le_of_ble_eq_true rfl, Nat.le_of_ble_eq_true rfl⟩) ⟨fun a U g mk q => by obtain ⟨q0, q1, qP, qK, qD⟩ := q; exact ⟨q0, q1, qP, va_K.moved (u := U) (U := U.calling g mk a) (Vm.Alike.refl U.vm) qK, qD⟩, va_recv hKc hPc (ci := 0) (q0 := 0) rfl rfl, fun U hU hW => ⟨rfl, by rw [hU], by rw [hU]; exact hPc, va_K.moved hW.alike hKc, hDc.weaken (fun _ _ _ _ => trivial)⟩⟩ rfl rfl hl.1 rfl (lv_room (Nat.le_of_ble_eq_true rfl)) dX1_oldestGoes_1 ⟨Nat.le_of_ble_eq_true rfl, Nat.le_of_ble_eq_true rfl⟩) hS (fun q _ h => hFc q h) hFc (fun r u t H1 locs ht hvm hw hB hz1 hk1 hS => ?_)
  obtain ⟨n1, f1⟩ := u
  obtain ⟨hP1, hK1, hD1⟩ := hB
  rw [ht] at hP1
  try dsimp only at hw hP1 hD1
  obtain ⟨hr9, hu⟩ := hw
  cases hu
  obtain ⟨hP, hD⟩ := va_join (wr := [(q 0, .inr (1, [.int (nI C), .ref (q 1), .ref (q 2), .ref (q 3), .ref (q 4), .ref (q 9), .ref (q 10), .ref (q 11), .int (nI tg), .int hi, .int mi, .int go])), (q 1, .inr (0, [.ref (q 5), .int (nI ((L 1).length))])), (q 5, .inl (ca 1, 64, .inl (f 1))), (q 3, .inr (0, [.ref (q 7), .int (nI ((L 3).length))])), (q 7, .inl (ca 3, 64, .inl (f 3))), (q 4, .inr (0, [.ref (q 8), .int (nI ((L 4).length))])), (q 8, .inl (ca 4, 64, .inl (f 4))), (q 9, .inl (ca 5, 64, .inl w)), (q 10, .inl (ca 6, 64, .inl d)), (q 11, .inl (ca 7, 64, .inl st))]) (w1 := (cal (q 2) (q 6) (ca 2) ((L 2).length) (f 2))) hP hD [3, 4] [0, 1, 2, 5, 6, 7, 8, 9, 10, 11] rfl rfl (by decide) (by decide) hk1 hFc hP1 hD1
  generalize H1 = H at hP hS ⊢
  replace hP := hP.sub (ws' := (cx q ca C L f w d st tg hi mi go)) [0, 1, 2, 10, 11, 3, 4, 5, 6, 7, 8, 9] rfl
  replace hD := hD.sub (ws' := (cx q ca C L f w d st tg hi mi go)) [0, 1, 2, 10, 11, 3, 4, 5, 6, 7, 8, 9] (by decide) rfl
  rw [hold9] at hr9
  subst hr9
  refine lv_istore_n (lv' := [(3, .int (-1)), (0, .ref (q 0)), (1, .ref (q 2)), (2, .ref (q 4))]) hx hb dX1_oldestGoes_4 rfl hl (by decide) rfl (fun ls hl => ?_)
  refine lv_aload_n hx hb dX1_oldestGoes_5 rfl (lv_at hl 1 rfl) ?_
  refine lv_iload_n hx hb dX1_oldestGoes_6 rfl (lv_at hl 0 rfl) ?_
  have hPc := hP.sub (ws' := (cx q ca C L f w d st tg hi mi go)) [0, 1, 2, 3, 4, 5, 6, 7, 8, 9, 10, 11] rfl
  have hDc := hD.sub (ws' := (cx q ca C L f w d st tg hi mi go)) [0, 1, 2, 3, 4, 5, 6, 7, 8, 9, 10, 11] (by decide) rfl
  have hKc := hK.sub (tys' := (kx ca)) [0, 1, 2, 3, 4, 5, 6] rfl
  have hFc := va_free (wc := (cx q ca C L f w d st tg hi mi go)) hD hS hA [0, 1, 2, 3, 4, 5, 6, 7, 8, 9, 10, 11] rfl
  refine va_callv (va_runV (As := [.int (-1)]) (rest := []) ⟨hx, hb, hml, hown, hts⟩ (c_X_pageGoes0 l dC dI q ca C L f w d st tg hi mi go H.size hf) (cwV 1 hts gX1_oldestGoes_X1_pageGoes rfl rfl rfl (by decide +kernel) ⟨Nat.le_of_ble_eq_true rfl, Nat.le_of_ble_eq_true rfl⟩) ⟨fun a U g mk q => by obtain ⟨q0, q1, qP, qK, qD⟩ := q; exact ⟨q0, q1, qP, va_K.moved (u := U) (U := U.calling g mk a) (Vm.Alike.refl U.vm) qK, qD⟩, va_recv hKc hPc (ci := 1) (q0 := 0) rfl rfl, fun U hU hW => ⟨rfl, by rw [hU], by rw [hU]; exact hPc, va_K.moved hW.alike hKc, hDc.weaken (fun _ _ _ _ => trivial)⟩⟩ rfl rfl hl.1 rfl (lv_room (Nat.le_of_ble_eq_true rfl)) dX1_oldestGoes_7 ⟨Nat.le_of_ble_eq_true rfl, Nat.le_of_ble_eq_true rfl⟩) hS (fun q _ h => hFc q h) hFc (fun u t H1 locs ht hvm hw hB hz1 hk1 hS => ?_)
  obtain ⟨L1, w1, d1, st1, tg1, hi1, mi1, go1⟩ := u
  obtain ⟨f1, hf1, hP1, hK1, hD1⟩ := hB
  rw [ht] at hP1
  cases hw
  obtain ⟨f_1, ef_1⟩ : ∃ z, z = f1 := ⟨_, rfl⟩
  rw [← ef_1] at hf1 hP1 hD1
  clear ef_1 f1
  have hfx_2 := hf1
  obtain ⟨hP, hD⟩ := va_join (wr := []) (w1 := (cx q ca C L f_1 w d st tg hi mi go)) hP hD [0, 1, 2, 3, 4, 5, 6, 7, 8, 9, 10, 11] [] rfl rfl (by decide) (by decide) hk1 hFc hP1 hD1
  generalize H1 = H at hP hS ⊢
  replace hP : va_P (dC, dI) vwCl (cx q ca C L f_1 w d st tg hi mi go) H := hP
  replace hD : va_D A (cx q ca C L f_1 w d st tg hi mi go) := hD
  refine lv_aload_n hx hb dX1_oldestGoes_10 rfl (lv_at hl 2 rfl) ?_
  refine lv_iload_n hx hb dX1_oldestGoes_11 rfl (lv_at hl 0 rfl) ?_
  have hPc := hP.sub (ws' := (cal (q 2) (q 6) (ca 2) ((L 2).length) (f_1 2))) [3, 4] rfl
  have hDc := hD.sub (ws' := (cal (q 2) (q 6) (ca 2) ((L 2).length) (f_1 2))) [3, 4] (by decide) rfl
  have hKc := hK.sub (tys' := (kal (ca 2))) [1] rfl
  have hFc := va_free (wc := (cal (q 2) (q 6) (ca 2) ((L 2).length) (f_1 2))) hD hS hA [3, 4] rfl
  refine va_callv (va_runV (As := [.int (-1)]) (rest := []) ⟨hx, hb, hml, hown, hts⟩ (c_A_remove l dC dI (q 2) (q 6) (ca 2) (L 2) (f_1 2) (-1) H.size (Nat.le_trans z2 (by decide)) (hfx_2 2 (by decide) (by decide)) (hI.1 2)) (cwV 1 hts gX1_oldestGoes_X0_remove rfl rfl rfl (by decide +kernel) ⟨Nat.le_of_ble_eq_true rfl, Nat.le_of_ble_eq_true rfl⟩) ⟨fun a U g mk q => by obtain ⟨q0, q1, qP, qK, qD⟩ := q; exact ⟨q0, q1, qP, va_K.moved (u := U) (U := U.calling g mk a) (Vm.Alike.refl U.vm) qK, qD⟩, va_recv hKc hPc (ci := 0) (q0 := 0) rfl rfl, fun U hU hW => ⟨rfl, by rw [hU], by rw [hU]; exact hPc, va_K.moved hW.alike hKc, hDc.weaken (fun _ _ _ _ => trivial)⟩⟩ rfl rfl hl.1 rfl (lv_room (Nat.le_of_ble_eq_true rfl)) dX1_oldestGoes_12 ⟨Nat.le_of_ble_eq_true rfl, Nat.le_of_ble_eq_true rfl⟩) hS (fun q _ h => hFc q h) hFc (fun u t H1 locs ht hvm hw hB hz1 hk1 hS => ?_)
  obtain ⟨n1, f1⟩ := u
  obtain ⟨hP1, hK1, hD1⟩ := hB
  rw [ht] at hP1
  try dsimp only at hw hP1 hD1
  rw [ap_rm_nil he] at hw
  obtain ⟨hn9, hf9⟩ := hw
  subst hn9
  obtain ⟨f_3, ef_3⟩ : ∃ z, z = f1 := ⟨_, rfl⟩
  rw [← ef_3] at hf9 hP1 hD1
  clear ef_3 f1
  have hfx_4 := fx_same (k := 2) hfx_2 hf9
  obtain ⟨hP, hD⟩ := va_join (wr := [(q 0, .inr (1, [.int (nI C), .ref (q 1), .ref (q 2), .ref (q 3), .ref (q 4), .ref (q 9), .ref (q 10), .ref (q 11), .int (nI tg), .int hi, .int mi, .int go])), (q 1, .inr (0, [.ref (q 5), .int (nI ((L 1).length))])), (q 5, .inl (ca 1, 64, .inl (f_1 1))), (q 3, .inr (0, [.ref (q 7), .int (nI ((L 3).length))])), (q 7, .inl (ca 3, 64, .inl (f_1 3))), (q 4, .inr (0, [.ref (q 8), .int (nI ((L 4).length))])), (q 8, .inl (ca 4, 64, .inl (f_1 4))), (q 9, .inl (ca 5, 64, .inl w)), (q 10, .inl (ca 6, 64, .inl d)), (q 11, .inl (ca 7, 64, .inl st))]) (w1 := (cal (q 2) (q 6) (ca 2) ((L 2).length) f_3)) hP hD [3, 4] [0, 1, 2, 5, 6, 7, 8, 9, 10, 11] rfl rfl (by decide) (by decide) hk1 hFc hP1 hD1
  generalize H1 = H at hP hS ⊢
  replace hP := hP.sub (ws' := (cx q ca C L (va_up f_1 2 f_3) w d st tg hi mi go)) [0, 1, 2, 10, 11, 3, 4, 5, 6, 7, 8, 9] rfl
  replace hD := hD.sub (ws' := (cx q ca C L (va_up f_1 2 f_3) w d st tg hi mi go)) [0, 1, 2, 10, 11, 3, 4, 5, 6, 7, 8, 9] (by decide) rfl
  refine lv_aload_n hx hb dX1_oldestGoes_15 rfl (lv_at hl 3 rfl) ?_
  refine lv_iload_n hx hb dX1_oldestGoes_16 rfl (lv_at hl 0 rfl) ?_
  have hPc := hP.sub (ws' := (cal (q 4) (q 8) (ca 4) ((L 4).length) ((va_up f_1 2 f_3) 4))) [7, 8] rfl
  have hDc := hD.sub (ws' := (cal (q 4) (q 8) (ca 4) ((L 4).length) ((va_up f_1 2 f_3) 4))) [7, 8] (by decide) rfl
  have hKc := hK.sub (tys' := (kal (ca 4))) [3] rfl
  have hFc := va_free (wc := (cal (q 4) (q 8) (ca 4) ((L 4).length) ((va_up f_1 2 f_3) 4))) hD hS hA [7, 8] rfl
  refine va_callv (va_runV (As := [.int (-1)]) (rest := []) ⟨hx, hb, hml, hown, hts⟩ (c_A_addNewest l dC dI (q 4) (q 8) (ca 4) (L 4) ((va_up f_1 2 f_3) 4) (-1) H.size (Nat.lt_of_le_of_lt z4 (by decide)) (hfx_4 4 (by decide) (by decide))) (cwV 1 hts gX1_oldestGoes_X0_addNewest rfl rfl rfl (by decide +kernel) ⟨Nat.le_of_ble_eq_true rfl, Nat.le_of_ble_eq_true rfl⟩) ⟨fun a U g mk q => by obtain ⟨q0, q1, qP, qK, qD, qN⟩ := q; exact ⟨q0, q1, qP, va_K.moved (u := U) (U := U.calling g mk a) (Vm.Alike.refl U.vm) qK, qD, va_tabs rfl (rfl : U.vm = (U.calling g mk a).vm) qN⟩, va_recv hKc hPc (ci := 0) (q0 := 0) rfl rfl, fun U hU hW => ⟨rfl, by rw [hU], by rw [hU]; exact hPc, va_K.moved hW.alike hKc, hDc.weaken (fun _ _ _ _ => trivial), va_Nw.warmM hW hN⟩⟩ rfl rfl hl.1 rfl (lv_room (Nat.le_of_ble_eq_true rfl)) dX1_oldestGoes_17 ⟨Nat.le_of_ble_eq_true rfl, Nat.le_of_ble_eq_true rfl⟩) hS (fun q _ h => hFc q h) hFc (fun u t H1 locs ht hvm hw hB hz1 hk1 hS => ?_)
  obtain ⟨n1, f1⟩ := u
  obtain ⟨hP1, hK1, hD1⟩ := hB
  rw [ht] at hP1
  try dsimp only at hw hP1 hD1
  rw [al_add_no] at hw
  obtain ⟨hn9, hf9⟩ := hw
  subst hn9
  obtain ⟨f_5, ef_5⟩ : ∃ z, z = f1 := ⟨_, rfl⟩
  rw [← ef_5] at hf9 hP1 hD1
  clear ef_5 f1
  have hfx_6 := fx_same (k := 4) hfx_4 hf9
  obtain ⟨hP, hD⟩ := va_join (wr := [(q 0, .inr (1, [.int (nI C), .ref (q 1), .ref (q 2), .ref (q 3), .ref (q 4), .ref (q 9), .ref (q 10), .ref (q 11), .int (nI tg), .int hi, .int mi, .int go])), (q 1, .inr (0, [.ref (q 5), .int (nI ((L 1).length))])), (q 5, .inl (ca 1, 64, .inl ((va_up f_1 2 f_3) 1))), (q 2, .inr (0, [.ref (q 6), .int (nI ((L 2).length))])), (q 6, .inl (ca 2, 64, .inl ((va_up f_1 2 f_3) 2))), (q 3, .inr (0, [.ref (q 7), .int (nI ((L 3).length))])), (q 7, .inl (ca 3, 64, .inl ((va_up f_1 2 f_3) 3))), (q 9, .inl (ca 5, 64, .inl w)), (q 10, .inl (ca 6, 64, .inl d)), (q 11, .inl (ca 7, 64, .inl st))]) (w1 := (cal (q 4) (q 8) (ca 4) ((L 4).length) f_5)) hP hD [7, 8] [0, 1, 2, 3, 4, 5, 6, 9, 10, 11] rfl rfl (by decide) (by decide) hk1 hFc hP1 hD1
  generalize H1 = H at hP hS ⊢
  replace hP := hP.sub (ws' := (cx q ca C L (va_up (va_up f_1 2 f_3) 4 f_5) w d st tg hi mi go)) [0, 1, 2, 3, 4, 5, 6, 10, 11, 7, 8, 9] rfl
  replace hD := hD.sub (ws' := (cx q ca C L (va_up (va_up f_1 2 f_3) 4 f_5) w d st tg hi mi go)) [0, 1, 2, 3, 4, 5, 6, 10, 11, 7, 8, 9] (by decide) rfl
  exact W.vret hx hb hr (fun t ht hW => ⟨⟨(L, w, d, st, tg, hi, mi, go), rfl, rfl, va_up (va_up f_1 2 f_3) 4 f_5, hfx_6, by rw [ht]; exact hP, va_K.moved hW.alike hK, hD⟩, hS.F ht⟩) hS.2.2 dX1_oldestGoes_20
set_option maxHeartbeats 4000000 in
set_option maxRecDepth 100000 in
theorem c_X_makeRoom (l : Launch) (dC : Nat → ClassId) (dI : Nat → Nat → Nat) (q : Nat → Nat) (ca : Nat → ClassId) (C : Nat) (L : Nat → List Int32) (f : Nat → Nat → Int32) (w d st : Nat → Int32) (tg : Nat) (hi mi go : Int32) (x : Int32) (sz : Nat) (hf : fx_ok f L) (hI : ap_inv L) (hz : ap_tot L ≤ 48) (htg : tg ≤ 48) : Met l yX1_makeRoom wsX1_makeRoom ({ frames := 3, cells := 0, slots := 0, locals := 105 }) (va_Pc [.ref (q 0), .int x] (fun U => U.heap.size = sz ∧ va_P (dC, dI) vwCl (cx q ca C L f w d st tg hi mi go) U.heap ∧ va_K (dC, dI) vwCl (kx ca) U ∧ va_D (fun _ => True) (cx q ca C L f w d st tg hi mi go) ∧ va_Nw (.methodLinkNest RX0 23 yX1_isAddress "ArcCache") U)) (va_Qv (fun (u : ap_U) => u = ap_tu w tg hi mi (ap_mk w tg x (L, d, st, go))) (at_X dC dI (va_A (cx q ca C L f w d st tg hi mi go) sz) q ca C) (va_A (cx q ca C L f w d st tg hi mi go) sz)) 0 0 (va_A (cx q ca C L f w d st tg hi mi go) sz) := by
  refine Met.ofW (cc := cX1_makeRoom) (maxL := 4) (ret := none) (by decide) rfl ?_
  intro p e s m args below meth c s₁ B hml hv
  obtain ⟨rfl, hsz, hP, hK, hD0, hN⟩ := hv
  have hx := B.exec
  have hb := B.bytes
  have hr := B.returns
  have hts := atoms_spec (ws := wsX1_makeRoom) B.pre
  have hown : s.vm.findClass RX1 = some m.cls := findClass_of_methodNamed B.named
  have hlocks := B.notSynchronized
  have hwX1 : ∀ w ∈ u_ws RX1 TX1 12, w ∈ wsX1_makeRoom := by decide +kernel
  subst hsz
  have hD := hD0.self (sz := s.heap.size)
  generalize hAe : va_A (cx q ca C L f w d st tg hi mi go) s.heap.size = A at hD ⊢
  have hA : ∀ q : Nat, s.heap.size ≤ q → A q := fun q h => by rw [← hAe]; exact Or.inr h
  have hS0 : ∀ H, s.heap = H → va_S A s.heap H [] := fun H h => by subst h; exact va_S.rf
  have hl := lv_entry ([.ref (q 0), .int x]) (n := 4) (Nat.le_of_ble_eq_true rfl)
  rw [lg_entry_eq]
  generalize (lg_sl ([.ref (q 0), .int x]) ++ List.replicate (4 - (lg_sl ([.ref (q 0), .int x])).length) Slot.unset).toArray = ls at hl ⊢
  have hl : lv_has ls 4 [(0, .ref (q 0)), (1, .int x)] := hl
  generalize hHe : s.heap = H at hP ⊢
  have hS := hS0 H hHe
  have z1 : (L 1).length ≤ 48 := by unfold ap_tot at hz; omega
  have z2 : (L 2).length ≤ 48 := by unfold ap_tot at hz; omega
  have z3 : (L 3).length ≤ 48 := by unfold ap_tot at hz; omega
  have z4 : (L 4).length ≤ 48 := by unfold ap_tot at hz; omega
  refine lv_aload_n hx hb dX1_makeRoom_0 rfl (lv_at hl 0 rfl) ?_
  refine va_get (D := (dC, dI)) (ci := 1) (v := .ref (q 1)) (C := RX1) (T := TX1) (N := 12) hx hb hts hwX1 hown hK hP 0 rfl rfl 1 (by decide) (hts (.fieldLink RX1 10 "ArcCache" "cameOnce" "LArcCache$AddressList;") (by decide +kernel)) (fun _ h9 => h9) rfl dX1_makeRoom_1 ?_
  have hPc := hP.sub (ws' := (cal (q 1) (q 5) (ca 1) ((L 1).length) (f 1))) [1, 2] rfl
  have hDc := hD.sub (ws' := (cal (q 1) (q 5) (ca 1) ((L 1).length) (f 1))) [1, 2] (by decide) rfl
  have hKc := hK.sub (tys' := (kal (ca 1))) [0] rfl
  have hFc := va_free (wc := (cal (q 1) (q 5) (ca 1) ((L 1).length) (f 1))) hD hS hA [1, 2] rfl
  refine va_calli (va_runV (As := []) (rest := []) ⟨hx, hb, hml, hown, hts⟩ (c_A_size l dC dI (q 1) (q 5) (ca 1) (L 1).length (f 1) H.size) (cwV 0 hts gX1_makeRoom_X0_size rfl rfl rfl (by decide +kernel) ⟨Nat.le_of_ble_eq_true rfl, Nat.le_of_ble_eq_true rfl⟩) ⟨fun a U g mk q => by obtain ⟨q0, q1, qP, qK, qD⟩ := q; exact ⟨q0, q1, qP, va_K.moved (u := U) (U := U.calling g mk a) (Vm.Alike.refl U.vm) qK, qD⟩, va_recv hKc hPc (ci := 0) (q0 := 0) rfl rfl, fun U hU hW => ⟨rfl, by rw [hU], by rw [hU]; exact hPc, va_K.moved hW.alike hKc, hDc.weaken (fun _ _ _ _ => trivial)⟩⟩ rfl rfl hl.1 rfl (lv_room (Nat.le_of_ble_eq_true rfl)) dX1_makeRoom_4 ⟨Nat.le_of_ble_eq_true rfl, Nat.le_of_ble_eq_true rfl⟩) hS (fun q _ h => hFc q h) hFc (fun r u t H1 locs ht hvm hw hB hz1 hk1 hS => ?_)
  obtain ⟨n1, f1⟩ := u
  obtain ⟨hP1, hK1, hD1⟩ := hB
  rw [ht] at hP1
  try dsimp only at hw hP1 hD1
  obtain ⟨hr9, hu⟩ := hw
  cases hu
  obtain ⟨hP, hD⟩ := va_join (wr := [(q 0, .inr (1, [.int (nI C), .ref (q 1), .ref (q 2), .ref (q 3), .ref (q 4), .ref (q 9), .ref (q 10), .ref (q 11), .int (nI tg), .int hi, .int mi, .int go])), (q 2, .inr (0, [.ref (q 6), .int (nI ((L 2).length))])), (q 6, .inl (ca 2, 64, .inl (f 2))), (q 3, .inr (0, [.ref (q 7), .int (nI ((L 3).length))])), (q 7, .inl (ca 3, 64, .inl (f 3))), (q 4, .inr (0, [.ref (q 8), .int (nI ((L 4).length))])), (q 8, .inl (ca 4, 64, .inl (f 4))), (q 9, .inl (ca 5, 64, .inl w)), (q 10, .inl (ca 6, 64, .inl d)), (q 11, .inl (ca 7, 64, .inl st))]) (w1 := (cal (q 1) (q 5) (ca 1) ((L 1).length) (f 1))) hP hD [1, 2] [0, 3, 4, 5, 6, 7, 8, 9, 10, 11] rfl rfl (by decide) (by decide) hk1 hFc hP1 hD1
  generalize H1 = H at hP hS ⊢
  replace hP := hP.sub (ws' := (cx q ca C L f w d st tg hi mi go)) [0, 10, 11, 1, 2, 3, 4, 5, 6, 7, 8, 9] rfl
  replace hD := hD.sub (ws' := (cx q ca C L f w d st tg hi mi go)) [0, 10, 11, 1, 2, 3, 4, 5, 6, 7, 8, 9] (by decide) rfl
  subst hr9
  refine lv_istore_n (lv' := [(2, .int (nI ((L 1).length))), (0, .ref (q 0)), (1, .int x)]) hx hb dX1_makeRoom_7 rfl hl (by decide) rfl (fun ls hl => ?_)
  refine lv_iload_n hx hb dX1_makeRoom_8 rfl (lv_at hl 0 rfl) ?_
  refine lv_aload_n hx hb dX1_makeRoom_9 rfl (lv_at hl 1 rfl) ?_
  refine va_get (D := (dC, dI)) (ci := 1) (v := .int (nI tg)) (C := RX1) (T := TX1) (N := 12) hx hb hts hwX1 hown hK hP 0 rfl rfl 8 (by decide) (hts (.fieldLink RX1 55 "ArcCache" "targetCount" "I") (by decide +kernel)) (fun _ h9 => h9) rfl dX1_makeRoom_10 ?_
  refine lv_icmp_ne (tgt := 35) hx hb dX1_makeRoom_13 (by decide) (fun c_13 => ?_) (fun c_13 => ?_)
  · skip
    replace c_13 : ¬ (((L 1).length) = tg) := fun h9 => c_13 ((nI_eq (a := (L 1).length) (b := tg) (by omega) (by omega)).mpr h9)
    refine lv_iconst (v := nI 0) hx hb dX1_makeRoom_35 (by decide) ?_
    refine lv_istore_n (lv' := [(3, .int (nI 0)), (2, .int (nI ((L 1).length))), (0, .ref (q 0)), (1, .int x)]) hx hb dX1_makeRoom_36 rfl hl (by decide) rfl (fun ls hl => ?_)
    refine lv_iload_n hx hb dX1_makeRoom_37 rfl (lv_at hl 1 rfl) ?_
    refine lv_aload_n hx hb dX1_makeRoom_38 rfl (lv_at hl 2 rfl) ?_
    refine va_get (D := (dC, dI)) (ci := 1) (v := .int (nI tg)) (C := RX1) (T := TX1) (N := 12) hx hb hts hwX1 hown hK hP 0 rfl rfl 8 (by decide) (hts (.fieldLink RX1 55 "ArcCache" "targetCount" "I") (by decide +kernel)) (fun _ h9 => h9) rfl dX1_makeRoom_39 ?_
    refine lv_icmp_gt (tgt := 49) hx hb dX1_makeRoom_42 (by decide) (fun c_42 => ?_) (fun c_42 => ?_)
    · skip
      replace c_42 : tg < ((L 1).length) := (nI_ltI (a := tg) (b := (L 1).length) (by omega) (by omega)).mp c_42
      refine lv_aload_n hx hb dX1_makeRoom_49 rfl (lv_at hl 2 rfl) ?_
      refine lv_aload_n hx hb dX1_makeRoom_50 rfl (lv_at hl 2 rfl) ?_
      refine va_get (D := (dC, dI)) (ci := 1) (v := .ref (q 1)) (C := RX1) (T := TX1) (N := 12) hx hb hts hwX1 hown hK hP 0 rfl rfl 1 (by decide) (hts (.fieldLink RX1 10 "ArcCache" "cameOnce" "LArcCache$AddressList;") (by decide +kernel)) (fun _ h9 => h9) rfl dX1_makeRoom_51 ?_
      refine lv_aload_n hx hb dX1_makeRoom_54 rfl (lv_at hl 2 rfl) ?_
      refine va_get (D := (dC, dI)) (ci := 1) (v := .ref (q 3)) (C := RX1) (T := TX1) (N := 12) hx hb hts hwX1 hown hK hP 0 rfl rfl 3 (by decide) (hts (.fieldLink RX1 19 "ArcCache" "wentOnce" "LArcCache$AddressList;") (by decide +kernel)) (fun _ h9 => h9) rfl dX1_makeRoom_55 ?_
      have hcd9 : tg < (L 1).length ∨ ((L 1).length = tg ∧ 0 < tg ∧ ap_wl L x = 4) := by first | exact Or.inl c_42 | exact Or.inr ⟨c_13, by omega, ap_wl_of hI hm_4⟩
      have emk9 : ap_mk w tg x (L, d, st, go) = ap_og w 1 (L, d, st, go) := ap_mk_1 hcd9
      have hne9 : L 1 ≠ [] := ap_ne (by omega)
      have hfin9 : (ap_mv L (ap_old (L 1)) 1 3, w, ap_cd d (ap_old (L 1)), ap_cs w d st (ap_old (L 1)), tg, hi, mi, go + 1) = ap_tu w tg hi mi (ap_mk w tg x (L, d, st, go)) := by rw [emk9]; unfold ap_og; rw [if_neg hne9]; rfl
      have hPc := hP.sub (ws' := (cx q ca C L f w d st tg hi mi go)) [0, 1, 2, 3, 4, 5, 6, 7, 8, 9, 10, 11] rfl
      have hDc := hD.sub (ws' := (cx q ca C L f w d st tg hi mi go)) [0, 1, 2, 3, 4, 5, 6, 7, 8, 9, 10, 11] (by decide) rfl
      have hKc := hK.sub (tys' := (kx ca)) [0, 1, 2, 3, 4, 5, 6] rfl
      have hFc := va_free (wc := (cx q ca C L f w d st tg hi mi go)) hD hS hA [0, 1, 2, 3, 4, 5, 6, 7, 8, 9, 10, 11] rfl
      refine va_callv (va_runV (As := [.ref (q 1), .ref (q 3)]) (rest := []) ⟨hx, hb, hml, hown, hts⟩ (c_X_old1 l dC dI q ca C L f w d st tg hi mi go H.size hf hI hz hne9) (cwV 2 hts gX1_makeRoom_X1_oldestGoes rfl rfl rfl (by decide +kernel) ⟨Nat.le_of_ble_eq_true rfl, Nat.le_of_ble_eq_true rfl⟩) ⟨fun a U g mk q => by obtain ⟨q0, q1, qP, qK, qD, qN⟩ := q; exact ⟨q0, q1, qP, va_K.moved (u := U) (U := U.calling g mk a) (Vm.Alike.refl U.vm) qK, qD, va_tabs rfl (rfl : U.vm = (U.calling g mk a).vm) qN⟩, va_recv hKc hPc (ci := 1) (q0 := 0) rfl rfl, fun U hU hW => ⟨rfl, by rw [hU], by rw [hU]; exact hPc, va_K.moved hW.alike hKc, hDc.weaken (fun _ _ _ _ => trivial), va_Nw.warmM hW hN⟩⟩ rfl rfl hl.1 rfl (lv_room (Nat.le_of_ble_eq_true rfl)) dX1_makeRoom_58 ⟨Nat.le_of_ble_eq_true rfl, Nat.le_of_ble_eq_true rfl⟩) hS (fun q _ h => hFc q h) hFc (fun u t H1 locs ht hvm hw hB hz1 hk1 hS => ?_)
      obtain ⟨L1, w1, d1, st1, tg1, hi1, mi1, go1⟩ := u
      obtain ⟨f1, hf1, hP1, hK1, hD1⟩ := hB
      rw [ht] at hP1
      cases hw
      obtain ⟨f_1, ef_1⟩ : ∃ z, z = f1 := ⟨_, rfl⟩
      rw [← ef_1] at hf1 hP1 hD1
      clear ef_1 f1
      have hfx_2 := hf1
      obtain ⟨hP, hD⟩ := va_join (wr := []) (w1 := (cx q ca C (ap_mv L (ap_old (L 1)) 1 3) f_1 w (ap_cd d (ap_old (L 1))) (ap_cs w d st (ap_old (L 1))) tg hi mi (go + 1))) hP hD [0, 1, 2, 3, 4, 5, 6, 7, 8, 9, 10, 11] [] rfl rfl (by decide) (by decide) hk1 hFc hP1 hD1
      generalize H1 = H at hP hS ⊢
      replace hP : va_P (dC, dI) vwCl (cx q ca C (ap_mv L (ap_old (L 1)) 1 3) f_1 w (ap_cd d (ap_old (L 1))) (ap_cs w d st (ap_old (L 1))) tg hi mi (go + 1)) H := hP
      replace hD : va_D A (cx q ca C (ap_mv L (ap_old (L 1)) 1 3) f_1 w (ap_cd d (ap_old (L 1))) (ap_cs w d st (ap_old (L 1))) tg hi mi (go + 1)) := hD
      refine lv_goto (tgt := 76) hx hb dX1_makeRoom_61 (by decide) ?_
      exact W.vret hx hb hr (fun t ht hW => ⟨⟨(ap_mv L (ap_old (L 1)) 1 3, w, ap_cd d (ap_old (L 1)), ap_cs w d st (ap_old (L 1)), tg, hi, mi, go + 1), rfl, hfin9, f_1, hfx_2, by rw [ht]; exact hP, va_K.moved hW.alike hK, hD⟩, hS.F ht⟩) hS.2.2 dX1_makeRoom_76
    · skip
      replace c_42 : ¬ (tg < ((L 1).length)) := fun h9 => c_42 ((nI_ltI (a := tg) (b := (L 1).length) (by omega) (by omega)).mpr h9)
      refine lv_iload_n hx hb dX1_makeRoom_45 rfl (lv_at hl 0 rfl) ?_
      refine lv_if_eq (tgt := 64) hx hb dX1_makeRoom_46 (by decide) (fun c_46 => ?_) (fun c_46 => ?_)
      · skip
        replace c_46 : 0 = 0 := (nI_eq (a := 0) (b := 0) (by omega) (by omega)).mp c_46
        refine lv_aload_n hx hb dX1_makeRoom_64 rfl (lv_at hl 2 rfl) ?_
        refine lv_aload_n hx hb dX1_makeRoom_65 rfl (lv_at hl 2 rfl) ?_
        refine va_get (D := (dC, dI)) (ci := 1) (v := .ref (q 2)) (C := RX1) (T := TX1) (N := 12) hx hb hts hwX1 hown hK hP 0 rfl rfl 2 (by decide) (hts (.fieldLink RX1 16 "ArcCache" "cameAgain" "LArcCache$AddressList;") (by decide +kernel)) (fun _ h9 => h9) rfl dX1_makeRoom_66 ?_
        refine lv_aload_n hx hb dX1_makeRoom_69 rfl (lv_at hl 2 rfl) ?_
        refine va_get (D := (dC, dI)) (ci := 1) (v := .ref (q 4)) (C := RX1) (T := TX1) (N := 12) hx hb hts hwX1 hown hK hP 0 rfl rfl 4 (by decide) (hts (.fieldLink RX1 22 "ArcCache" "wentAgain" "LArcCache$AddressList;") (by decide +kernel)) (fun _ h9 => h9) rfl dX1_makeRoom_70 ?_
        have hcd9 : ¬ (tg < (L 1).length ∨ ((L 1).length = tg ∧ 0 < tg ∧ ap_wl L x = 4)) := fun h9 => h9.elim c_42 (fun h9 => by first | exact c_13 h9.1 | omega | exact hm_4 ((ap_wl4 hI).mp h9.2.2))
        have emk9 : ap_mk w tg x (L, d, st, go) = ap_og w 2 (L, d, st, go) := ap_mk_2 hcd9
        by_cases hne9 : L 2 = []
        · skip
          have hfin9 : (L, w, d, st, tg, hi, mi, go) = ap_tu w tg hi mi (ap_mk w tg x (L, d, st, go)) := by rw [emk9]; unfold ap_og; rw [if_pos hne9]; rfl
          have hPc := hP.sub (ws' := (cx q ca C L f w d st tg hi mi go)) [0, 1, 2, 3, 4, 5, 6, 7, 8, 9, 10, 11] rfl
          have hDc := hD.sub (ws' := (cx q ca C L f w d st tg hi mi go)) [0, 1, 2, 3, 4, 5, 6, 7, 8, 9, 10, 11] (by decide) rfl
          have hKc := hK.sub (tys' := (kx ca)) [0, 1, 2, 3, 4, 5, 6] rfl
          have hFc := va_free (wc := (cx q ca C L f w d st tg hi mi go)) hD hS hA [0, 1, 2, 3, 4, 5, 6, 7, 8, 9, 10, 11] rfl
          refine va_callv (va_runV (As := [.ref (q 2), .ref (q 4)]) (rest := []) ⟨hx, hb, hml, hown, hts⟩ (c_X_old2e l dC dI q ca C L f w d st tg hi mi go H.size hf hI hz hne9) (cwV 2 hts gX1_makeRoom_X1_oldestGoes rfl rfl rfl (by decide +kernel) ⟨Nat.le_of_ble_eq_true rfl, Nat.le_of_ble_eq_true rfl⟩) ⟨fun a U g mk q => by obtain ⟨q0, q1, qP, qK, qD, qN⟩ := q; exact ⟨q0, q1, qP, va_K.moved (u := U) (U := U.calling g mk a) (Vm.Alike.refl U.vm) qK, qD, va_tabs rfl (rfl : U.vm = (U.calling g mk a).vm) qN⟩, va_recv hKc hPc (ci := 1) (q0 := 0) rfl rfl, fun U hU hW => ⟨rfl, by rw [hU], by rw [hU]; exact hPc, va_K.moved hW.alike hKc, hDc.weaken (fun _ _ _ _ => trivial), va_Nw.warmM hW hN⟩⟩ rfl rfl hl.1 rfl (lv_room (Nat.le_of_ble_eq_true rfl)) dX1_makeRoom_73 ⟨Nat.le_of_ble_eq_true rfl, Nat.le_of_ble_eq_true rfl⟩) hS (fun q _ h => hFc q h) hFc (fun u t H1 locs ht hvm hw hB hz1 hk1 hS => ?_)
          obtain ⟨L1, w1, d1, st1, tg1, hi1, mi1, go1⟩ := u
          obtain ⟨f1, hf1, hP1, hK1, hD1⟩ := hB
          rw [ht] at hP1
          cases hw
          obtain ⟨f_3, ef_3⟩ : ∃ z, z = f1 := ⟨_, rfl⟩
          rw [← ef_3] at hf1 hP1 hD1
          clear ef_3 f1
          have hfx_4 := hf1
          obtain ⟨hP, hD⟩ := va_join (wr := []) (w1 := (cx q ca C L f_3 w d st tg hi mi go)) hP hD [0, 1, 2, 3, 4, 5, 6, 7, 8, 9, 10, 11] [] rfl rfl (by decide) (by decide) hk1 hFc hP1 hD1
          generalize H1 = H at hP hS ⊢
          replace hP : va_P (dC, dI) vwCl (cx q ca C L f_3 w d st tg hi mi go) H := hP
          replace hD : va_D A (cx q ca C L f_3 w d st tg hi mi go) := hD
          exact W.vret hx hb hr (fun t ht hW => ⟨⟨(L, w, d, st, tg, hi, mi, go), rfl, hfin9, f_3, hfx_4, by rw [ht]; exact hP, va_K.moved hW.alike hK, hD⟩, hS.F ht⟩) hS.2.2 dX1_makeRoom_76
        · skip
          have hfin9 : (ap_mv L (ap_old (L 2)) 2 4, w, ap_cd d (ap_old (L 2)), ap_cs w d st (ap_old (L 2)), tg, hi, mi, go + 1) = ap_tu w tg hi mi (ap_mk w tg x (L, d, st, go)) := by rw [emk9]; unfold ap_og; rw [if_neg hne9]; rfl
          have hPc := hP.sub (ws' := (cx q ca C L f w d st tg hi mi go)) [0, 1, 2, 3, 4, 5, 6, 7, 8, 9, 10, 11] rfl
          have hDc := hD.sub (ws' := (cx q ca C L f w d st tg hi mi go)) [0, 1, 2, 3, 4, 5, 6, 7, 8, 9, 10, 11] (by decide) rfl
          have hKc := hK.sub (tys' := (kx ca)) [0, 1, 2, 3, 4, 5, 6] rfl
          have hFc := va_free (wc := (cx q ca C L f w d st tg hi mi go)) hD hS hA [0, 1, 2, 3, 4, 5, 6, 7, 8, 9, 10, 11] rfl
          refine va_callv (va_runV (As := [.ref (q 2), .ref (q 4)]) (rest := []) ⟨hx, hb, hml, hown, hts⟩ (c_X_old2 l dC dI q ca C L f w d st tg hi mi go H.size hf hI hz hne9) (cwV 2 hts gX1_makeRoom_X1_oldestGoes rfl rfl rfl (by decide +kernel) ⟨Nat.le_of_ble_eq_true rfl, Nat.le_of_ble_eq_true rfl⟩) ⟨fun a U g mk q => by obtain ⟨q0, q1, qP, qK, qD, qN⟩ := q; exact ⟨q0, q1, qP, va_K.moved (u := U) (U := U.calling g mk a) (Vm.Alike.refl U.vm) qK, qD, va_tabs rfl (rfl : U.vm = (U.calling g mk a).vm) qN⟩, va_recv hKc hPc (ci := 1) (q0 := 0) rfl rfl, fun U hU hW => ⟨rfl, by rw [hU], by rw [hU]; exact hPc, va_K.moved hW.alike hKc, hDc.weaken (fun _ _ _ _ => trivial), va_Nw.warmM hW hN⟩⟩ rfl rfl hl.1 rfl (lv_room (Nat.le_of_ble_eq_true rfl)) dX1_makeRoom_73 ⟨Nat.le_of_ble_eq_true rfl, Nat.le_of_ble_eq_true rfl⟩) hS (fun q _ h => hFc q h) hFc (fun u t H1 locs ht hvm hw hB hz1 hk1 hS => ?_)
          obtain ⟨L1, w1, d1, st1, tg1, hi1, mi1, go1⟩ := u
          obtain ⟨f1, hf1, hP1, hK1, hD1⟩ := hB
          rw [ht] at hP1
          cases hw
          obtain ⟨f_5, ef_5⟩ : ∃ z, z = f1 := ⟨_, rfl⟩
          rw [← ef_5] at hf1 hP1 hD1
          clear ef_5 f1
          have hfx_6 := hf1
          obtain ⟨hP, hD⟩ := va_join (wr := []) (w1 := (cx q ca C (ap_mv L (ap_old (L 2)) 2 4) f_5 w (ap_cd d (ap_old (L 2))) (ap_cs w d st (ap_old (L 2))) tg hi mi (go + 1))) hP hD [0, 1, 2, 3, 4, 5, 6, 7, 8, 9, 10, 11] [] rfl rfl (by decide) (by decide) hk1 hFc hP1 hD1
          generalize H1 = H at hP hS ⊢
          replace hP : va_P (dC, dI) vwCl (cx q ca C (ap_mv L (ap_old (L 2)) 2 4) f_5 w (ap_cd d (ap_old (L 2))) (ap_cs w d st (ap_old (L 2))) tg hi mi (go + 1)) H := hP
          replace hD : va_D A (cx q ca C (ap_mv L (ap_old (L 2)) 2 4) f_5 w (ap_cd d (ap_old (L 2))) (ap_cs w d st (ap_old (L 2))) tg hi mi (go + 1)) := hD
          exact W.vret hx hb hr (fun t ht hW => ⟨⟨(ap_mv L (ap_old (L 2)) 2 4, w, ap_cd d (ap_old (L 2)), ap_cs w d st (ap_old (L 2)), tg, hi, mi, go + 1), rfl, hfin9, f_5, hfx_6, by rw [ht]; exact hP, va_K.moved hW.alike hK, hD⟩, hS.F ht⟩) hS.2.2 dX1_makeRoom_76
      · skip
        replace c_46 : ¬ (0 = 0) := fun h9 => c_46 ((nI_eq (a := 0) (b := 0) (by omega) (by omega)).mpr h9)
        exact absurd c_46 (by omega)
  · skip
    replace c_13 : ((L 1).length) = tg := (nI_eq (a := (L 1).length) (b := tg) (by omega) (by omega)).mp c_13
    refine lv_iload_n hx hb dX1_makeRoom_16 rfl (lv_at hl 0 rfl) ?_
    refine lv_if_le (tgt := 35) hx hb dX1_makeRoom_17 (by decide) (fun c_17 => ?_) (fun c_17 => ?_)
    · skip
      replace c_17 : ((L 1).length) ≤ 0 := (nI_leI (a := (L 1).length) (b := 0) (by omega) (by omega)).mp c_17
      refine lv_iconst (v := nI 0) hx hb dX1_makeRoom_35 (by decide) ?_
      refine lv_istore_n (lv' := [(3, .int (nI 0)), (2, .int (nI ((L 1).length))), (0, .ref (q 0)), (1, .int x)]) hx hb dX1_makeRoom_36 rfl hl (by decide) rfl (fun ls hl => ?_)
      refine lv_iload_n hx hb dX1_makeRoom_37 rfl (lv_at hl 1 rfl) ?_
      refine lv_aload_n hx hb dX1_makeRoom_38 rfl (lv_at hl 2 rfl) ?_
      refine va_get (D := (dC, dI)) (ci := 1) (v := .int (nI tg)) (C := RX1) (T := TX1) (N := 12) hx hb hts hwX1 hown hK hP 0 rfl rfl 8 (by decide) (hts (.fieldLink RX1 55 "ArcCache" "targetCount" "I") (by decide +kernel)) (fun _ h9 => h9) rfl dX1_makeRoom_39 ?_
      refine lv_icmp_gt (tgt := 49) hx hb dX1_makeRoom_42 (by decide) (fun c_42 => ?_) (fun c_42 => ?_)
      · skip
        replace c_42 : tg < ((L 1).length) := (nI_ltI (a := tg) (b := (L 1).length) (by omega) (by omega)).mp c_42
        refine lv_aload_n hx hb dX1_makeRoom_49 rfl (lv_at hl 2 rfl) ?_
        refine lv_aload_n hx hb dX1_makeRoom_50 rfl (lv_at hl 2 rfl) ?_
        refine va_get (D := (dC, dI)) (ci := 1) (v := .ref (q 1)) (C := RX1) (T := TX1) (N := 12) hx hb hts hwX1 hown hK hP 0 rfl rfl 1 (by decide) (hts (.fieldLink RX1 10 "ArcCache" "cameOnce" "LArcCache$AddressList;") (by decide +kernel)) (fun _ h9 => h9) rfl dX1_makeRoom_51 ?_
        refine lv_aload_n hx hb dX1_makeRoom_54 rfl (lv_at hl 2 rfl) ?_
        refine va_get (D := (dC, dI)) (ci := 1) (v := .ref (q 3)) (C := RX1) (T := TX1) (N := 12) hx hb hts hwX1 hown hK hP 0 rfl rfl 3 (by decide) (hts (.fieldLink RX1 19 "ArcCache" "wentOnce" "LArcCache$AddressList;") (by decide +kernel)) (fun _ h9 => h9) rfl dX1_makeRoom_55 ?_
        have hcd9 : tg < (L 1).length ∨ ((L 1).length = tg ∧ 0 < tg ∧ ap_wl L x = 4) := by first | exact Or.inl c_42 | exact Or.inr ⟨c_13, by omega, ap_wl_of hI hm_4⟩
        have emk9 : ap_mk w tg x (L, d, st, go) = ap_og w 1 (L, d, st, go) := ap_mk_1 hcd9
        have hne9 : L 1 ≠ [] := ap_ne (by omega)
        have hfin9 : (ap_mv L (ap_old (L 1)) 1 3, w, ap_cd d (ap_old (L 1)), ap_cs w d st (ap_old (L 1)), tg, hi, mi, go + 1) = ap_tu w tg hi mi (ap_mk w tg x (L, d, st, go)) := by rw [emk9]; unfold ap_og; rw [if_neg hne9]; rfl
        have hPc := hP.sub (ws' := (cx q ca C L f w d st tg hi mi go)) [0, 1, 2, 3, 4, 5, 6, 7, 8, 9, 10, 11] rfl
        have hDc := hD.sub (ws' := (cx q ca C L f w d st tg hi mi go)) [0, 1, 2, 3, 4, 5, 6, 7, 8, 9, 10, 11] (by decide) rfl
        have hKc := hK.sub (tys' := (kx ca)) [0, 1, 2, 3, 4, 5, 6] rfl
        have hFc := va_free (wc := (cx q ca C L f w d st tg hi mi go)) hD hS hA [0, 1, 2, 3, 4, 5, 6, 7, 8, 9, 10, 11] rfl
        refine va_callv (va_runV (As := [.ref (q 1), .ref (q 3)]) (rest := []) ⟨hx, hb, hml, hown, hts⟩ (c_X_old1 l dC dI q ca C L f w d st tg hi mi go H.size hf hI hz hne9) (cwV 2 hts gX1_makeRoom_X1_oldestGoes rfl rfl rfl (by decide +kernel) ⟨Nat.le_of_ble_eq_true rfl, Nat.le_of_ble_eq_true rfl⟩) ⟨fun a U g mk q => by obtain ⟨q0, q1, qP, qK, qD, qN⟩ := q; exact ⟨q0, q1, qP, va_K.moved (u := U) (U := U.calling g mk a) (Vm.Alike.refl U.vm) qK, qD, va_tabs rfl (rfl : U.vm = (U.calling g mk a).vm) qN⟩, va_recv hKc hPc (ci := 1) (q0 := 0) rfl rfl, fun U hU hW => ⟨rfl, by rw [hU], by rw [hU]; exact hPc, va_K.moved hW.alike hKc, hDc.weaken (fun _ _ _ _ => trivial), va_Nw.warmM hW hN⟩⟩ rfl rfl hl.1 rfl (lv_room (Nat.le_of_ble_eq_true rfl)) dX1_makeRoom_58 ⟨Nat.le_of_ble_eq_true rfl, Nat.le_of_ble_eq_true rfl⟩) hS (fun q _ h => hFc q h) hFc (fun u t H1 locs ht hvm hw hB hz1 hk1 hS => ?_)
        obtain ⟨L1, w1, d1, st1, tg1, hi1, mi1, go1⟩ := u
        obtain ⟨f1, hf1, hP1, hK1, hD1⟩ := hB
        rw [ht] at hP1
        cases hw
        obtain ⟨f_7, ef_7⟩ : ∃ z, z = f1 := ⟨_, rfl⟩
        rw [← ef_7] at hf1 hP1 hD1
        clear ef_7 f1
        have hfx_8 := hf1
        obtain ⟨hP, hD⟩ := va_join (wr := []) (w1 := (cx q ca C (ap_mv L (ap_old (L 1)) 1 3) f_7 w (ap_cd d (ap_old (L 1))) (ap_cs w d st (ap_old (L 1))) tg hi mi (go + 1))) hP hD [0, 1, 2, 3, 4, 5, 6, 7, 8, 9, 10, 11] [] rfl rfl (by decide) (by decide) hk1 hFc hP1 hD1
        generalize H1 = H at hP hS ⊢
        replace hP : va_P (dC, dI) vwCl (cx q ca C (ap_mv L (ap_old (L 1)) 1 3) f_7 w (ap_cd d (ap_old (L 1))) (ap_cs w d st (ap_old (L 1))) tg hi mi (go + 1)) H := hP
        replace hD : va_D A (cx q ca C (ap_mv L (ap_old (L 1)) 1 3) f_7 w (ap_cd d (ap_old (L 1))) (ap_cs w d st (ap_old (L 1))) tg hi mi (go + 1)) := hD
        refine lv_goto (tgt := 76) hx hb dX1_makeRoom_61 (by decide) ?_
        exact W.vret hx hb hr (fun t ht hW => ⟨⟨(ap_mv L (ap_old (L 1)) 1 3, w, ap_cd d (ap_old (L 1)), ap_cs w d st (ap_old (L 1)), tg, hi, mi, go + 1), rfl, hfin9, f_7, hfx_8, by rw [ht]; exact hP, va_K.moved hW.alike hK, hD⟩, hS.F ht⟩) hS.2.2 dX1_makeRoom_76
      · skip
        replace c_42 : ¬ (tg < ((L 1).length)) := fun h9 => c_42 ((nI_ltI (a := tg) (b := (L 1).length) (by omega) (by omega)).mpr h9)
        refine lv_iload_n hx hb dX1_makeRoom_45 rfl (lv_at hl 0 rfl) ?_
        refine lv_if_eq (tgt := 64) hx hb dX1_makeRoom_46 (by decide) (fun c_46 => ?_) (fun c_46 => ?_)
        · skip
          replace c_46 : 0 = 0 := (nI_eq (a := 0) (b := 0) (by omega) (by omega)).mp c_46
          refine lv_aload_n hx hb dX1_makeRoom_64 rfl (lv_at hl 2 rfl) ?_
          refine lv_aload_n hx hb dX1_makeRoom_65 rfl (lv_at hl 2 rfl) ?_
          refine va_get (D := (dC, dI)) (ci := 1) (v := .ref (q 2)) (C := RX1) (T := TX1) (N := 12) hx hb hts hwX1 hown hK hP 0 rfl rfl 2 (by decide) (hts (.fieldLink RX1 16 "ArcCache" "cameAgain" "LArcCache$AddressList;") (by decide +kernel)) (fun _ h9 => h9) rfl dX1_makeRoom_66 ?_
          refine lv_aload_n hx hb dX1_makeRoom_69 rfl (lv_at hl 2 rfl) ?_
          refine va_get (D := (dC, dI)) (ci := 1) (v := .ref (q 4)) (C := RX1) (T := TX1) (N := 12) hx hb hts hwX1 hown hK hP 0 rfl rfl 4 (by decide) (hts (.fieldLink RX1 22 "ArcCache" "wentAgain" "LArcCache$AddressList;") (by decide +kernel)) (fun _ h9 => h9) rfl dX1_makeRoom_70 ?_
          have hcd9 : ¬ (tg < (L 1).length ∨ ((L 1).length = tg ∧ 0 < tg ∧ ap_wl L x = 4)) := fun h9 => h9.elim c_42 (fun h9 => by first | exact c_13 h9.1 | omega | exact hm_4 ((ap_wl4 hI).mp h9.2.2))
          have emk9 : ap_mk w tg x (L, d, st, go) = ap_og w 2 (L, d, st, go) := ap_mk_2 hcd9
          by_cases hne9 : L 2 = []
          · skip
            have hfin9 : (L, w, d, st, tg, hi, mi, go) = ap_tu w tg hi mi (ap_mk w tg x (L, d, st, go)) := by rw [emk9]; unfold ap_og; rw [if_pos hne9]; rfl
            have hPc := hP.sub (ws' := (cx q ca C L f w d st tg hi mi go)) [0, 1, 2, 3, 4, 5, 6, 7, 8, 9, 10, 11] rfl
            have hDc := hD.sub (ws' := (cx q ca C L f w d st tg hi mi go)) [0, 1, 2, 3, 4, 5, 6, 7, 8, 9, 10, 11] (by decide) rfl
            have hKc := hK.sub (tys' := (kx ca)) [0, 1, 2, 3, 4, 5, 6] rfl
            have hFc := va_free (wc := (cx q ca C L f w d st tg hi mi go)) hD hS hA [0, 1, 2, 3, 4, 5, 6, 7, 8, 9, 10, 11] rfl
            refine va_callv (va_runV (As := [.ref (q 2), .ref (q 4)]) (rest := []) ⟨hx, hb, hml, hown, hts⟩ (c_X_old2e l dC dI q ca C L f w d st tg hi mi go H.size hf hI hz hne9) (cwV 2 hts gX1_makeRoom_X1_oldestGoes rfl rfl rfl (by decide +kernel) ⟨Nat.le_of_ble_eq_true rfl, Nat.le_of_ble_eq_true rfl⟩) ⟨fun a U g mk q => by obtain ⟨q0, q1, qP, qK, qD, qN⟩ := q; exact ⟨q0, q1, qP, va_K.moved (u := U) (U := U.calling g mk a) (Vm.Alike.refl U.vm) qK, qD, va_tabs rfl (rfl : U.vm = (U.calling g mk a).vm) qN⟩, va_recv hKc hPc (ci := 1) (q0 := 0) rfl rfl, fun U hU hW => ⟨rfl, by rw [hU], by rw [hU]; exact hPc, va_K.moved hW.alike hKc, hDc.weaken (fun _ _ _ _ => trivial), va_Nw.warmM hW hN⟩⟩ rfl rfl hl.1 rfl (lv_room (Nat.le_of_ble_eq_true rfl)) dX1_makeRoom_73 ⟨Nat.le_of_ble_eq_true rfl, Nat.le_of_ble_eq_true rfl⟩) hS (fun q _ h => hFc q h) hFc (fun u t H1 locs ht hvm hw hB hz1 hk1 hS => ?_)
            obtain ⟨L1, w1, d1, st1, tg1, hi1, mi1, go1⟩ := u
            obtain ⟨f1, hf1, hP1, hK1, hD1⟩ := hB
            rw [ht] at hP1
            cases hw
            obtain ⟨f_9, ef_9⟩ : ∃ z, z = f1 := ⟨_, rfl⟩
            rw [← ef_9] at hf1 hP1 hD1
            clear ef_9 f1
            have hfx_10 := hf1
            obtain ⟨hP, hD⟩ := va_join (wr := []) (w1 := (cx q ca C L f_9 w d st tg hi mi go)) hP hD [0, 1, 2, 3, 4, 5, 6, 7, 8, 9, 10, 11] [] rfl rfl (by decide) (by decide) hk1 hFc hP1 hD1
            generalize H1 = H at hP hS ⊢
            replace hP : va_P (dC, dI) vwCl (cx q ca C L f_9 w d st tg hi mi go) H := hP
            replace hD : va_D A (cx q ca C L f_9 w d st tg hi mi go) := hD
            exact W.vret hx hb hr (fun t ht hW => ⟨⟨(L, w, d, st, tg, hi, mi, go), rfl, hfin9, f_9, hfx_10, by rw [ht]; exact hP, va_K.moved hW.alike hK, hD⟩, hS.F ht⟩) hS.2.2 dX1_makeRoom_76
          · skip
            have hfin9 : (ap_mv L (ap_old (L 2)) 2 4, w, ap_cd d (ap_old (L 2)), ap_cs w d st (ap_old (L 2)), tg, hi, mi, go + 1) = ap_tu w tg hi mi (ap_mk w tg x (L, d, st, go)) := by rw [emk9]; unfold ap_og; rw [if_neg hne9]; rfl
            have hPc := hP.sub (ws' := (cx q ca C L f w d st tg hi mi go)) [0, 1, 2, 3, 4, 5, 6, 7, 8, 9, 10, 11] rfl
            have hDc := hD.sub (ws' := (cx q ca C L f w d st tg hi mi go)) [0, 1, 2, 3, 4, 5, 6, 7, 8, 9, 10, 11] (by decide) rfl
            have hKc := hK.sub (tys' := (kx ca)) [0, 1, 2, 3, 4, 5, 6] rfl
            have hFc := va_free (wc := (cx q ca C L f w d st tg hi mi go)) hD hS hA [0, 1, 2, 3, 4, 5, 6, 7, 8, 9, 10, 11] rfl
            refine va_callv (va_runV (As := [.ref (q 2), .ref (q 4)]) (rest := []) ⟨hx, hb, hml, hown, hts⟩ (c_X_old2 l dC dI q ca C L f w d st tg hi mi go H.size hf hI hz hne9) (cwV 2 hts gX1_makeRoom_X1_oldestGoes rfl rfl rfl (by decide +kernel) ⟨Nat.le_of_ble_eq_true rfl, Nat.le_of_ble_eq_true rfl⟩) ⟨fun a U g mk q => by obtain ⟨q0, q1, qP, qK, qD, qN⟩ := q; exact ⟨q0, q1, qP, va_K.moved (u := U) (U := U.calling g mk a) (Vm.Alike.refl U.vm) qK, qD, va_tabs rfl (rfl : U.vm = (U.calling g mk a).vm) qN⟩, va_recv hKc hPc (ci := 1) (q0 := 0) rfl rfl, fun U hU hW => ⟨rfl, by rw [hU], by rw [hU]; exact hPc, va_K.moved hW.alike hKc, hDc.weaken (fun _ _ _ _ => trivial), va_Nw.warmM hW hN⟩⟩ rfl rfl hl.1 rfl (lv_room (Nat.le_of_ble_eq_true rfl)) dX1_makeRoom_73 ⟨Nat.le_of_ble_eq_true rfl, Nat.le_of_ble_eq_true rfl⟩) hS (fun q _ h => hFc q h) hFc (fun u t H1 locs ht hvm hw hB hz1 hk1 hS => ?_)
            obtain ⟨L1, w1, d1, st1, tg1, hi1, mi1, go1⟩ := u
            obtain ⟨f1, hf1, hP1, hK1, hD1⟩ := hB
            rw [ht] at hP1
            cases hw
            obtain ⟨f_11, ef_11⟩ : ∃ z, z = f1 := ⟨_, rfl⟩
            rw [← ef_11] at hf1 hP1 hD1
            clear ef_11 f1
            have hfx_12 := hf1
            obtain ⟨hP, hD⟩ := va_join (wr := []) (w1 := (cx q ca C (ap_mv L (ap_old (L 2)) 2 4) f_11 w (ap_cd d (ap_old (L 2))) (ap_cs w d st (ap_old (L 2))) tg hi mi (go + 1))) hP hD [0, 1, 2, 3, 4, 5, 6, 7, 8, 9, 10, 11] [] rfl rfl (by decide) (by decide) hk1 hFc hP1 hD1
            generalize H1 = H at hP hS ⊢
            replace hP : va_P (dC, dI) vwCl (cx q ca C (ap_mv L (ap_old (L 2)) 2 4) f_11 w (ap_cd d (ap_old (L 2))) (ap_cs w d st (ap_old (L 2))) tg hi mi (go + 1)) H := hP
            replace hD : va_D A (cx q ca C (ap_mv L (ap_old (L 2)) 2 4) f_11 w (ap_cd d (ap_old (L 2))) (ap_cs w d st (ap_old (L 2))) tg hi mi (go + 1)) := hD
            exact W.vret hx hb hr (fun t ht hW => ⟨⟨(ap_mv L (ap_old (L 2)) 2 4, w, ap_cd d (ap_old (L 2)), ap_cs w d st (ap_old (L 2)), tg, hi, mi, go + 1), rfl, hfin9, f_11, hfx_12, by rw [ht]; exact hP, va_K.moved hW.alike hK, hD⟩, hS.F ht⟩) hS.2.2 dX1_makeRoom_76
        · skip
          replace c_46 : ¬ (0 = 0) := fun h9 => c_46 ((nI_eq (a := 0) (b := 0) (by omega) (by omega)).mpr h9)
          exact absurd c_46 (by omega)
    · skip
      replace c_17 : ¬ (((L 1).length) ≤ 0) := fun h9 => c_17 ((nI_leI (a := (L 1).length) (b := 0) (by omega) (by omega)).mpr h9)
      refine lv_aload_n hx hb dX1_makeRoom_20 rfl (lv_at hl 1 rfl) ?_
      refine va_get (D := (dC, dI)) (ci := 1) (v := .ref (q 4)) (C := RX1) (T := TX1) (N := 12) hx hb hts hwX1 hown hK hP 0 rfl rfl 4 (by decide) (hts (.fieldLink RX1 22 "ArcCache" "wentAgain" "LArcCache$AddressList;") (by decide +kernel)) (fun _ h9 => h9) rfl dX1_makeRoom_21 ?_
      refine lv_iload_n hx hb dX1_makeRoom_24 rfl (lv_at hl 2 rfl) ?_
      have hPc := hP.sub (ws' := (cal (q 4) (q 8) (ca 4) ((L 4).length) (f 4))) [7, 8] rfl
      have hDc := hD.sub (ws' := (cal (q 4) (q 8) (ca 4) ((L 4).length) (f 4))) [7, 8] (by decide) rfl
      have hKc := hK.sub (tys' := (kal (ca 4))) [3] rfl
      have hFc := va_free (wc := (cal (q 4) (q 8) (ca 4) ((L 4).length) (f 4))) hD hS hA [7, 8] rfl
      refine va_calli (va_runV (As := [.int x]) (rest := []) ⟨hx, hb, hml, hown, hts⟩ (c_A_has l dC dI (q 4) (q 8) (ca 4) (L 4) (f 4) x H.size (Nat.le_trans z4 (by decide)) (hf 4 (by decide) (by decide))) (cwV 1 hts gX1_makeRoom_X0_has rfl rfl rfl (by decide +kernel) ⟨Nat.le_of_ble_eq_true rfl, Nat.le_of_ble_eq_true rfl⟩) ⟨fun a U g mk q => by obtain ⟨q0, q1, qP, qK, qD⟩ := q; exact ⟨q0, q1, qP, va_K.moved (u := U) (U := U.calling g mk a) (Vm.Alike.refl U.vm) qK, qD⟩, va_recv hKc hPc (ci := 0) (q0 := 0) rfl rfl, fun U hU hW => ⟨rfl, by rw [hU], by rw [hU]; exact hPc, va_K.moved hW.alike hKc, hDc.weaken (fun _ _ _ _ => trivial)⟩⟩ rfl rfl hl.1 rfl (lv_room (Nat.le_of_ble_eq_true rfl)) dX1_makeRoom_25 ⟨Nat.le_of_ble_eq_true rfl, Nat.le_of_ble_eq_true rfl⟩) hS (fun q _ h => hFc q h) hFc (fun r u t H1 locs ht hvm hw hB hz1 hk1 hS => ?_)
      obtain ⟨n1, f1⟩ := u
      obtain ⟨hP1, hK1, hD1⟩ := hB
      rw [ht] at hP1
      try dsimp only at hw hP1 hD1
      obtain ⟨hr9, hu⟩ := hw
      cases hu
      obtain ⟨hP, hD⟩ := va_join (wr := [(q 0, .inr (1, [.int (nI C), .ref (q 1), .ref (q 2), .ref (q 3), .ref (q 4), .ref (q 9), .ref (q 10), .ref (q 11), .int (nI tg), .int hi, .int mi, .int go])), (q 1, .inr (0, [.ref (q 5), .int (nI ((L 1).length))])), (q 5, .inl (ca 1, 64, .inl (f 1))), (q 2, .inr (0, [.ref (q 6), .int (nI ((L 2).length))])), (q 6, .inl (ca 2, 64, .inl (f 2))), (q 3, .inr (0, [.ref (q 7), .int (nI ((L 3).length))])), (q 7, .inl (ca 3, 64, .inl (f 3))), (q 9, .inl (ca 5, 64, .inl w)), (q 10, .inl (ca 6, 64, .inl d)), (q 11, .inl (ca 7, 64, .inl st))]) (w1 := (cal (q 4) (q 8) (ca 4) ((L 4).length) (f 4))) hP hD [7, 8] [0, 1, 2, 3, 4, 5, 6, 9, 10, 11] rfl rfl (by decide) (by decide) hk1 hFc hP1 hD1
      generalize H1 = H at hP hS ⊢
      replace hP := hP.sub (ws' := (cx q ca C L f w d st tg hi mi go)) [0, 1, 2, 3, 4, 5, 6, 10, 11, 7, 8, 9] rfl
      replace hD := hD.sub (ws' := (cx q ca C L f w d st tg hi mi go)) [0, 1, 2, 3, 4, 5, 6, 10, 11, 7, 8, 9] (by decide) rfl
      by_cases hm_4 : x ∈ L 4
      · rw [if_pos hm_4] at hr9
        subst hr9
        refine lv_if_eq (tgt := 35) hx hb dX1_makeRoom_28 (by decide) (fun c_28 => ?_) (fun c_28 => ?_)
        · skip
          replace c_28 : 1 = 0 := (nI_eq (a := 1) (b := 0) (by omega) (by omega)).mp c_28
          exact absurd c_28 (by omega)
        · skip
          replace c_28 : ¬ (1 = 0) := fun h9 => c_28 ((nI_eq (a := 1) (b := 0) (by omega) (by omega)).mpr h9)
          refine lv_iconst (v := nI 1) hx hb dX1_makeRoom_31 (by decide) ?_
          refine lv_goto (tgt := 36) hx hb dX1_makeRoom_32 (by decide) ?_
          refine lv_istore_n (lv' := [(3, .int (nI 1)), (2, .int (nI ((L 1).length))), (0, .ref (q 0)), (1, .int x)]) hx hb dX1_makeRoom_36 rfl hl (by decide) rfl (fun ls hl => ?_)
          refine lv_iload_n hx hb dX1_makeRoom_37 rfl (lv_at hl 1 rfl) ?_
          refine lv_aload_n hx hb dX1_makeRoom_38 rfl (lv_at hl 2 rfl) ?_
          refine va_get (D := (dC, dI)) (ci := 1) (v := .int (nI tg)) (C := RX1) (T := TX1) (N := 12) hx hb hts hwX1 hown hK hP 0 rfl rfl 8 (by decide) (hts (.fieldLink RX1 55 "ArcCache" "targetCount" "I") (by decide +kernel)) (fun _ h9 => h9) rfl dX1_makeRoom_39 ?_
          refine lv_icmp_gt (tgt := 49) hx hb dX1_makeRoom_42 (by decide) (fun c_42 => ?_) (fun c_42 => ?_)
          · skip
            replace c_42 : tg < ((L 1).length) := (nI_ltI (a := tg) (b := (L 1).length) (by omega) (by omega)).mp c_42
            refine lv_aload_n hx hb dX1_makeRoom_49 rfl (lv_at hl 2 rfl) ?_
            refine lv_aload_n hx hb dX1_makeRoom_50 rfl (lv_at hl 2 rfl) ?_
            refine va_get (D := (dC, dI)) (ci := 1) (v := .ref (q 1)) (C := RX1) (T := TX1) (N := 12) hx hb hts hwX1 hown hK hP 0 rfl rfl 1 (by decide) (hts (.fieldLink RX1 10 "ArcCache" "cameOnce" "LArcCache$AddressList;") (by decide +kernel)) (fun _ h9 => h9) rfl dX1_makeRoom_51 ?_
            refine lv_aload_n hx hb dX1_makeRoom_54 rfl (lv_at hl 2 rfl) ?_
            refine va_get (D := (dC, dI)) (ci := 1) (v := .ref (q 3)) (C := RX1) (T := TX1) (N := 12) hx hb hts hwX1 hown hK hP 0 rfl rfl 3 (by decide) (hts (.fieldLink RX1 19 "ArcCache" "wentOnce" "LArcCache$AddressList;") (by decide +kernel)) (fun _ h9 => h9) rfl dX1_makeRoom_55 ?_
            have hcd9 : tg < (L 1).length ∨ ((L 1).length = tg ∧ 0 < tg ∧ ap_wl L x = 4) := by first | exact Or.inl c_42 | exact Or.inr ⟨c_13, by omega, ap_wl_of hI hm_4⟩
            have emk9 : ap_mk w tg x (L, d, st, go) = ap_og w 1 (L, d, st, go) := ap_mk_1 hcd9
            have hne9 : L 1 ≠ [] := ap_ne (by omega)
            have hfin9 : (ap_mv L (ap_old (L 1)) 1 3, w, ap_cd d (ap_old (L 1)), ap_cs w d st (ap_old (L 1)), tg, hi, mi, go + 1) = ap_tu w tg hi mi (ap_mk w tg x (L, d, st, go)) := by rw [emk9]; unfold ap_og; rw [if_neg hne9]; rfl
            have hPc := hP.sub (ws' := (cx q ca C L f w d st tg hi mi go)) [0, 1, 2, 3, 4, 5, 6, 7, 8, 9, 10, 11] rfl
            have hDc := hD.sub (ws' := (cx q ca C L f w d st tg hi mi go)) [0, 1, 2, 3, 4, 5, 6, 7, 8, 9, 10, 11] (by decide) rfl
            have hKc := hK.sub (tys' := (kx ca)) [0, 1, 2, 3, 4, 5, 6] rfl
            have hFc := va_free (wc := (cx q ca C L f w d st tg hi mi go)) hD hS hA [0, 1, 2, 3, 4, 5, 6, 7, 8, 9, 10, 11] rfl
            refine va_callv (va_runV (As := [.ref (q 1), .ref (q 3)]) (rest := []) ⟨hx, hb, hml, hown, hts⟩ (c_X_old1 l dC dI q ca C L f w d st tg hi mi go H.size hf hI hz hne9) (cwV 2 hts gX1_makeRoom_X1_oldestGoes rfl rfl rfl (by decide +kernel) ⟨Nat.le_of_ble_eq_true rfl, Nat.le_of_ble_eq_true rfl⟩) ⟨fun a U g mk q => by obtain ⟨q0, q1, qP, qK, qD, qN⟩ := q; exact ⟨q0, q1, qP, va_K.moved (u := U) (U := U.calling g mk a) (Vm.Alike.refl U.vm) qK, qD, va_tabs rfl (rfl : U.vm = (U.calling g mk a).vm) qN⟩, va_recv hKc hPc (ci := 1) (q0 := 0) rfl rfl, fun U hU hW => ⟨rfl, by rw [hU], by rw [hU]; exact hPc, va_K.moved hW.alike hKc, hDc.weaken (fun _ _ _ _ => trivial), va_Nw.warmM hW hN⟩⟩ rfl rfl hl.1 rfl (lv_room (Nat.le_of_ble_eq_true rfl)) dX1_makeRoom_58 ⟨Nat.le_of_ble_eq_true rfl, Nat.le_of_ble_eq_true rfl⟩) hS (fun q _ h => hFc q h) hFc (fun u t H1 locs ht hvm hw hB hz1 hk1 hS => ?_)
            obtain ⟨L1, w1, d1, st1, tg1, hi1, mi1, go1⟩ := u
            obtain ⟨f1, hf1, hP1, hK1, hD1⟩ := hB
            rw [ht] at hP1
            cases hw
            obtain ⟨f_13, ef_13⟩ : ∃ z, z = f1 := ⟨_, rfl⟩
            rw [← ef_13] at hf1 hP1 hD1
            clear ef_13 f1
            have hfx_14 := hf1
            obtain ⟨hP, hD⟩ := va_join (wr := []) (w1 := (cx q ca C (ap_mv L (ap_old (L 1)) 1 3) f_13 w (ap_cd d (ap_old (L 1))) (ap_cs w d st (ap_old (L 1))) tg hi mi (go + 1))) hP hD [0, 1, 2, 3, 4, 5, 6, 7, 8, 9, 10, 11] [] rfl rfl (by decide) (by decide) hk1 hFc hP1 hD1
            generalize H1 = H at hP hS ⊢
            replace hP : va_P (dC, dI) vwCl (cx q ca C (ap_mv L (ap_old (L 1)) 1 3) f_13 w (ap_cd d (ap_old (L 1))) (ap_cs w d st (ap_old (L 1))) tg hi mi (go + 1)) H := hP
            replace hD : va_D A (cx q ca C (ap_mv L (ap_old (L 1)) 1 3) f_13 w (ap_cd d (ap_old (L 1))) (ap_cs w d st (ap_old (L 1))) tg hi mi (go + 1)) := hD
            refine lv_goto (tgt := 76) hx hb dX1_makeRoom_61 (by decide) ?_
            exact W.vret hx hb hr (fun t ht hW => ⟨⟨(ap_mv L (ap_old (L 1)) 1 3, w, ap_cd d (ap_old (L 1)), ap_cs w d st (ap_old (L 1)), tg, hi, mi, go + 1), rfl, hfin9, f_13, hfx_14, by rw [ht]; exact hP, va_K.moved hW.alike hK, hD⟩, hS.F ht⟩) hS.2.2 dX1_makeRoom_76
          · skip
            replace c_42 : ¬ (tg < ((L 1).length)) := fun h9 => c_42 ((nI_ltI (a := tg) (b := (L 1).length) (by omega) (by omega)).mpr h9)
            refine lv_iload_n hx hb dX1_makeRoom_45 rfl (lv_at hl 0 rfl) ?_
            refine lv_if_eq (tgt := 64) hx hb dX1_makeRoom_46 (by decide) (fun c_46 => ?_) (fun c_46 => ?_)
            · skip
              replace c_46 : 1 = 0 := (nI_eq (a := 1) (b := 0) (by omega) (by omega)).mp c_46
              exact absurd c_46 (by omega)
            · skip
              replace c_46 : ¬ (1 = 0) := fun h9 => c_46 ((nI_eq (a := 1) (b := 0) (by omega) (by omega)).mpr h9)
              refine lv_aload_n hx hb dX1_makeRoom_49 rfl (lv_at hl 2 rfl) ?_
              refine lv_aload_n hx hb dX1_makeRoom_50 rfl (lv_at hl 2 rfl) ?_
              refine va_get (D := (dC, dI)) (ci := 1) (v := .ref (q 1)) (C := RX1) (T := TX1) (N := 12) hx hb hts hwX1 hown hK hP 0 rfl rfl 1 (by decide) (hts (.fieldLink RX1 10 "ArcCache" "cameOnce" "LArcCache$AddressList;") (by decide +kernel)) (fun _ h9 => h9) rfl dX1_makeRoom_51 ?_
              refine lv_aload_n hx hb dX1_makeRoom_54 rfl (lv_at hl 2 rfl) ?_
              refine va_get (D := (dC, dI)) (ci := 1) (v := .ref (q 3)) (C := RX1) (T := TX1) (N := 12) hx hb hts hwX1 hown hK hP 0 rfl rfl 3 (by decide) (hts (.fieldLink RX1 19 "ArcCache" "wentOnce" "LArcCache$AddressList;") (by decide +kernel)) (fun _ h9 => h9) rfl dX1_makeRoom_55 ?_
              have hcd9 : tg < (L 1).length ∨ ((L 1).length = tg ∧ 0 < tg ∧ ap_wl L x = 4) := by first | exact Or.inl c_42 | exact Or.inr ⟨c_13, by omega, ap_wl_of hI hm_4⟩
              have emk9 : ap_mk w tg x (L, d, st, go) = ap_og w 1 (L, d, st, go) := ap_mk_1 hcd9
              have hne9 : L 1 ≠ [] := ap_ne (by omega)
              have hfin9 : (ap_mv L (ap_old (L 1)) 1 3, w, ap_cd d (ap_old (L 1)), ap_cs w d st (ap_old (L 1)), tg, hi, mi, go + 1) = ap_tu w tg hi mi (ap_mk w tg x (L, d, st, go)) := by rw [emk9]; unfold ap_og; rw [if_neg hne9]; rfl
              have hPc := hP.sub (ws' := (cx q ca C L f w d st tg hi mi go)) [0, 1, 2, 3, 4, 5, 6, 7, 8, 9, 10, 11] rfl
              have hDc := hD.sub (ws' := (cx q ca C L f w d st tg hi mi go)) [0, 1, 2, 3, 4, 5, 6, 7, 8, 9, 10, 11] (by decide) rfl
              have hKc := hK.sub (tys' := (kx ca)) [0, 1, 2, 3, 4, 5, 6] rfl
              have hFc := va_free (wc := (cx q ca C L f w d st tg hi mi go)) hD hS hA [0, 1, 2, 3, 4, 5, 6, 7, 8, 9, 10, 11] rfl
              refine va_callv (va_runV (As := [.ref (q 1), .ref (q 3)]) (rest := []) ⟨hx, hb, hml, hown, hts⟩ (c_X_old1 l dC dI q ca C L f w d st tg hi mi go H.size hf hI hz hne9) (cwV 2 hts gX1_makeRoom_X1_oldestGoes rfl rfl rfl (by decide +kernel) ⟨Nat.le_of_ble_eq_true rfl, Nat.le_of_ble_eq_true rfl⟩) ⟨fun a U g mk q => by obtain ⟨q0, q1, qP, qK, qD, qN⟩ := q; exact ⟨q0, q1, qP, va_K.moved (u := U) (U := U.calling g mk a) (Vm.Alike.refl U.vm) qK, qD, va_tabs rfl (rfl : U.vm = (U.calling g mk a).vm) qN⟩, va_recv hKc hPc (ci := 1) (q0 := 0) rfl rfl, fun U hU hW => ⟨rfl, by rw [hU], by rw [hU]; exact hPc, va_K.moved hW.alike hKc, hDc.weaken (fun _ _ _ _ => trivial), va_Nw.warmM hW hN⟩⟩ rfl rfl hl.1 rfl (lv_room (Nat.le_of_ble_eq_true rfl)) dX1_makeRoom_58 ⟨Nat.le_of_ble_eq_true rfl, Nat.le_of_ble_eq_true rfl⟩) hS (fun q _ h => hFc q h) hFc (fun u t H1 locs ht hvm hw hB hz1 hk1 hS => ?_)
              obtain ⟨L1, w1, d1, st1, tg1, hi1, mi1, go1⟩ := u
              obtain ⟨f1, hf1, hP1, hK1, hD1⟩ := hB
              rw [ht] at hP1
              cases hw
              obtain ⟨f_15, ef_15⟩ : ∃ z, z = f1 := ⟨_, rfl⟩
              rw [← ef_15] at hf1 hP1 hD1
              clear ef_15 f1
              have hfx_16 := hf1
              obtain ⟨hP, hD⟩ := va_join (wr := []) (w1 := (cx q ca C (ap_mv L (ap_old (L 1)) 1 3) f_15 w (ap_cd d (ap_old (L 1))) (ap_cs w d st (ap_old (L 1))) tg hi mi (go + 1))) hP hD [0, 1, 2, 3, 4, 5, 6, 7, 8, 9, 10, 11] [] rfl rfl (by decide) (by decide) hk1 hFc hP1 hD1
              generalize H1 = H at hP hS ⊢
              replace hP : va_P (dC, dI) vwCl (cx q ca C (ap_mv L (ap_old (L 1)) 1 3) f_15 w (ap_cd d (ap_old (L 1))) (ap_cs w d st (ap_old (L 1))) tg hi mi (go + 1)) H := hP
              replace hD : va_D A (cx q ca C (ap_mv L (ap_old (L 1)) 1 3) f_15 w (ap_cd d (ap_old (L 1))) (ap_cs w d st (ap_old (L 1))) tg hi mi (go + 1)) := hD
              refine lv_goto (tgt := 76) hx hb dX1_makeRoom_61 (by decide) ?_
              exact W.vret hx hb hr (fun t ht hW => ⟨⟨(ap_mv L (ap_old (L 1)) 1 3, w, ap_cd d (ap_old (L 1)), ap_cs w d st (ap_old (L 1)), tg, hi, mi, go + 1), rfl, hfin9, f_15, hfx_16, by rw [ht]; exact hP, va_K.moved hW.alike hK, hD⟩, hS.F ht⟩) hS.2.2 dX1_makeRoom_76
      · rw [if_neg hm_4] at hr9
        subst hr9
        refine lv_if_eq (tgt := 35) hx hb dX1_makeRoom_28 (by decide) (fun c_28 => ?_) (fun c_28 => ?_)
        · skip
          replace c_28 : 0 = 0 := (nI_eq (a := 0) (b := 0) (by omega) (by omega)).mp c_28
          refine lv_iconst (v := nI 0) hx hb dX1_makeRoom_35 (by decide) ?_
          refine lv_istore_n (lv' := [(3, .int (nI 0)), (2, .int (nI ((L 1).length))), (0, .ref (q 0)), (1, .int x)]) hx hb dX1_makeRoom_36 rfl hl (by decide) rfl (fun ls hl => ?_)
          refine lv_iload_n hx hb dX1_makeRoom_37 rfl (lv_at hl 1 rfl) ?_
          refine lv_aload_n hx hb dX1_makeRoom_38 rfl (lv_at hl 2 rfl) ?_
          refine va_get (D := (dC, dI)) (ci := 1) (v := .int (nI tg)) (C := RX1) (T := TX1) (N := 12) hx hb hts hwX1 hown hK hP 0 rfl rfl 8 (by decide) (hts (.fieldLink RX1 55 "ArcCache" "targetCount" "I") (by decide +kernel)) (fun _ h9 => h9) rfl dX1_makeRoom_39 ?_
          refine lv_icmp_gt (tgt := 49) hx hb dX1_makeRoom_42 (by decide) (fun c_42 => ?_) (fun c_42 => ?_)
          · skip
            replace c_42 : tg < ((L 1).length) := (nI_ltI (a := tg) (b := (L 1).length) (by omega) (by omega)).mp c_42
            refine lv_aload_n hx hb dX1_makeRoom_49 rfl (lv_at hl 2 rfl) ?_
            refine lv_aload_n hx hb dX1_makeRoom_50 rfl (lv_at hl 2 rfl) ?_
            refine va_get (D := (dC, dI)) (ci := 1) (v := .ref (q 1)) (C := RX1) (T := TX1) (N := 12) hx hb hts hwX1 hown hK hP 0 rfl rfl 1 (by decide) (hts (.fieldLink RX1 10 "ArcCache" "cameOnce" "LArcCache$AddressList;") (by decide +kernel)) (fun _ h9 => h9) rfl dX1_makeRoom_51 ?_
            refine lv_aload_n hx hb dX1_makeRoom_54 rfl (lv_at hl 2 rfl) ?_
            refine va_get (D := (dC, dI)) (ci := 1) (v := .ref (q 3)) (C := RX1) (T := TX1) (N := 12) hx hb hts hwX1 hown hK hP 0 rfl rfl 3 (by decide) (hts (.fieldLink RX1 19 "ArcCache" "wentOnce" "LArcCache$AddressList;") (by decide +kernel)) (fun _ h9 => h9) rfl dX1_makeRoom_55 ?_
            have hcd9 : tg < (L 1).length ∨ ((L 1).length = tg ∧ 0 < tg ∧ ap_wl L x = 4) := by first | exact Or.inl c_42 | exact Or.inr ⟨c_13, by omega, ap_wl_of hI hm_4⟩
            have emk9 : ap_mk w tg x (L, d, st, go) = ap_og w 1 (L, d, st, go) := ap_mk_1 hcd9
            have hne9 : L 1 ≠ [] := ap_ne (by omega)
            have hfin9 : (ap_mv L (ap_old (L 1)) 1 3, w, ap_cd d (ap_old (L 1)), ap_cs w d st (ap_old (L 1)), tg, hi, mi, go + 1) = ap_tu w tg hi mi (ap_mk w tg x (L, d, st, go)) := by rw [emk9]; unfold ap_og; rw [if_neg hne9]; rfl
            have hPc := hP.sub (ws' := (cx q ca C L f w d st tg hi mi go)) [0, 1, 2, 3, 4, 5, 6, 7, 8, 9, 10, 11] rfl
            have hDc := hD.sub (ws' := (cx q ca C L f w d st tg hi mi go)) [0, 1, 2, 3, 4, 5, 6, 7, 8, 9, 10, 11] (by decide) rfl
            have hKc := hK.sub (tys' := (kx ca)) [0, 1, 2, 3, 4, 5, 6] rfl
            have hFc := va_free (wc := (cx q ca C L f w d st tg hi mi go)) hD hS hA [0, 1, 2, 3, 4, 5, 6, 7, 8, 9, 10, 11] rfl
            refine va_callv (va_runV (As := [.ref (q 1), .ref (q 3)]) (rest := []) ⟨hx, hb, hml, hown, hts⟩ (c_X_old1 l dC dI q ca C L f w d st tg hi mi go H.size hf hI hz hne9) (cwV 2 hts gX1_makeRoom_X1_oldestGoes rfl rfl rfl (by decide +kernel) ⟨Nat.le_of_ble_eq_true rfl, Nat.le_of_ble_eq_true rfl⟩) ⟨fun a U g mk q => by obtain ⟨q0, q1, qP, qK, qD, qN⟩ := q; exact ⟨q0, q1, qP, va_K.moved (u := U) (U := U.calling g mk a) (Vm.Alike.refl U.vm) qK, qD, va_tabs rfl (rfl : U.vm = (U.calling g mk a).vm) qN⟩, va_recv hKc hPc (ci := 1) (q0 := 0) rfl rfl, fun U hU hW => ⟨rfl, by rw [hU], by rw [hU]; exact hPc, va_K.moved hW.alike hKc, hDc.weaken (fun _ _ _ _ => trivial), va_Nw.warmM hW hN⟩⟩ rfl rfl hl.1 rfl (lv_room (Nat.le_of_ble_eq_true rfl)) dX1_makeRoom_58 ⟨Nat.le_of_ble_eq_true rfl, Nat.le_of_ble_eq_true rfl⟩) hS (fun q _ h => hFc q h) hFc (fun u t H1 locs ht hvm hw hB hz1 hk1 hS => ?_)
            obtain ⟨L1, w1, d1, st1, tg1, hi1, mi1, go1⟩ := u
            obtain ⟨f1, hf1, hP1, hK1, hD1⟩ := hB
            rw [ht] at hP1
            cases hw
            obtain ⟨f_17, ef_17⟩ : ∃ z, z = f1 := ⟨_, rfl⟩
            rw [← ef_17] at hf1 hP1 hD1
            clear ef_17 f1
            have hfx_18 := hf1
            obtain ⟨hP, hD⟩ := va_join (wr := []) (w1 := (cx q ca C (ap_mv L (ap_old (L 1)) 1 3) f_17 w (ap_cd d (ap_old (L 1))) (ap_cs w d st (ap_old (L 1))) tg hi mi (go + 1))) hP hD [0, 1, 2, 3, 4, 5, 6, 7, 8, 9, 10, 11] [] rfl rfl (by decide) (by decide) hk1 hFc hP1 hD1
            generalize H1 = H at hP hS ⊢
            replace hP : va_P (dC, dI) vwCl (cx q ca C (ap_mv L (ap_old (L 1)) 1 3) f_17 w (ap_cd d (ap_old (L 1))) (ap_cs w d st (ap_old (L 1))) tg hi mi (go + 1)) H := hP
            replace hD : va_D A (cx q ca C (ap_mv L (ap_old (L 1)) 1 3) f_17 w (ap_cd d (ap_old (L 1))) (ap_cs w d st (ap_old (L 1))) tg hi mi (go + 1)) := hD
            refine lv_goto (tgt := 76) hx hb dX1_makeRoom_61 (by decide) ?_
            exact W.vret hx hb hr (fun t ht hW => ⟨⟨(ap_mv L (ap_old (L 1)) 1 3, w, ap_cd d (ap_old (L 1)), ap_cs w d st (ap_old (L 1)), tg, hi, mi, go + 1), rfl, hfin9, f_17, hfx_18, by rw [ht]; exact hP, va_K.moved hW.alike hK, hD⟩, hS.F ht⟩) hS.2.2 dX1_makeRoom_76
          · skip
            replace c_42 : ¬ (tg < ((L 1).length)) := fun h9 => c_42 ((nI_ltI (a := tg) (b := (L 1).length) (by omega) (by omega)).mpr h9)
            refine lv_iload_n hx hb dX1_makeRoom_45 rfl (lv_at hl 0 rfl) ?_
            refine lv_if_eq (tgt := 64) hx hb dX1_makeRoom_46 (by decide) (fun c_46 => ?_) (fun c_46 => ?_)
            · skip
              replace c_46 : 0 = 0 := (nI_eq (a := 0) (b := 0) (by omega) (by omega)).mp c_46
              refine lv_aload_n hx hb dX1_makeRoom_64 rfl (lv_at hl 2 rfl) ?_
              refine lv_aload_n hx hb dX1_makeRoom_65 rfl (lv_at hl 2 rfl) ?_
              refine va_get (D := (dC, dI)) (ci := 1) (v := .ref (q 2)) (C := RX1) (T := TX1) (N := 12) hx hb hts hwX1 hown hK hP 0 rfl rfl 2 (by decide) (hts (.fieldLink RX1 16 "ArcCache" "cameAgain" "LArcCache$AddressList;") (by decide +kernel)) (fun _ h9 => h9) rfl dX1_makeRoom_66 ?_
              refine lv_aload_n hx hb dX1_makeRoom_69 rfl (lv_at hl 2 rfl) ?_
              refine va_get (D := (dC, dI)) (ci := 1) (v := .ref (q 4)) (C := RX1) (T := TX1) (N := 12) hx hb hts hwX1 hown hK hP 0 rfl rfl 4 (by decide) (hts (.fieldLink RX1 22 "ArcCache" "wentAgain" "LArcCache$AddressList;") (by decide +kernel)) (fun _ h9 => h9) rfl dX1_makeRoom_70 ?_
              have hcd9 : ¬ (tg < (L 1).length ∨ ((L 1).length = tg ∧ 0 < tg ∧ ap_wl L x = 4)) := fun h9 => h9.elim c_42 (fun h9 => by first | exact c_13 h9.1 | omega | exact hm_4 ((ap_wl4 hI).mp h9.2.2))
              have emk9 : ap_mk w tg x (L, d, st, go) = ap_og w 2 (L, d, st, go) := ap_mk_2 hcd9
              by_cases hne9 : L 2 = []
              · skip
                have hfin9 : (L, w, d, st, tg, hi, mi, go) = ap_tu w tg hi mi (ap_mk w tg x (L, d, st, go)) := by rw [emk9]; unfold ap_og; rw [if_pos hne9]; rfl
                have hPc := hP.sub (ws' := (cx q ca C L f w d st tg hi mi go)) [0, 1, 2, 3, 4, 5, 6, 7, 8, 9, 10, 11] rfl
                have hDc := hD.sub (ws' := (cx q ca C L f w d st tg hi mi go)) [0, 1, 2, 3, 4, 5, 6, 7, 8, 9, 10, 11] (by decide) rfl
                have hKc := hK.sub (tys' := (kx ca)) [0, 1, 2, 3, 4, 5, 6] rfl
                have hFc := va_free (wc := (cx q ca C L f w d st tg hi mi go)) hD hS hA [0, 1, 2, 3, 4, 5, 6, 7, 8, 9, 10, 11] rfl
                refine va_callv (va_runV (As := [.ref (q 2), .ref (q 4)]) (rest := []) ⟨hx, hb, hml, hown, hts⟩ (c_X_old2e l dC dI q ca C L f w d st tg hi mi go H.size hf hI hz hne9) (cwV 2 hts gX1_makeRoom_X1_oldestGoes rfl rfl rfl (by decide +kernel) ⟨Nat.le_of_ble_eq_true rfl, Nat.le_of_ble_eq_true rfl⟩) ⟨fun a U g mk q => by obtain ⟨q0, q1, qP, qK, qD, qN⟩ := q; exact ⟨q0, q1, qP, va_K.moved (u := U) (U := U.calling g mk a) (Vm.Alike.refl U.vm) qK, qD, va_tabs rfl (rfl : U.vm = (U.calling g mk a).vm) qN⟩, va_recv hKc hPc (ci := 1) (q0 := 0) rfl rfl, fun U hU hW => ⟨rfl, by rw [hU], by rw [hU]; exact hPc, va_K.moved hW.alike hKc, hDc.weaken (fun _ _ _ _ => trivial), va_Nw.warmM hW hN⟩⟩ rfl rfl hl.1 rfl (lv_room (Nat.le_of_ble_eq_true rfl)) dX1_makeRoom_73 ⟨Nat.le_of_ble_eq_true rfl, Nat.le_of_ble_eq_true rfl⟩) hS (fun q _ h => hFc q h) hFc (fun u t H1 locs ht hvm hw hB hz1 hk1 hS => ?_)
                obtain ⟨L1, w1, d1, st1, tg1, hi1, mi1, go1⟩ := u
                obtain ⟨f1, hf1, hP1, hK1, hD1⟩ := hB
                rw [ht] at hP1
                cases hw
                obtain ⟨f_19, ef_19⟩ : ∃ z, z = f1 := ⟨_, rfl⟩
                rw [← ef_19] at hf1 hP1 hD1
                clear ef_19 f1
                have hfx_20 := hf1
                obtain ⟨hP, hD⟩ := va_join (wr := []) (w1 := (cx q ca C L f_19 w d st tg hi mi go)) hP hD [0, 1, 2, 3, 4, 5, 6, 7, 8, 9, 10, 11] [] rfl rfl (by decide) (by decide) hk1 hFc hP1 hD1
                generalize H1 = H at hP hS ⊢
                replace hP : va_P (dC, dI) vwCl (cx q ca C L f_19 w d st tg hi mi go) H := hP
                replace hD : va_D A (cx q ca C L f_19 w d st tg hi mi go) := hD
                exact W.vret hx hb hr (fun t ht hW => ⟨⟨(L, w, d, st, tg, hi, mi, go), rfl, hfin9, f_19, hfx_20, by rw [ht]; exact hP, va_K.moved hW.alike hK, hD⟩, hS.F ht⟩) hS.2.2 dX1_makeRoom_76
              · skip
                have hfin9 : (ap_mv L (ap_old (L 2)) 2 4, w, ap_cd d (ap_old (L 2)), ap_cs w d st (ap_old (L 2)), tg, hi, mi, go + 1) = ap_tu w tg hi mi (ap_mk w tg x (L, d, st, go)) := by rw [emk9]; unfold ap_og; rw [if_neg hne9]; rfl
                have hPc := hP.sub (ws' := (cx q ca C L f w d st tg hi mi go)) [0, 1, 2, 3, 4, 5, 6, 7, 8, 9, 10, 11] rfl
                have hDc := hD.sub (ws' := (cx q ca C L f w d st tg hi mi go)) [0, 1, 2, 3, 4, 5, 6, 7, 8, 9, 10, 11] (by decide) rfl
                have hKc := hK.sub (tys' := (kx ca)) [0, 1, 2, 3, 4, 5, 6] rfl
                have hFc := va_free (wc := (cx q ca C L f w d st tg hi mi go)) hD hS hA [0, 1, 2, 3, 4, 5, 6, 7, 8, 9, 10, 11] rfl
                refine va_callv (va_runV (As := [.ref (q 2), .ref (q 4)]) (rest := []) ⟨hx, hb, hml, hown, hts⟩ (c_X_old2 l dC dI q ca C L f w d st tg hi mi go H.size hf hI hz hne9) (cwV 2 hts gX1_makeRoom_X1_oldestGoes rfl rfl rfl (by decide +kernel) ⟨Nat.le_of_ble_eq_true rfl, Nat.le_of_ble_eq_true rfl⟩) ⟨fun a U g mk q => by obtain ⟨q0, q1, qP, qK, qD, qN⟩ := q; exact ⟨q0, q1, qP, va_K.moved (u := U) (U := U.calling g mk a) (Vm.Alike.refl U.vm) qK, qD, va_tabs rfl (rfl : U.vm = (U.calling g mk a).vm) qN⟩, va_recv hKc hPc (ci := 1) (q0 := 0) rfl rfl, fun U hU hW => ⟨rfl, by rw [hU], by rw [hU]; exact hPc, va_K.moved hW.alike hKc, hDc.weaken (fun _ _ _ _ => trivial), va_Nw.warmM hW hN⟩⟩ rfl rfl hl.1 rfl (lv_room (Nat.le_of_ble_eq_true rfl)) dX1_makeRoom_73 ⟨Nat.le_of_ble_eq_true rfl, Nat.le_of_ble_eq_true rfl⟩) hS (fun q _ h => hFc q h) hFc (fun u t H1 locs ht hvm hw hB hz1 hk1 hS => ?_)
                obtain ⟨L1, w1, d1, st1, tg1, hi1, mi1, go1⟩ := u
                obtain ⟨f1, hf1, hP1, hK1, hD1⟩ := hB
                rw [ht] at hP1
                cases hw
                obtain ⟨f_21, ef_21⟩ : ∃ z, z = f1 := ⟨_, rfl⟩
                rw [← ef_21] at hf1 hP1 hD1
                clear ef_21 f1
                have hfx_22 := hf1
                obtain ⟨hP, hD⟩ := va_join (wr := []) (w1 := (cx q ca C (ap_mv L (ap_old (L 2)) 2 4) f_21 w (ap_cd d (ap_old (L 2))) (ap_cs w d st (ap_old (L 2))) tg hi mi (go + 1))) hP hD [0, 1, 2, 3, 4, 5, 6, 7, 8, 9, 10, 11] [] rfl rfl (by decide) (by decide) hk1 hFc hP1 hD1
                generalize H1 = H at hP hS ⊢
                replace hP : va_P (dC, dI) vwCl (cx q ca C (ap_mv L (ap_old (L 2)) 2 4) f_21 w (ap_cd d (ap_old (L 2))) (ap_cs w d st (ap_old (L 2))) tg hi mi (go + 1)) H := hP
                replace hD : va_D A (cx q ca C (ap_mv L (ap_old (L 2)) 2 4) f_21 w (ap_cd d (ap_old (L 2))) (ap_cs w d st (ap_old (L 2))) tg hi mi (go + 1)) := hD
                exact W.vret hx hb hr (fun t ht hW => ⟨⟨(ap_mv L (ap_old (L 2)) 2 4, w, ap_cd d (ap_old (L 2)), ap_cs w d st (ap_old (L 2)), tg, hi, mi, go + 1), rfl, hfin9, f_21, hfx_22, by rw [ht]; exact hP, va_K.moved hW.alike hK, hD⟩, hS.F ht⟩) hS.2.2 dX1_makeRoom_76
            · skip
              replace c_46 : ¬ (0 = 0) := fun h9 => c_46 ((nI_eq (a := 0) (b := 0) (by omega) (by omega)).mpr h9)
              exact absurd c_46 (by omega)
        · skip
          replace c_28 : ¬ (0 = 0) := fun h9 => c_28 ((nI_eq (a := 0) (b := 0) (by omega) (by omega)).mpr h9)
          exact absurd c_28 (by omega)
end
section
-- THE CLASS, third part (laid by wip/gen/xx3.py)
theorem ap_tot_dr {L : Nat → List Int32} (hz : ap_tot L ≤ 48) (k : Nat) : ap_tot (ap_dr L k) ≤ 48 := by
  have key : ∀ i, (ap_dr L k i).length ≤ (L i).length := fun i => by
    unfold ap_dr
    by_cases e : i = k
    · subst e
      rw [va_up_self]
      exact ap_rm_le
    · rw [va_up_ne _ _ e]
      exact Nat.le_refl _
  have k1 := key 1
  have k2 := key 2
  have k3 := key 3
  have k4 := key 4
  unfold ap_tot at hz ⊢
  omega
theorem ap_un_A {w : Nat → Int32} {C t : Nat} {a : Int32} {S : ap_T} (h1 : (S.1 1).length + (S.1 3).length = C) (h2 : (S.1 1).length = C) : ap_un w C t a S = (ap_dr S.1 1, ap_cd S.2.1 (ap_old (S.1 1)), ap_cs w S.2.1 S.2.2.1 (ap_old (S.1 1)), S.2.2.2 + 1) := by
  unfold ap_un
  rw [if_pos h1, if_pos h2]
theorem ap_un_B {w : Nat → Int32} {C t : Nat} {a : Int32} {S : ap_T} (h1 : (S.1 1).length + (S.1 3).length = C) (h2 : ¬ (S.1 1).length = C) : ap_un w C t a S = ap_mk w t a (ap_dr S.1 3, S.2) := by
  unfold ap_un
  rw [if_pos h1, if_neg h2]
theorem ap_un_C {w : Nat → Int32} {C t : Nat} {a : Int32} {S : ap_T} (h1 : ¬ (S.1 1).length + (S.1 3).length = C) (h2 : C ≤ ap_tot S.1) (h3 : ap_tot S.1 = 2 * C) : ap_un w C t a S = ap_mk w t a (ap_dr S.1 4, S.2) := by
  unfold ap_un
  rw [if_neg h1, if_pos h2, if_pos h3]
theorem ap_un_D {w : Nat → Int32} {C t : Nat} {a : Int32} {S : ap_T} (h1 : ¬ (S.1 1).length + (S.1 3).length = C) (h2 : C ≤ ap_tot S.1) (h3 : ¬ ap_tot S.1 = 2 * C) : ap_un w C t a S = ap_mk w t a S := by
  unfold ap_un
  rw [if_neg h1, if_pos h2, if_neg h3]
theorem ap_un_E {w : Nat → Int32} {C t : Nat} {a : Int32} {S : ap_T} (h1 : ¬ (S.1 1).length + (S.1 3).length = C) (h2 : ¬ C ≤ ap_tot S.1) : ap_un w C t a S = S := by
  unfold ap_un
  rw [if_neg h1, if_neg h2]
set_option maxHeartbeats 4000000 in
set_option maxRecDepth 100000 in
theorem c_X_tgt3 (l : Launch) (dC : Nat → ClassId) (dI : Nat → Nat → Nat) (q : Nat → Nat) (ca : Nat → ClassId) (C : Nat) (L : Nat → List Int32) (f : Nat → Nat → Int32) (w d st : Nat → Int32) (tg : Nat) (hi mi go : Int32)  (sz : Nat) (hf : fx_ok f L) (hI : ap_inv L) (hz : ap_tot L ≤ 48) (htg : tg ≤ C) (hC : C ≤ 24) : Met l yX1_moveTarget wsX1_moveTarget ({ frames := 2, cells := 0, slots := 0, locals := 61 }) (va_Pc [.ref (q 0), .int (nI 3)] (fun U => U.heap.size = sz ∧ va_P (dC, dI) vwCl (cx q ca C L f w d st tg hi mi go) U.heap ∧ va_K (dC, dI) vwCl (kx ca) U ∧ va_D (fun _ => True) (cx q ca C L f w d st tg hi mi go))) (va_Qv (fun (u : ap_U) => u = (L, w, d, st, ap_tg L C tg 3, hi, mi, go)) (at_X dC dI (va_A (cx q ca C L f w d st tg hi mi go) sz) q ca C) (va_A (cx q ca C L f w d st tg hi mi go) sz)) 0 0 (va_A (cx q ca C L f w d st tg hi mi go) sz) := by
  refine Met.ofW (cc := cX1_moveTarget) (maxL := 3) (ret := none) (by decide) rfl ?_
  intro p e s m args below meth c s₁ B hml hv
  obtain ⟨rfl, hsz, hP, hK, hD0⟩ := hv
  have hx := B.exec
  have hb := B.bytes
  have hr := B.returns
  have hts := atoms_spec (ws := wsX1_moveTarget) B.pre
  have hown : s.vm.findClass RX1 = some m.cls := findClass_of_methodNamed B.named
  have hlocks := B.notSynchronized
  have hwX1 : ∀ w ∈ u_ws RX1 TX1 12, w ∈ wsX1_moveTarget := by decide +kernel
  subst hsz
  have hD := hD0.self (sz := s.heap.size)
  generalize hAe : va_A (cx q ca C L f w d st tg hi mi go) s.heap.size = A at hD ⊢
  have hA : ∀ q : Nat, s.heap.size ≤ q → A q := fun q h => by rw [← hAe]; exact Or.inr h
  have hS0 : ∀ H, s.heap = H → va_S A s.heap H [] := fun H h => by subst h; exact va_S.rf
  have hl := lv_entry ([.ref (q 0), .int (nI 3)]) (n := 3) (Nat.le_of_ble_eq_true rfl)
  rw [lg_entry_eq]
  generalize (lg_sl ([.ref (q 0), .int (nI 3)]) ++ List.replicate (3 - (lg_sl ([.ref (q 0), .int (nI 3)])).length) Slot.unset).toArray = ls at hl ⊢
  have hl : lv_has ls 3 [(0, .ref (q 0)), (1, .int (nI 3))] := hl
  generalize hHe : s.heap = H at hP ⊢
  have hS := hS0 H hHe
  have z1 : (L 1).length ≤ 48 := by unfold ap_tot at hz; omega
  have z2 : (L 2).length ≤ 48 := by unfold ap_tot at hz; omega
  have z3 : (L 3).length ≤ 48 := by unfold ap_tot at hz; omega
  have z4 : (L 4).length ≤ 48 := by unfold ap_tot at hz; omega
  have hdv9 := @ap_divle (L 4).length (L 3).length
  refine lv_iload_n hx hb dX1_moveTarget_0 rfl (lv_at hl 1 rfl) ?_
  refine lv_iconst (v := nI 3) hx hb dX1_moveTarget_1 (by decide) ?_
  refine lv_icmp_ne (tgt := 43) hx hb dX1_moveTarget_2 (by decide) (fun c_2 => ?_) (fun c_2 => ?_)
  · skip
    replace c_2 : ¬ (3 = 3) := fun h9 => c_2 ((nI_eq (a := 3) (b := 3) (by omega) (by omega)).mpr h9)
    exact absurd c_2 (by omega)
  · skip
    replace c_2 : 3 = 3 := (nI_eq (a := 3) (b := 3) (by omega) (by omega)).mp c_2
    refine lv_aload_n hx hb dX1_moveTarget_5 rfl (lv_at hl 0 rfl) ?_
    refine va_get (D := (dC, dI)) (ci := 1) (v := .ref (q 4)) (C := RX1) (T := TX1) (N := 12) hx hb hts hwX1 hown hK hP 0 rfl rfl 4 (by decide) (hts (.fieldLink RX1 22 "ArcCache" "wentAgain" "LArcCache$AddressList;") (by decide +kernel)) (fun _ h9 => h9) rfl dX1_moveTarget_6 ?_
    have hPc := hP.sub (ws' := (cal (q 4) (q 8) (ca 4) ((L 4).length) (f 4))) [7, 8] rfl
    have hDc := hD.sub (ws' := (cal (q 4) (q 8) (ca 4) ((L 4).length) (f 4))) [7, 8] (by decide) rfl
    have hKc := hK.sub (tys' := (kal (ca 4))) [3] rfl
    have hFc := va_free (wc := (cal (q 4) (q 8) (ca 4) ((L 4).length) (f 4))) hD hS hA [7, 8] rfl
    refine va_calli (va_runV (As := []) (rest := []) ⟨hx, hb, hml, hown, hts⟩ (c_A_size l dC dI (q 4) (q 8) (ca 4) (L 4).length (f 4) H.size) (cwV 0 hts gX1_moveTarget_X0_size rfl rfl rfl (by decide +kernel) ⟨Nat.le_of_ble_eq_true rfl, Nat.le_of_ble_eq_true rfl⟩) ⟨fun a U g mk q => by obtain ⟨q0, q1, qP, qK, qD⟩ := q; exact ⟨q0, q1, qP, va_K.moved (u := U) (U := U.calling g mk a) (Vm.Alike.refl U.vm) qK, qD⟩, va_recv hKc hPc (ci := 0) (q0 := 0) rfl rfl, fun U hU hW => ⟨rfl, by rw [hU], by rw [hU]; exact hPc, va_K.moved hW.alike hKc, hDc.weaken (fun _ _ _ _ => trivial)⟩⟩ rfl rfl hl.1 rfl (lv_room (Nat.le_of_ble_eq_true rfl)) dX1_moveTarget_9 ⟨Nat.le_of_ble_eq_true rfl, Nat.le_of_ble_eq_true rfl⟩) hS (fun q _ h => hFc q h) hFc (fun r u t H1 locs ht hvm hw hB hz1 hk1 hS => ?_)
    obtain ⟨n1, f1⟩ := u
    obtain ⟨hP1, hK1, hD1⟩ := hB
    rw [ht] at hP1
    try dsimp only at hw hP1 hD1
    obtain ⟨hr9, hu⟩ := hw
    cases hu
    obtain ⟨hP, hD⟩ := va_join (wr := [(q 0, .inr (1, [.int (nI C), .ref (q 1), .ref (q 2), .ref (q 3), .ref (q 4), .ref (q 9), .ref (q 10), .ref (q 11), .int (nI tg), .int hi, .int mi, .int go])), (q 1, .inr (0, [.ref (q 5), .int (nI ((L 1).length))])), (q 5, .inl (ca 1, 64, .inl (f 1))), (q 2, .inr (0, [.ref (q 6), .int (nI ((L 2).length))])), (q 6, .inl (ca 2, 64, .inl (f 2))), (q 3, .inr (0, [.ref (q 7), .int (nI ((L 3).length))])), (q 7, .inl (ca 3, 64, .inl (f 3))), (q 9, .inl (ca 5, 64, .inl w)), (q 10, .inl (ca 6, 64, .inl d)), (q 11, .inl (ca 7, 64, .inl st))]) (w1 := (cal (q 4) (q 8) (ca 4) ((L 4).length) (f 4))) hP hD [7, 8] [0, 1, 2, 3, 4, 5, 6, 9, 10, 11] rfl rfl (by decide) (by decide) hk1 hFc hP1 hD1
    generalize H1 = H at hP hS ⊢
    replace hP := hP.sub (ws' := (cx q ca C L f w d st tg hi mi go)) [0, 1, 2, 3, 4, 5, 6, 10, 11, 7, 8, 9] rfl
    replace hD := hD.sub (ws' := (cx q ca C L f w d st tg hi mi go)) [0, 1, 2, 3, 4, 5, 6, 10, 11, 7, 8, 9] (by decide) rfl
    subst hr9
    refine lv_aload_n hx hb dX1_moveTarget_12 rfl (lv_at hl 0 rfl) ?_
    refine va_get (D := (dC, dI)) (ci := 1) (v := .ref (q 3)) (C := RX1) (T := TX1) (N := 12) hx hb hts hwX1 hown hK hP 0 rfl rfl 3 (by decide) (hts (.fieldLink RX1 19 "ArcCache" "wentOnce" "LArcCache$AddressList;") (by decide +kernel)) (fun _ h9 => h9) rfl dX1_moveTarget_13 ?_
    have hPc := hP.sub (ws' := (cal (q 3) (q 7) (ca 3) ((L 3).length) (f 3))) [5, 6] rfl
    have hDc := hD.sub (ws' := (cal (q 3) (q 7) (ca 3) ((L 3).length) (f 3))) [5, 6] (by decide) rfl
    have hKc := hK.sub (tys' := (kal (ca 3))) [2] rfl
    have hFc := va_free (wc := (cal (q 3) (q 7) (ca 3) ((L 3).length) (f 3))) hD hS hA [5, 6] rfl
    refine va_calli (va_runV (As := []) (rest := [.int (nI ((L 4).length))]) ⟨hx, hb, hml, hown, hts⟩ (c_A_size l dC dI (q 3) (q 7) (ca 3) (L 3).length (f 3) H.size) (cwV 0 hts gX1_moveTarget_X0_size rfl rfl rfl (by decide +kernel) ⟨Nat.le_of_ble_eq_true rfl, Nat.le_of_ble_eq_true rfl⟩) ⟨fun a U g mk q => by obtain ⟨q0, q1, qP, qK, qD⟩ := q; exact ⟨q0, q1, qP, va_K.moved (u := U) (U := U.calling g mk a) (Vm.Alike.refl U.vm) qK, qD⟩, va_recv hKc hPc (ci := 0) (q0 := 0) rfl rfl, fun U hU hW => ⟨rfl, by rw [hU], by rw [hU]; exact hPc, va_K.moved hW.alike hKc, hDc.weaken (fun _ _ _ _ => trivial)⟩⟩ rfl rfl hl.1 rfl (lv_room (Nat.le_of_ble_eq_true rfl)) dX1_moveTarget_16 ⟨Nat.le_of_ble_eq_true rfl, Nat.le_of_ble_eq_true rfl⟩) hS (fun q _ h => hFc q h) hFc (fun r u t H1 locs ht hvm hw hB hz1 hk1 hS => ?_)
    obtain ⟨n1, f1⟩ := u
    obtain ⟨hP1, hK1, hD1⟩ := hB
    rw [ht] at hP1
    try dsimp only at hw hP1 hD1
    obtain ⟨hr9, hu⟩ := hw
    cases hu
    obtain ⟨hP, hD⟩ := va_join (wr := [(q 0, .inr (1, [.int (nI C), .ref (q 1), .ref (q 2), .ref (q 3), .ref (q 4), .ref (q 9), .ref (q 10), .ref (q 11), .int (nI tg), .int hi, .int mi, .int go])), (q 1, .inr (0, [.ref (q 5), .int (nI ((L 1).length))])), (q 5, .inl (ca 1, 64, .inl (f 1))), (q 2, .inr (0, [.ref (q 6), .int (nI ((L 2).length))])), (q 6, .inl (ca 2, 64, .inl (f 2))), (q 4, .inr (0, [.ref (q 8), .int (nI ((L 4).length))])), (q 8, .inl (ca 4, 64, .inl (f 4))), (q 9, .inl (ca 5, 64, .inl w)), (q 10, .inl (ca 6, 64, .inl d)), (q 11, .inl (ca 7, 64, .inl st))]) (w1 := (cal (q 3) (q 7) (ca 3) ((L 3).length) (f 3))) hP hD [5, 6] [0, 1, 2, 3, 4, 7, 8, 9, 10, 11] rfl rfl (by decide) (by decide) hk1 hFc hP1 hD1
    generalize H1 = H at hP hS ⊢
    replace hP := hP.sub (ws' := (cx q ca C L f w d st tg hi mi go)) [0, 1, 2, 3, 4, 10, 11, 5, 6, 7, 8, 9] rfl
    replace hD := hD.sub (ws' := (cx q ca C L f w d st tg hi mi go)) [0, 1, 2, 3, 4, 10, 11, 5, 6, 7, 8, 9] (by decide) rfl
    subst hr9
    have hPc := hP.sub (ws' := []) [] rfl
    have hDc := hD.sub (ws' := []) [] (by decide) rfl
    have hFc := va_free (wc := []) hD hS hA [] rfl
    refine va_calli (va_runS (As := [.int (nI ((L 4).length)), .int (nI ((L 3).length))]) (rest := []) ⟨hx, hb, hml, hown, hts⟩ (c_X_stepOf l dC dI (L 4).length (L 3).length H.size (by omega) (by omega)) (va_cwS 2 hts gX1_moveTarget_X1_stepOf rfl rfl rfl (by decide +kernel) ⟨Nat.le_of_ble_eq_true rfl, Nat.le_of_ble_eq_true rfl⟩) ⟨fun a U g mk q => by obtain ⟨q0, q1⟩ := q; exact ⟨q0, q1⟩, fun U hU hW => ⟨rfl, by show U.heap.size = _; rw [hU]⟩⟩ rfl rfl hl.1 rfl (lv_room (Nat.le_of_ble_eq_true rfl)) dX1_moveTarget_19 ⟨Nat.le_of_ble_eq_true rfl, Nat.le_of_ble_eq_true rfl⟩) hS (fun q _ h => hFc q h) hFc (fun r u t H1 locs ht hvm hw hB hz1 hk1 hS => ?_)
    obtain ⟨hP, hD⟩ := va_join (wr := (cx q ca C L f w d st tg hi mi go)) (w1 := []) hP hD [] [0, 1, 2, 3, 4, 5, 6, 7, 8, 9, 10, 11] rfl rfl (by decide) (by decide) hk1 hFc (fun k q h => by simp at h) ⟨fun i j p q h => by simp at h, fun k q h => by simp at h⟩
    generalize H1 = H at hP hS ⊢
    replace hP : va_P (dC, dI) vwCl (cx q ca C L f w d st tg hi mi go) H := hP
    replace hD : va_D A (cx q ca C L f w d st tg hi mi go) := hD
    subst hw
    refine lv_istore_n (lv' := [(2, .int (nI (max 1 ((L 4).length / (L 3).length)))), (0, .ref (q 0)), (1, .int (nI 3))]) hx hb dX1_moveTarget_22 rfl hl (by decide) rfl (fun ls hl => ?_)
    refine lv_aload_n hx hb dX1_moveTarget_23 rfl (lv_at hl 1 rfl) ?_
    refine lv_aload_n hx hb dX1_moveTarget_24 rfl (lv_at hl 1 rfl) ?_
    refine va_get (D := (dC, dI)) (ci := 1) (v := .int (nI C)) (C := RX1) (T := TX1) (N := 12) hx hb hts hwX1 hown hK hP 0 rfl rfl 0 (by decide) (hts (.fieldLink RX1 42 "ArcCache" "pages" "I") (by decide +kernel)) (fun _ h9 => h9) rfl dX1_moveTarget_25 ?_
    refine lv_aload_n hx hb dX1_moveTarget_28 rfl (lv_at hl 1 rfl) ?_
    refine va_get (D := (dC, dI)) (ci := 1) (v := .int (nI tg)) (C := RX1) (T := TX1) (N := 12) hx hb hts hwX1 hown hK hP 0 rfl rfl 8 (by decide) (hts (.fieldLink RX1 55 "ArcCache" "targetCount" "I") (by decide +kernel)) (fun _ h9 => h9) rfl dX1_moveTarget_29 ?_
    refine lv_iload_n hx hb dX1_moveTarget_32 rfl (lv_at hl 0 rfl) ?_
    refine lv_iadd hx hb dX1_moveTarget_33 ?_
    refine lv_topi (fun x_1 e_x_1 => ?_)
    have e_x_1 : x_1 = nI (tg + (max 1 ((L 4).length / (L 3).length))) := by rw [e_x_1]; exact nI_add _ _
    subst e_x_1
    refine va_mmin hx hb (hml.trans hl.1.symm) hown (hts (.methodLink RX1 124 Lib.Math.min.name) (by decide +kernel)) (hts (.static Lib.Math.min.name) (by decide +kernel)) (hts (.initialized "java/lang/Math") (by decide +kernel)) (hts (.code Lib.Math.min.name Lib.Math.min.code 2 (some .int)) (by decide +kernel)) (Nat.le_of_ble_eq_true rfl) (Nat.le_of_ble_eq_true rfl) (Nat.zero_le _) (Nat.zero_le _) dX1_moveTarget_34 ?_
    refine lv_topi (fun x_2 e_x_2 => ?_)
    have e_x_2 : x_2 = nI (ap_tg L C tg 3) := by rw [e_x_2]; exact ap_minN (by omega) (by omega)
    subst e_x_2
    refine va_put (D := (dC, dI)) (ci := 1) (v := .int (nI (ap_tg L C tg 3))) (ty := .int) (C := RX1) (T := TX1) (N := 12) hx hb hts hwX1 tyX1 tyX1_ok nmX1 hown hK hP hD hS 0 rfl rfl 8 (by decide) (hts (.fieldLink RX1 55 "ArcCache" "targetCount" "I") (by decide +kernel)) (fun _ h9 => h9) rfl (by decide +kernel) rfl rfl (Nat.le_of_ble_eq_true rfl) dX1_moveTarget_37 (fun H locs hP hD hS => ?_)
    replace hP : va_P (dC, dI) vwCl (cx q ca C L f w d st (ap_tg L C tg 3) hi mi go) H := hP
    replace hD : va_D A (cx q ca C L f w d st (ap_tg L C tg 3) hi mi go) := hD
    refine lv_goto (tgt := 75) hx hb dX1_moveTarget_40 (by decide) ?_
    exact W.vret hx hb hr (fun t ht hW => ⟨⟨(L, w, d, st, ap_tg L C tg 3, hi, mi, go), rfl, rfl, f, hf, by rw [ht]; exact hP, va_K.moved hW.alike hK, hD⟩, hS.F ht⟩) hS.2.2 dX1_moveTarget_75
set_option maxHeartbeats 4000000 in
set_option maxRecDepth 100000 in
theorem c_X_tgt4 (l : Launch) (dC : Nat → ClassId) (dI : Nat → Nat → Nat) (q : Nat → Nat) (ca : Nat → ClassId) (C : Nat) (L : Nat → List Int32) (f : Nat → Nat → Int32) (w d st : Nat → Int32) (tg : Nat) (hi mi go : Int32)  (sz : Nat) (hf : fx_ok f L) (hI : ap_inv L) (hz : ap_tot L ≤ 48) (htg : tg ≤ C) (hC : C ≤ 24) : Met l yX1_moveTarget wsX1_moveTarget ({ frames := 2, cells := 0, slots := 0, locals := 61 }) (va_Pc [.ref (q 0), .int (nI 4)] (fun U => U.heap.size = sz ∧ va_P (dC, dI) vwCl (cx q ca C L f w d st tg hi mi go) U.heap ∧ va_K (dC, dI) vwCl (kx ca) U ∧ va_D (fun _ => True) (cx q ca C L f w d st tg hi mi go))) (va_Qv (fun (u : ap_U) => u = (L, w, d, st, ap_tg L C tg 4, hi, mi, go)) (at_X dC dI (va_A (cx q ca C L f w d st tg hi mi go) sz) q ca C) (va_A (cx q ca C L f w d st tg hi mi go) sz)) 0 0 (va_A (cx q ca C L f w d st tg hi mi go) sz) := by
  refine Met.ofW (cc := cX1_moveTarget) (maxL := 3) (ret := none) (by decide) rfl ?_
  intro p e s m args below meth c s₁ B hml hv
  obtain ⟨rfl, hsz, hP, hK, hD0⟩ := hv
  have hx := B.exec
  have hb := B.bytes
  have hr := B.returns
  have hts := atoms_spec (ws := wsX1_moveTarget) B.pre
  have hown : s.vm.findClass RX1 = some m.cls := findClass_of_methodNamed B.named
  have hlocks := B.notSynchronized
  have hwX1 : ∀ w ∈ u_ws RX1 TX1 12, w ∈ wsX1_moveTarget := by decide +kernel
  subst hsz
  have hD := hD0.self (sz := s.heap.size)
  generalize hAe : va_A (cx q ca C L f w d st tg hi mi go) s.heap.size = A at hD ⊢
  have hA : ∀ q : Nat, s.heap.size ≤ q → A q := fun q h => by rw [← hAe]; exact Or.inr h
  have hS0 : ∀ H, s.heap = H → va_S A s.heap H [] := fun H h => by subst h; exact va_S.rf
  have hl := lv_entry ([.ref (q 0), .int (nI 4)]) (n := 3) (Nat.le_of_ble_eq_true rfl)
  rw [lg_entry_eq]
  generalize (lg_sl ([.ref (q 0), .int (nI 4)]) ++ List.replicate (3 - (lg_sl ([.ref (q 0), .int (nI 4)])).length) Slot.unset).toArray = ls at hl ⊢
  have hl : lv_has ls 3 [(0, .ref (q 0)), (1, .int (nI 4))] := hl
  generalize hHe : s.heap = H at hP ⊢
  have hS := hS0 H hHe
  have z1 : (L 1).length ≤ 48 := by unfold ap_tot at hz; omega
  have z2 : (L 2).length ≤ 48 := by unfold ap_tot at hz; omega
  have z3 : (L 3).length ≤ 48 := by unfold ap_tot at hz; omega
  have z4 : (L 4).length ≤ 48 := by unfold ap_tot at hz; omega
  have hdv9 := @ap_divle (L 3).length (L 4).length
  refine lv_iload_n hx hb dX1_moveTarget_0 rfl (lv_at hl 1 rfl) ?_
  refine lv_iconst (v := nI 3) hx hb dX1_moveTarget_1 (by decide) ?_
  refine lv_icmp_ne (tgt := 43) hx hb dX1_moveTarget_2 (by decide) (fun c_2 => ?_) (fun c_2 => ?_)
  · skip
    replace c_2 : ¬ (4 = 3) := fun h9 => c_2 ((nI_eq (a := 4) (b := 3) (by omega) (by omega)).mpr h9)
    refine lv_aload_n hx hb dX1_moveTarget_43 rfl (lv_at hl 0 rfl) ?_
    refine va_get (D := (dC, dI)) (ci := 1) (v := .ref (q 3)) (C := RX1) (T := TX1) (N := 12) hx hb hts hwX1 hown hK hP 0 rfl rfl 3 (by decide) (hts (.fieldLink RX1 19 "ArcCache" "wentOnce" "LArcCache$AddressList;") (by decide +kernel)) (fun _ h9 => h9) rfl dX1_moveTarget_44 ?_
    have hPc := hP.sub (ws' := (cal (q 3) (q 7) (ca 3) ((L 3).length) (f 3))) [5, 6] rfl
    have hDc := hD.sub (ws' := (cal (q 3) (q 7) (ca 3) ((L 3).length) (f 3))) [5, 6] (by decide) rfl
    have hKc := hK.sub (tys' := (kal (ca 3))) [2] rfl
    have hFc := va_free (wc := (cal (q 3) (q 7) (ca 3) ((L 3).length) (f 3))) hD hS hA [5, 6] rfl
    refine va_calli (va_runV (As := []) (rest := []) ⟨hx, hb, hml, hown, hts⟩ (c_A_size l dC dI (q 3) (q 7) (ca 3) (L 3).length (f 3) H.size) (cwV 0 hts gX1_moveTarget_X0_size rfl rfl rfl (by decide +kernel) ⟨Nat.le_of_ble_eq_true rfl, Nat.le_of_ble_eq_true rfl⟩) ⟨fun a U g mk q => by obtain ⟨q0, q1, qP, qK, qD⟩ := q; exact ⟨q0, q1, qP, va_K.moved (u := U) (U := U.calling g mk a) (Vm.Alike.refl U.vm) qK, qD⟩, va_recv hKc hPc (ci := 0) (q0 := 0) rfl rfl, fun U hU hW => ⟨rfl, by rw [hU], by rw [hU]; exact hPc, va_K.moved hW.alike hKc, hDc.weaken (fun _ _ _ _ => trivial)⟩⟩ rfl rfl hl.1 rfl (lv_room (Nat.le_of_ble_eq_true rfl)) dX1_moveTarget_47 ⟨Nat.le_of_ble_eq_true rfl, Nat.le_of_ble_eq_true rfl⟩) hS (fun q _ h => hFc q h) hFc (fun r u t H1 locs ht hvm hw hB hz1 hk1 hS => ?_)
    obtain ⟨n1, f1⟩ := u
    obtain ⟨hP1, hK1, hD1⟩ := hB
    rw [ht] at hP1
    try dsimp only at hw hP1 hD1
    obtain ⟨hr9, hu⟩ := hw
    cases hu
    obtain ⟨hP, hD⟩ := va_join (wr := [(q 0, .inr (1, [.int (nI C), .ref (q 1), .ref (q 2), .ref (q 3), .ref (q 4), .ref (q 9), .ref (q 10), .ref (q 11), .int (nI tg), .int hi, .int mi, .int go])), (q 1, .inr (0, [.ref (q 5), .int (nI ((L 1).length))])), (q 5, .inl (ca 1, 64, .inl (f 1))), (q 2, .inr (0, [.ref (q 6), .int (nI ((L 2).length))])), (q 6, .inl (ca 2, 64, .inl (f 2))), (q 4, .inr (0, [.ref (q 8), .int (nI ((L 4).length))])), (q 8, .inl (ca 4, 64, .inl (f 4))), (q 9, .inl (ca 5, 64, .inl w)), (q 10, .inl (ca 6, 64, .inl d)), (q 11, .inl (ca 7, 64, .inl st))]) (w1 := (cal (q 3) (q 7) (ca 3) ((L 3).length) (f 3))) hP hD [5, 6] [0, 1, 2, 3, 4, 7, 8, 9, 10, 11] rfl rfl (by decide) (by decide) hk1 hFc hP1 hD1
    generalize H1 = H at hP hS ⊢
    replace hP := hP.sub (ws' := (cx q ca C L f w d st tg hi mi go)) [0, 1, 2, 3, 4, 10, 11, 5, 6, 7, 8, 9] rfl
    replace hD := hD.sub (ws' := (cx q ca C L f w d st tg hi mi go)) [0, 1, 2, 3, 4, 10, 11, 5, 6, 7, 8, 9] (by decide) rfl
    subst hr9
    refine lv_aload_n hx hb dX1_moveTarget_50 rfl (lv_at hl 0 rfl) ?_
    refine va_get (D := (dC, dI)) (ci := 1) (v := .ref (q 4)) (C := RX1) (T := TX1) (N := 12) hx hb hts hwX1 hown hK hP 0 rfl rfl 4 (by decide) (hts (.fieldLink RX1 22 "ArcCache" "wentAgain" "LArcCache$AddressList;") (by decide +kernel)) (fun _ h9 => h9) rfl dX1_moveTarget_51 ?_
    have hPc := hP.sub (ws' := (cal (q 4) (q 8) (ca 4) ((L 4).length) (f 4))) [7, 8] rfl
    have hDc := hD.sub (ws' := (cal (q 4) (q 8) (ca 4) ((L 4).length) (f 4))) [7, 8] (by decide) rfl
    have hKc := hK.sub (tys' := (kal (ca 4))) [3] rfl
    have hFc := va_free (wc := (cal (q 4) (q 8) (ca 4) ((L 4).length) (f 4))) hD hS hA [7, 8] rfl
    refine va_calli (va_runV (As := []) (rest := [.int (nI ((L 3).length))]) ⟨hx, hb, hml, hown, hts⟩ (c_A_size l dC dI (q 4) (q 8) (ca 4) (L 4).length (f 4) H.size) (cwV 0 hts gX1_moveTarget_X0_size rfl rfl rfl (by decide +kernel) ⟨Nat.le_of_ble_eq_true rfl, Nat.le_of_ble_eq_true rfl⟩) ⟨fun a U g mk q => by obtain ⟨q0, q1, qP, qK, qD⟩ := q; exact ⟨q0, q1, qP, va_K.moved (u := U) (U := U.calling g mk a) (Vm.Alike.refl U.vm) qK, qD⟩, va_recv hKc hPc (ci := 0) (q0 := 0) rfl rfl, fun U hU hW => ⟨rfl, by rw [hU], by rw [hU]; exact hPc, va_K.moved hW.alike hKc, hDc.weaken (fun _ _ _ _ => trivial)⟩⟩ rfl rfl hl.1 rfl (lv_room (Nat.le_of_ble_eq_true rfl)) dX1_moveTarget_54 ⟨Nat.le_of_ble_eq_true rfl, Nat.le_of_ble_eq_true rfl⟩) hS (fun q _ h => hFc q h) hFc (fun r u t H1 locs ht hvm hw hB hz1 hk1 hS => ?_)
    obtain ⟨n1, f1⟩ := u
    obtain ⟨hP1, hK1, hD1⟩ := hB
    rw [ht] at hP1
    try dsimp only at hw hP1 hD1
    obtain ⟨hr9, hu⟩ := hw
    cases hu
    obtain ⟨hP, hD⟩ := va_join (wr := [(q 0, .inr (1, [.int (nI C), .ref (q 1), .ref (q 2), .ref (q 3), .ref (q 4), .ref (q 9), .ref (q 10), .ref (q 11), .int (nI tg), .int hi, .int mi, .int go])), (q 1, .inr (0, [.ref (q 5), .int (nI ((L 1).length))])), (q 5, .inl (ca 1, 64, .inl (f 1))), (q 2, .inr (0, [.ref (q 6), .int (nI ((L 2).length))])), (q 6, .inl (ca 2, 64, .inl (f 2))), (q 3, .inr (0, [.ref (q 7), .int (nI ((L 3).length))])), (q 7, .inl (ca 3, 64, .inl (f 3))), (q 9, .inl (ca 5, 64, .inl w)), (q 10, .inl (ca 6, 64, .inl d)), (q 11, .inl (ca 7, 64, .inl st))]) (w1 := (cal (q 4) (q 8) (ca 4) ((L 4).length) (f 4))) hP hD [7, 8] [0, 1, 2, 3, 4, 5, 6, 9, 10, 11] rfl rfl (by decide) (by decide) hk1 hFc hP1 hD1
    generalize H1 = H at hP hS ⊢
    replace hP := hP.sub (ws' := (cx q ca C L f w d st tg hi mi go)) [0, 1, 2, 3, 4, 5, 6, 10, 11, 7, 8, 9] rfl
    replace hD := hD.sub (ws' := (cx q ca C L f w d st tg hi mi go)) [0, 1, 2, 3, 4, 5, 6, 10, 11, 7, 8, 9] (by decide) rfl
    subst hr9
    have hPc := hP.sub (ws' := []) [] rfl
    have hDc := hD.sub (ws' := []) [] (by decide) rfl
    have hFc := va_free (wc := []) hD hS hA [] rfl
    refine va_calli (va_runS (As := [.int (nI ((L 3).length)), .int (nI ((L 4).length))]) (rest := []) ⟨hx, hb, hml, hown, hts⟩ (c_X_stepOf l dC dI (L 3).length (L 4).length H.size (by omega) (by omega)) (va_cwS 2 hts gX1_moveTarget_X1_stepOf rfl rfl rfl (by decide +kernel) ⟨Nat.le_of_ble_eq_true rfl, Nat.le_of_ble_eq_true rfl⟩) ⟨fun a U g mk q => by obtain ⟨q0, q1⟩ := q; exact ⟨q0, q1⟩, fun U hU hW => ⟨rfl, by show U.heap.size = _; rw [hU]⟩⟩ rfl rfl hl.1 rfl (lv_room (Nat.le_of_ble_eq_true rfl)) dX1_moveTarget_57 ⟨Nat.le_of_ble_eq_true rfl, Nat.le_of_ble_eq_true rfl⟩) hS (fun q _ h => hFc q h) hFc (fun r u t H1 locs ht hvm hw hB hz1 hk1 hS => ?_)
    obtain ⟨hP, hD⟩ := va_join (wr := (cx q ca C L f w d st tg hi mi go)) (w1 := []) hP hD [] [0, 1, 2, 3, 4, 5, 6, 7, 8, 9, 10, 11] rfl rfl (by decide) (by decide) hk1 hFc (fun k q h => by simp at h) ⟨fun i j p q h => by simp at h, fun k q h => by simp at h⟩
    generalize H1 = H at hP hS ⊢
    replace hP : va_P (dC, dI) vwCl (cx q ca C L f w d st tg hi mi go) H := hP
    replace hD : va_D A (cx q ca C L f w d st tg hi mi go) := hD
    subst hw
    refine lv_istore_n (lv' := [(2, .int (nI (max 1 ((L 3).length / (L 4).length)))), (0, .ref (q 0)), (1, .int (nI 4))]) hx hb dX1_moveTarget_60 rfl hl (by decide) rfl (fun ls hl => ?_)
    refine lv_aload_n hx hb dX1_moveTarget_61 rfl (lv_at hl 1 rfl) ?_
    refine lv_iconst (v := nI 0) hx hb dX1_moveTarget_62 (by decide) ?_
    refine lv_aload_n hx hb dX1_moveTarget_63 rfl (lv_at hl 1 rfl) ?_
    refine va_get (D := (dC, dI)) (ci := 1) (v := .int (nI tg)) (C := RX1) (T := TX1) (N := 12) hx hb hts hwX1 hown hK hP 0 rfl rfl 8 (by decide) (hts (.fieldLink RX1 55 "ArcCache" "targetCount" "I") (by decide +kernel)) (fun _ h9 => h9) rfl dX1_moveTarget_64 ?_
    refine lv_iload_n hx hb dX1_moveTarget_67 rfl (lv_at hl 0 rfl) ?_
    refine lv_isub hx hb dX1_moveTarget_68 ?_
    refine va_mmax hx hb (hml.trans hl.1.symm) hown (hts (.methodLink RX1 127 Lib.Math.max.name) (by decide +kernel)) (hts (.static Lib.Math.max.name) (by decide +kernel)) (hts (.initialized "java/lang/Math") (by decide +kernel)) (hts (.code Lib.Math.max.name Lib.Math.max.code 2 (some .int)) (by decide +kernel)) (Nat.le_of_ble_eq_true rfl) (Nat.le_of_ble_eq_true rfl) (Nat.zero_le _) (Nat.zero_le _) dX1_moveTarget_69 ?_
    refine lv_topi (fun x_1 e_x_1 => ?_)
    have e_x_1 : x_1 = nI (ap_tg L C tg 4) := by rw [e_x_1]; exact ap_max0 (by omega) (by omega)
    subst e_x_1
    refine va_put (D := (dC, dI)) (ci := 1) (v := .int (nI (ap_tg L C tg 4))) (ty := .int) (C := RX1) (T := TX1) (N := 12) hx hb hts hwX1 tyX1 tyX1_ok nmX1 hown hK hP hD hS 0 rfl rfl 8 (by decide) (hts (.fieldLink RX1 55 "ArcCache" "targetCount" "I") (by decide +kernel)) (fun _ h9 => h9) rfl (by decide +kernel) rfl rfl (Nat.le_of_ble_eq_true rfl) dX1_moveTarget_72 (fun H locs hP hD hS => ?_)
    replace hP : va_P (dC, dI) vwCl (cx q ca C L f w d st (ap_tg L C tg 4) hi mi go) H := hP
    replace hD : va_D A (cx q ca C L f w d st (ap_tg L C tg 4) hi mi go) := hD
    exact W.vret hx hb hr (fun t ht hW => ⟨⟨(L, w, d, st, ap_tg L C tg 4, hi, mi, go), rfl, rfl, f, hf, by rw [ht]; exact hP, va_K.moved hW.alike hK, hD⟩, hS.F ht⟩) hS.2.2 dX1_moveTarget_75
  · skip
    replace c_2 : 4 = 3 := (nI_eq (a := 4) (b := 3) (by omega) (by omega)).mp c_2
    exact absurd c_2 (by omega)
set_option maxHeartbeats 4000000 in
set_option maxRecDepth 100000 in
theorem c_X_unknown (l : Launch) (dC : Nat → ClassId) (dI : Nat → Nat → Nat) (q : Nat → Nat) (ca : Nat → ClassId) (C : Nat) (L : Nat → List Int32) (f : Nat → Nat → Int32) (w d st : Nat → Int32) (tg : Nat) (hi mi go : Int32) (x : Int32) (sz : Nat) (hf : fx_ok f L) (hok : ap_ok C tg L) : Met l yX1_makeRoomForUnknown wsX1_makeRoomForUnknown ({ frames := 4, cells := 0, slots := 0, locals := 128 }) (va_Pc [.ref (q 0), .int x] (fun U => U.heap.size = sz ∧ va_P (dC, dI) vwCl (cx q ca C L f w d st tg hi mi go) U.heap ∧ va_K (dC, dI) vwCl (kx ca) U ∧ va_D (fun _ => True) (cx q ca C L f w d st tg hi mi go) ∧ va_Nw (.methodLinkNest RX0 23 yX1_isAddress "ArcCache") U)) (va_Qv (fun (u : ap_U) => u = ap_tu w tg hi mi (ap_un w C tg x (L, d, st, go))) (at_X dC dI (va_A (cx q ca C L f w d st tg hi mi go) sz) q ca C) (va_A (cx q ca C L f w d st tg hi mi go) sz)) 0 0 (va_A (cx q ca C L f w d st tg hi mi go) sz) := by
  refine Met.ofW (cc := cX1_makeRoomForUnknown) (maxL := 4) (ret := none) (by decide) rfl ?_
  intro p e s m args below meth c s₁ B hml hv
  obtain ⟨rfl, hsz, hP, hK, hD0, hN⟩ := hv
  have hx := B.exec
  have hb := B.bytes
  have hr := B.returns
  have hts := atoms_spec (ws := wsX1_makeRoomForUnknown) B.pre
  have hown : s.vm.findClass RX1 = some m.cls := findClass_of_methodNamed B.named
  have hlocks := B.notSynchronized
  have hwX1 : ∀ w ∈ u_ws RX1 TX1 12, w ∈ wsX1_makeRoomForUnknown := by decide +kernel
  subst hsz
  have hD := hD0.self (sz := s.heap.size)
  generalize hAe : va_A (cx q ca C L f w d st tg hi mi go) s.heap.size = A at hD ⊢
  have hA : ∀ q : Nat, s.heap.size ≤ q → A q := fun q h => by rw [← hAe]; exact Or.inr h
  have hS0 : ∀ H, s.heap = H → va_S A s.heap H [] := fun H h => by subst h; exact va_S.rf
  have hl := lv_entry ([.ref (q 0), .int x]) (n := 4) (Nat.le_of_ble_eq_true rfl)
  rw [lg_entry_eq]
  generalize (lg_sl ([.ref (q 0), .int x]) ++ List.replicate (4 - (lg_sl ([.ref (q 0), .int x])).length) Slot.unset).toArray = ls at hl ⊢
  have hl : lv_has ls 4 [(0, .ref (q 0)), (1, .int x)] := hl
  generalize hHe : s.heap = H at hP ⊢
  have hS := hS0 H hHe
  obtain ⟨hI, hC1, hC, htg, hs1, hs2, hs3⟩ := id hok
  have hz : ap_tot L ≤ 48 := by omega
  have z1 : (L 1).length ≤ 48 := by unfold ap_tot at hz; omega
  have z2 : (L 2).length ≤ 48 := by unfold ap_tot at hz; omega
  have z3 : (L 3).length ≤ 48 := by unfold ap_tot at hz; omega
  have z4 : (L 4).length ≤ 48 := by unfold ap_tot at hz; omega
  have htot9 : ap_tot L = (L 1).length + (L 2).length + (L 3).length + (L 4).length := rfl
  refine lv_aload_n hx hb dX1_makeRoomForUnknown_0 rfl (lv_at hl 0 rfl) ?_
  refine va_get (D := (dC, dI)) (ci := 1) (v := .ref (q 1)) (C := RX1) (T := TX1) (N := 12) hx hb hts hwX1 hown hK hP 0 rfl rfl 1 (by decide) (hts (.fieldLink RX1 10 "ArcCache" "cameOnce" "LArcCache$AddressList;") (by decide +kernel)) (fun _ h9 => h9) rfl dX1_makeRoomForUnknown_1 ?_
  have hPc := hP.sub (ws' := (cal (q 1) (q 5) (ca 1) ((L 1).length) (f 1))) [1, 2] rfl
  have hDc := hD.sub (ws' := (cal (q 1) (q 5) (ca 1) ((L 1).length) (f 1))) [1, 2] (by decide) rfl
  have hKc := hK.sub (tys' := (kal (ca 1))) [0] rfl
  have hFc := va_free (wc := (cal (q 1) (q 5) (ca 1) ((L 1).length) (f 1))) hD hS hA [1, 2] rfl
  refine va_calli (va_runV (As := []) (rest := []) ⟨hx, hb, hml, hown, hts⟩ (c_A_size l dC dI (q 1) (q 5) (ca 1) (L 1).length (f 1) H.size) (cwV 0 hts gX1_makeRoomForUnknown_X0_size rfl rfl rfl (by decide +kernel) ⟨Nat.le_of_ble_eq_true rfl, Nat.le_of_ble_eq_true rfl⟩) ⟨fun a U g mk q => by obtain ⟨q0, q1, qP, qK, qD⟩ := q; exact ⟨q0, q1, qP, va_K.moved (u := U) (U := U.calling g mk a) (Vm.Alike.refl U.vm) qK, qD⟩, va_recv hKc hPc (ci := 0) (q0 := 0) rfl rfl, fun U hU hW => ⟨rfl, by rw [hU], by rw [hU]; exact hPc, va_K.moved hW.alike hKc, hDc.weaken (fun _ _ _ _ => trivial)⟩⟩ rfl rfl hl.1 rfl (lv_room (Nat.le_of_ble_eq_true rfl)) dX1_makeRoomForUnknown_4 ⟨Nat.le_of_ble_eq_true rfl, Nat.le_of_ble_eq_true rfl⟩) hS (fun q _ h => hFc q h) hFc (fun r u t H1 locs ht hvm hw hB hz1 hk1 hS => ?_)
  obtain ⟨n1, f1⟩ := u
  obtain ⟨hP1, hK1, hD1⟩ := hB
  rw [ht] at hP1
  try dsimp only at hw hP1 hD1
  obtain ⟨hr9, hu⟩ := hw
  cases hu
  obtain ⟨hP, hD⟩ := va_join (wr := [(q 0, .inr (1, [.int (nI C), .ref (q 1), .ref (q 2), .ref (q 3), .ref (q 4), .ref (q 9), .ref (q 10), .ref (q 11), .int (nI tg), .int hi, .int mi, .int go])), (q 2, .inr (0, [.ref (q 6), .int (nI ((L 2).length))])), (q 6, .inl (ca 2, 64, .inl (f 2))), (q 3, .inr (0, [.ref (q 7), .int (nI ((L 3).length))])), (q 7, .inl (ca 3, 64, .inl (f 3))), (q 4, .inr (0, [.ref (q 8), .int (nI ((L 4).length))])), (q 8, .inl (ca 4, 64, .inl (f 4))), (q 9, .inl (ca 5, 64, .inl w)), (q 10, .inl (ca 6, 64, .inl d)), (q 11, .inl (ca 7, 64, .inl st))]) (w1 := (cal (q 1) (q 5) (ca 1) ((L 1).length) (f 1))) hP hD [1, 2] [0, 3, 4, 5, 6, 7, 8, 9, 10, 11] rfl rfl (by decide) (by decide) hk1 hFc hP1 hD1
  generalize H1 = H at hP hS ⊢
  replace hP := hP.sub (ws' := (cx q ca C L f w d st tg hi mi go)) [0, 10, 11, 1, 2, 3, 4, 5, 6, 7, 8, 9] rfl
  replace hD := hD.sub (ws' := (cx q ca C L f w d st tg hi mi go)) [0, 10, 11, 1, 2, 3, 4, 5, 6, 7, 8, 9] (by decide) rfl
  subst hr9
  refine lv_aload_n hx hb dX1_makeRoomForUnknown_7 rfl (lv_at hl 0 rfl) ?_
  refine va_get (D := (dC, dI)) (ci := 1) (v := .ref (q 3)) (C := RX1) (T := TX1) (N := 12) hx hb hts hwX1 hown hK hP 0 rfl rfl 3 (by decide) (hts (.fieldLink RX1 19 "ArcCache" "wentOnce" "LArcCache$AddressList;") (by decide +kernel)) (fun _ h9 => h9) rfl dX1_makeRoomForUnknown_8 ?_
  have hPc := hP.sub (ws' := (cal (q 3) (q 7) (ca 3) ((L 3).length) (f 3))) [5, 6] rfl
  have hDc := hD.sub (ws' := (cal (q 3) (q 7) (ca 3) ((L 3).length) (f 3))) [5, 6] (by decide) rfl
  have hKc := hK.sub (tys' := (kal (ca 3))) [2] rfl
  have hFc := va_free (wc := (cal (q 3) (q 7) (ca 3) ((L 3).length) (f 3))) hD hS hA [5, 6] rfl
  refine va_calli (va_runV (As := []) (rest := [.int (nI ((L 1).length))]) ⟨hx, hb, hml, hown, hts⟩ (c_A_size l dC dI (q 3) (q 7) (ca 3) (L 3).length (f 3) H.size) (cwV 0 hts gX1_makeRoomForUnknown_X0_size rfl rfl rfl (by decide +kernel) ⟨Nat.le_of_ble_eq_true rfl, Nat.le_of_ble_eq_true rfl⟩) ⟨fun a U g mk q => by obtain ⟨q0, q1, qP, qK, qD⟩ := q; exact ⟨q0, q1, qP, va_K.moved (u := U) (U := U.calling g mk a) (Vm.Alike.refl U.vm) qK, qD⟩, va_recv hKc hPc (ci := 0) (q0 := 0) rfl rfl, fun U hU hW => ⟨rfl, by rw [hU], by rw [hU]; exact hPc, va_K.moved hW.alike hKc, hDc.weaken (fun _ _ _ _ => trivial)⟩⟩ rfl rfl hl.1 rfl (lv_room (Nat.le_of_ble_eq_true rfl)) dX1_makeRoomForUnknown_11 ⟨Nat.le_of_ble_eq_true rfl, Nat.le_of_ble_eq_true rfl⟩) hS (fun q _ h => hFc q h) hFc (fun r u t H1 locs ht hvm hw hB hz1 hk1 hS => ?_)
  obtain ⟨n1, f1⟩ := u
  obtain ⟨hP1, hK1, hD1⟩ := hB
  rw [ht] at hP1
  try dsimp only at hw hP1 hD1
  obtain ⟨hr9, hu⟩ := hw
  cases hu
  obtain ⟨hP, hD⟩ := va_join (wr := [(q 0, .inr (1, [.int (nI C), .ref (q 1), .ref (q 2), .ref (q 3), .ref (q 4), .ref (q 9), .ref (q 10), .ref (q 11), .int (nI tg), .int hi, .int mi, .int go])), (q 1, .inr (0, [.ref (q 5), .int (nI ((L 1).length))])), (q 5, .inl (ca 1, 64, .inl (f 1))), (q 2, .inr (0, [.ref (q 6), .int (nI ((L 2).length))])), (q 6, .inl (ca 2, 64, .inl (f 2))), (q 4, .inr (0, [.ref (q 8), .int (nI ((L 4).length))])), (q 8, .inl (ca 4, 64, .inl (f 4))), (q 9, .inl (ca 5, 64, .inl w)), (q 10, .inl (ca 6, 64, .inl d)), (q 11, .inl (ca 7, 64, .inl st))]) (w1 := (cal (q 3) (q 7) (ca 3) ((L 3).length) (f 3))) hP hD [5, 6] [0, 1, 2, 3, 4, 7, 8, 9, 10, 11] rfl rfl (by decide) (by decide) hk1 hFc hP1 hD1
  generalize H1 = H at hP hS ⊢
  replace hP := hP.sub (ws' := (cx q ca C L f w d st tg hi mi go)) [0, 1, 2, 3, 4, 10, 11, 5, 6, 7, 8, 9] rfl
  replace hD := hD.sub (ws' := (cx q ca C L f w d st tg hi mi go)) [0, 1, 2, 3, 4, 10, 11, 5, 6, 7, 8, 9] (by decide) rfl
  subst hr9
  refine lv_iadd hx hb dX1_makeRoomForUnknown_14 ?_
  refine lv_topi (fun x_1 e_x_1 => ?_)
  have e_x_1 : x_1 = nI (((L 1).length) + ((L 3).length)) := by rw [e_x_1]; exact nI_add _ _
  subst e_x_1
  refine lv_istore_n (lv' := [(2, .int (nI (((L 1).length) + ((L 3).length)))), (0, .ref (q 0)), (1, .int x)]) hx hb dX1_makeRoomForUnknown_15 rfl hl (by decide) rfl (fun ls hl => ?_)
  refine lv_iload_n hx hb dX1_makeRoomForUnknown_16 rfl (lv_at hl 0 rfl) ?_
  refine lv_aload_n hx hb dX1_makeRoomForUnknown_17 rfl (lv_at hl 1 rfl) ?_
  refine va_get (D := (dC, dI)) (ci := 1) (v := .ref (q 2)) (C := RX1) (T := TX1) (N := 12) hx hb hts hwX1 hown hK hP 0 rfl rfl 2 (by decide) (hts (.fieldLink RX1 16 "ArcCache" "cameAgain" "LArcCache$AddressList;") (by decide +kernel)) (fun _ h9 => h9) rfl dX1_makeRoomForUnknown_18 ?_
  have hPc := hP.sub (ws' := (cal (q 2) (q 6) (ca 2) ((L 2).length) (f 2))) [3, 4] rfl
  have hDc := hD.sub (ws' := (cal (q 2) (q 6) (ca 2) ((L 2).length) (f 2))) [3, 4] (by decide) rfl
  have hKc := hK.sub (tys' := (kal (ca 2))) [1] rfl
  have hFc := va_free (wc := (cal (q 2) (q 6) (ca 2) ((L 2).length) (f 2))) hD hS hA [3, 4] rfl
  refine va_calli (va_runV (As := []) (rest := [.int (nI (((L 1).length) + ((L 3).length)))]) ⟨hx, hb, hml, hown, hts⟩ (c_A_size l dC dI (q 2) (q 6) (ca 2) (L 2).length (f 2) H.size) (cwV 0 hts gX1_makeRoomForUnknown_X0_size rfl rfl rfl (by decide +kernel) ⟨Nat.le_of_ble_eq_true rfl, Nat.le_of_ble_eq_true rfl⟩) ⟨fun a U g mk q => by obtain ⟨q0, q1, qP, qK, qD⟩ := q; exact ⟨q0, q1, qP, va_K.moved (u := U) (U := U.calling g mk a) (Vm.Alike.refl U.vm) qK, qD⟩, va_recv hKc hPc (ci := 0) (q0 := 0) rfl rfl, fun U hU hW => ⟨rfl, by rw [hU], by rw [hU]; exact hPc, va_K.moved hW.alike hKc, hDc.weaken (fun _ _ _ _ => trivial)⟩⟩ rfl rfl hl.1 rfl (lv_room (Nat.le_of_ble_eq_true rfl)) dX1_makeRoomForUnknown_21 ⟨Nat.le_of_ble_eq_true rfl, Nat.le_of_ble_eq_true rfl⟩) hS (fun q _ h => hFc q h) hFc (fun r u t H1 locs ht hvm hw hB hz1 hk1 hS => ?_)
  obtain ⟨n1, f1⟩ := u
  obtain ⟨hP1, hK1, hD1⟩ := hB
  rw [ht] at hP1
  try dsimp only at hw hP1 hD1
  obtain ⟨hr9, hu⟩ := hw
  cases hu
  obtain ⟨hP, hD⟩ := va_join (wr := [(q 0, .inr (1, [.int (nI C), .ref (q 1), .ref (q 2), .ref (q 3), .ref (q 4), .ref (q 9), .ref (q 10), .ref (q 11), .int (nI tg), .int hi, .int mi, .int go])), (q 1, .inr (0, [.ref (q 5), .int (nI ((L 1).length))])), (q 5, .inl (ca 1, 64, .inl (f 1))), (q 3, .inr (0, [.ref (q 7), .int (nI ((L 3).length))])), (q 7, .inl (ca 3, 64, .inl (f 3))), (q 4, .inr (0, [.ref (q 8), .int (nI ((L 4).length))])), (q 8, .inl (ca 4, 64, .inl (f 4))), (q 9, .inl (ca 5, 64, .inl w)), (q 10, .inl (ca 6, 64, .inl d)), (q 11, .inl (ca 7, 64, .inl st))]) (w1 := (cal (q 2) (q 6) (ca 2) ((L 2).length) (f 2))) hP hD [3, 4] [0, 1, 2, 5, 6, 7, 8, 9, 10, 11] rfl rfl (by decide) (by decide) hk1 hFc hP1 hD1
  generalize H1 = H at hP hS ⊢
  replace hP := hP.sub (ws' := (cx q ca C L f w d st tg hi mi go)) [0, 1, 2, 10, 11, 3, 4, 5, 6, 7, 8, 9] rfl
  replace hD := hD.sub (ws' := (cx q ca C L f w d st tg hi mi go)) [0, 1, 2, 10, 11, 3, 4, 5, 6, 7, 8, 9] (by decide) rfl
  subst hr9
  refine lv_iadd hx hb dX1_makeRoomForUnknown_24 ?_
  refine lv_topi (fun x_2 e_x_2 => ?_)
  have e_x_2 : x_2 = nI ((((L 1).length) + ((L 3).length)) + ((L 2).length)) := by rw [e_x_2]; exact nI_add _ _
  subst e_x_2
  refine lv_aload_n hx hb dX1_makeRoomForUnknown_25 rfl (lv_at hl 1 rfl) ?_
  refine va_get (D := (dC, dI)) (ci := 1) (v := .ref (q 4)) (C := RX1) (T := TX1) (N := 12) hx hb hts hwX1 hown hK hP 0 rfl rfl 4 (by decide) (hts (.fieldLink RX1 22 "ArcCache" "wentAgain" "LArcCache$AddressList;") (by decide +kernel)) (fun _ h9 => h9) rfl dX1_makeRoomForUnknown_26 ?_
  have hPc := hP.sub (ws' := (cal (q 4) (q 8) (ca 4) ((L 4).length) (f 4))) [7, 8] rfl
  have hDc := hD.sub (ws' := (cal (q 4) (q 8) (ca 4) ((L 4).length) (f 4))) [7, 8] (by decide) rfl
  have hKc := hK.sub (tys' := (kal (ca 4))) [3] rfl
  have hFc := va_free (wc := (cal (q 4) (q 8) (ca 4) ((L 4).length) (f 4))) hD hS hA [7, 8] rfl
  refine va_calli (va_runV (As := []) (rest := [.int (nI ((((L 1).length) + ((L 3).length)) + ((L 2).length)))]) ⟨hx, hb, hml, hown, hts⟩ (c_A_size l dC dI (q 4) (q 8) (ca 4) (L 4).length (f 4) H.size) (cwV 0 hts gX1_makeRoomForUnknown_X0_size rfl rfl rfl (by decide +kernel) ⟨Nat.le_of_ble_eq_true rfl, Nat.le_of_ble_eq_true rfl⟩) ⟨fun a U g mk q => by obtain ⟨q0, q1, qP, qK, qD⟩ := q; exact ⟨q0, q1, qP, va_K.moved (u := U) (U := U.calling g mk a) (Vm.Alike.refl U.vm) qK, qD⟩, va_recv hKc hPc (ci := 0) (q0 := 0) rfl rfl, fun U hU hW => ⟨rfl, by rw [hU], by rw [hU]; exact hPc, va_K.moved hW.alike hKc, hDc.weaken (fun _ _ _ _ => trivial)⟩⟩ rfl rfl hl.1 rfl (lv_room (Nat.le_of_ble_eq_true rfl)) dX1_makeRoomForUnknown_29 ⟨Nat.le_of_ble_eq_true rfl, Nat.le_of_ble_eq_true rfl⟩) hS (fun q _ h => hFc q h) hFc (fun r u t H1 locs ht hvm hw hB hz1 hk1 hS => ?_)
  obtain ⟨n1, f1⟩ := u
  obtain ⟨hP1, hK1, hD1⟩ := hB
  rw [ht] at hP1
  try dsimp only at hw hP1 hD1
  obtain ⟨hr9, hu⟩ := hw
  cases hu
  obtain ⟨hP, hD⟩ := va_join (wr := [(q 0, .inr (1, [.int (nI C), .ref (q 1), .ref (q 2), .ref (q 3), .ref (q 4), .ref (q 9), .ref (q 10), .ref (q 11), .int (nI tg), .int hi, .int mi, .int go])), (q 1, .inr (0, [.ref (q 5), .int (nI ((L 1).length))])), (q 5, .inl (ca 1, 64, .inl (f 1))), (q 2, .inr (0, [.ref (q 6), .int (nI ((L 2).length))])), (q 6, .inl (ca 2, 64, .inl (f 2))), (q 3, .inr (0, [.ref (q 7), .int (nI ((L 3).length))])), (q 7, .inl (ca 3, 64, .inl (f 3))), (q 9, .inl (ca 5, 64, .inl w)), (q 10, .inl (ca 6, 64, .inl d)), (q 11, .inl (ca 7, 64, .inl st))]) (w1 := (cal (q 4) (q 8) (ca 4) ((L 4).length) (f 4))) hP hD [7, 8] [0, 1, 2, 3, 4, 5, 6, 9, 10, 11] rfl rfl (by decide) (by decide) hk1 hFc hP1 hD1
  generalize H1 = H at hP hS ⊢
  replace hP := hP.sub (ws' := (cx q ca C L f w d st tg hi mi go)) [0, 1, 2, 3, 4, 5, 6, 10, 11, 7, 8, 9] rfl
  replace hD := hD.sub (ws' := (cx q ca C L f w d st tg hi mi go)) [0, 1, 2, 3, 4, 5, 6, 10, 11, 7, 8, 9] (by decide) rfl
  subst hr9
  refine lv_iadd hx hb dX1_makeRoomForUnknown_32 ?_
  refine lv_topi (fun x_3 e_x_3 => ?_)
  have e_x_3 : x_3 = nI (((((L 1).length) + ((L 3).length)) + ((L 2).length)) + ((L 4).length)) := by rw [e_x_3]; exact nI_add _ _
  subst e_x_3
  refine lv_istore_n (lv' := [(3, .int (nI (((((L 1).length) + ((L 3).length)) + ((L 2).length)) + ((L 4).length)))), (2, .int (nI (((L 1).length) + ((L 3).length)))), (0, .ref (q 0)), (1, .int x)]) hx hb dX1_makeRoomForUnknown_33 rfl hl (by decide) rfl (fun ls hl => ?_)
  refine lv_iload_n hx hb dX1_makeRoomForUnknown_34 rfl (lv_at hl 1 rfl) ?_
  refine lv_aload_n hx hb dX1_makeRoomForUnknown_35 rfl (lv_at hl 2 rfl) ?_
  refine va_get (D := (dC, dI)) (ci := 1) (v := .int (nI C)) (C := RX1) (T := TX1) (N := 12) hx hb hts hwX1 hown hK hP 0 rfl rfl 0 (by decide) (hts (.fieldLink RX1 42 "ArcCache" "pages" "I") (by decide +kernel)) (fun _ h9 => h9) rfl dX1_makeRoomForUnknown_36 ?_
  refine lv_icmp_ne (tgt := 77) hx hb dX1_makeRoomForUnknown_39 (by decide) (fun c_39 => ?_) (fun c_39 => ?_)
  · skip
    replace c_39 : ¬ ((((L 1).length) + ((L 3).length)) = C) := fun h9 => c_39 ((nI_eq (a := ((L 1).length) + ((L 3).length)) (b := C) (by omega) (by omega)).mpr h9)
    refine lv_iload_n hx hb dX1_makeRoomForUnknown_77 rfl (lv_at hl 1 rfl) ?_
    refine lv_aload_n hx hb dX1_makeRoomForUnknown_78 rfl (lv_at hl 2 rfl) ?_
    refine va_get (D := (dC, dI)) (ci := 1) (v := .int (nI C)) (C := RX1) (T := TX1) (N := 12) hx hb hts hwX1 hown hK hP 0 rfl rfl 0 (by decide) (hts (.fieldLink RX1 42 "ArcCache" "pages" "I") (by decide +kernel)) (fun _ h9 => h9) rfl dX1_makeRoomForUnknown_79 ?_
    refine lv_icmp_ne (tgt := 100) hx hb dX1_makeRoomForUnknown_82 (by decide) (fun c_82 => ?_) (fun c_82 => ?_)
    · skip
      replace c_82 : ¬ ((((L 1).length) + ((L 3).length)) = C) := fun h9 => c_82 ((nI_eq (a := ((L 1).length) + ((L 3).length)) (b := C) (by omega) (by omega)).mpr h9)
      refine lv_iload_n hx hb dX1_makeRoomForUnknown_100 rfl (lv_at hl 0 rfl) ?_
      refine lv_aload_n hx hb dX1_makeRoomForUnknown_101 rfl (lv_at hl 2 rfl) ?_
      refine va_get (D := (dC, dI)) (ci := 1) (v := .int (nI C)) (C := RX1) (T := TX1) (N := 12) hx hb hts hwX1 hown hK hP 0 rfl rfl 0 (by decide) (hts (.fieldLink RX1 42 "ArcCache" "pages" "I") (by decide +kernel)) (fun _ h9 => h9) rfl dX1_makeRoomForUnknown_102 ?_
      refine lv_icmp_lt (tgt := 130) hx hb dX1_makeRoomForUnknown_105 (by decide) (fun c_105 => ?_) (fun c_105 => ?_)
      · skip
        replace c_105 : (((((L 1).length) + ((L 3).length)) + ((L 2).length)) + ((L 4).length)) < C := (nI_ltI (a := ((((L 1).length) + ((L 3).length)) + ((L 2).length)) + ((L 4).length)) (b := C) (by omega) (by omega)).mp c_105
        have hfin9 : (L, w, d, st, tg, hi, mi, go) = ap_tu w tg hi mi (ap_un w C tg x (L, d, st, go)) := by rw [ap_un_E (S := (L, d, st, go)) c_39 (by show ¬ C ≤ ap_tot L; omega)]; rfl
        exact W.vret hx hb hr (fun t ht hW => ⟨⟨(L, w, d, st, tg, hi, mi, go), rfl, hfin9, f, hf, by rw [ht]; exact hP, va_K.moved hW.alike hK, hD⟩, hS.F ht⟩) hS.2.2 dX1_makeRoomForUnknown_130
      · skip
        replace c_105 : ¬ ((((((L 1).length) + ((L 3).length)) + ((L 2).length)) + ((L 4).length)) < C) := fun h9 => c_105 ((nI_ltI (a := ((((L 1).length) + ((L 3).length)) + ((L 2).length)) + ((L 4).length)) (b := C) (by omega) (by omega)).mpr h9)
        refine lv_iload_n hx hb dX1_makeRoomForUnknown_108 rfl (lv_at hl 0 rfl) ?_
        refine lv_iconst (v := nI 2) hx hb dX1_makeRoomForUnknown_109 (by decide) ?_
        refine lv_aload_n hx hb dX1_makeRoomForUnknown_110 rfl (lv_at hl 2 rfl) ?_
        refine va_get (D := (dC, dI)) (ci := 1) (v := .int (nI C)) (C := RX1) (T := TX1) (N := 12) hx hb hts hwX1 hown hK hP 0 rfl rfl 0 (by decide) (hts (.fieldLink RX1 42 "ArcCache" "pages" "I") (by decide +kernel)) (fun _ h9 => h9) rfl dX1_makeRoomForUnknown_111 ?_
        refine lv_imul hx hb dX1_makeRoomForUnknown_114 ?_
        refine lv_topi (fun x_4 e_x_4 => ?_)
        have e_x_4 : x_4 = nI (2 * C) := by rw [e_x_4]; exact pk_mul _ _
        subst e_x_4
        refine lv_icmp_ne (tgt := 125) hx hb dX1_makeRoomForUnknown_115 (by decide) (fun c_115 => ?_) (fun c_115 => ?_)
        · skip
          replace c_115 : ¬ ((((((L 1).length) + ((L 3).length)) + ((L 2).length)) + ((L 4).length)) = (2 * C)) := fun h9 => c_115 ((nI_eq (a := ((((L 1).length) + ((L 3).length)) + ((L 2).length)) + ((L 4).length)) (b := 2 * C) (by omega) (by omega)).mpr h9)
          refine lv_aload_n hx hb dX1_makeRoomForUnknown_125 rfl (lv_at hl 2 rfl) ?_
          refine lv_iload_n hx hb dX1_makeRoomForUnknown_126 rfl (lv_at hl 3 rfl) ?_
          have hcC9 : C ≤ ap_tot L := by omega
          have hcD8 : ¬ ap_tot L = 2 * C := by omega
          have hfin9 : ap_tu w tg hi mi (ap_mk w tg x (L, d, st, go)) = ap_tu w tg hi mi (ap_un w C tg x (L, d, st, go)) := by rw [ap_un_D (S := (L, d, st, go)) c_39 hcC9 hcD8]
          have hPc := hP.sub (ws' := (cx q ca C L f w d st tg hi mi go)) [0, 1, 2, 3, 4, 5, 6, 7, 8, 9, 10, 11] rfl
          have hDc := hD.sub (ws' := (cx q ca C L f w d st tg hi mi go)) [0, 1, 2, 3, 4, 5, 6, 7, 8, 9, 10, 11] (by decide) rfl
          have hKc := hK.sub (tys' := (kx ca)) [0, 1, 2, 3, 4, 5, 6] rfl
          have hFc := va_free (wc := (cx q ca C L f w d st tg hi mi go)) hD hS hA [0, 1, 2, 3, 4, 5, 6, 7, 8, 9, 10, 11] rfl
          refine va_callv (va_runV (As := [.int x]) (rest := []) ⟨hx, hb, hml, hown, hts⟩ (c_X_makeRoom l dC dI q ca C L f w d st tg hi mi go x H.size hf hI hz (by omega)) (cwV 1 hts gX1_makeRoomForUnknown_X1_makeRoom rfl rfl rfl (by decide +kernel) ⟨Nat.le_of_ble_eq_true rfl, Nat.le_of_ble_eq_true rfl⟩) ⟨fun a U g mk q => by obtain ⟨q0, q1, qP, qK, qD, qN⟩ := q; exact ⟨q0, q1, qP, va_K.moved (u := U) (U := U.calling g mk a) (Vm.Alike.refl U.vm) qK, qD, va_tabs rfl (rfl : U.vm = (U.calling g mk a).vm) qN⟩, va_recv hKc hPc (ci := 1) (q0 := 0) rfl rfl, fun U hU hW => ⟨rfl, by rw [hU], by rw [hU]; exact hPc, va_K.moved hW.alike hKc, hDc.weaken (fun _ _ _ _ => trivial), va_Nw.warmM hW hN⟩⟩ rfl rfl hl.1 rfl (lv_room (Nat.le_of_ble_eq_true rfl)) dX1_makeRoomForUnknown_127 ⟨Nat.le_of_ble_eq_true rfl, Nat.le_of_ble_eq_true rfl⟩) hS (fun q _ h => hFc q h) hFc (fun u t H1 locs ht hvm hw hB hz1 hk1 hS => ?_)
          obtain ⟨L1, w1, d1, st1, tg1, hi1, mi1, go1⟩ := u
          obtain ⟨f1, hf1, hP1, hK1, hD1⟩ := hB
          rw [ht] at hP1
          obtain ⟨f_5, ef_5⟩ : ∃ z, z = f1 := ⟨_, rfl⟩
          rw [← ef_5] at hf1 hP1 hD1
          clear ef_5 f1
          replace hw := hw.symm
          simp only [ap_tu, Prod.mk.injEq] at hw
          obtain ⟨rfl, rfl, rfl, rfl, rfl, rfl, rfl, rfl⟩ := hw
          have hfx_6 := hf1
          obtain ⟨hP, hD⟩ := va_join (wr := []) (w1 := (cx q ca C ((ap_mk w tg x (L, d, st, go)).1) f_5 w ((ap_mk w tg x (L, d, st, go)).2.1) ((ap_mk w tg x (L, d, st, go)).2.2.1) tg hi mi ((ap_mk w tg x (L, d, st, go)).2.2.2))) hP hD [0, 1, 2, 3, 4, 5, 6, 7, 8, 9, 10, 11] [] rfl rfl (by decide) (by decide) hk1 hFc hP1 hD1
          generalize H1 = H at hP hS ⊢
          replace hP : va_P (dC, dI) vwCl (cx q ca C ((ap_mk w tg x (L, d, st, go)).1) f_5 w ((ap_mk w tg x (L, d, st, go)).2.1) ((ap_mk w tg x (L, d, st, go)).2.2.1) tg hi mi ((ap_mk w tg x (L, d, st, go)).2.2.2)) H := hP
          replace hD : va_D A (cx q ca C ((ap_mk w tg x (L, d, st, go)).1) f_5 w ((ap_mk w tg x (L, d, st, go)).2.1) ((ap_mk w tg x (L, d, st, go)).2.2.1) tg hi mi ((ap_mk w tg x (L, d, st, go)).2.2.2)) := hD
          exact W.vret hx hb hr (fun t ht hW => ⟨⟨ap_tu w tg hi mi (ap_mk w tg x (L, d, st, go)), rfl, hfin9, f_5, hfx_6, by rw [ht]; exact hP, va_K.moved hW.alike hK, hD⟩, hS.F ht⟩) hS.2.2 dX1_makeRoomForUnknown_130
        · skip
          replace c_115 : (((((L 1).length) + ((L 3).length)) + ((L 2).length)) + ((L 4).length)) = (2 * C) := (nI_eq (a := ((((L 1).length) + ((L 3).length)) + ((L 2).length)) + ((L 4).length)) (b := 2 * C) (by omega) (by omega)).mp c_115
          refine lv_aload_n hx hb dX1_makeRoomForUnknown_118 rfl (lv_at hl 2 rfl) ?_
          refine va_get (D := (dC, dI)) (ci := 1) (v := .ref (q 4)) (C := RX1) (T := TX1) (N := 12) hx hb hts hwX1 hown hK hP 0 rfl rfl 4 (by decide) (hts (.fieldLink RX1 22 "ArcCache" "wentAgain" "LArcCache$AddressList;") (by decide +kernel)) (fun _ h9 => h9) rfl dX1_makeRoomForUnknown_119 ?_
          have hPc := hP.sub (ws' := (cal (q 4) (q 8) (ca 4) ((L 4).length) (f 4))) [7, 8] rfl
          have hDc := hD.sub (ws' := (cal (q 4) (q 8) (ca 4) ((L 4).length) (f 4))) [7, 8] (by decide) rfl
          have hKc := hK.sub (tys' := (kal (ca 4))) [3] rfl
          have hFc := va_free (wc := (cal (q 4) (q 8) (ca 4) ((L 4).length) (f 4))) hD hS hA [7, 8] rfl
          refine va_callv (va_runV (As := []) (rest := []) ⟨hx, hb, hml, hown, hts⟩ (c_A_dropOldest l dC dI (q 4) (q 8) (ca 4) (L 4) (f 4) H.size (Nat.le_trans z4 (by decide)) (hf 4 (by decide) (by decide)) (hI.1 4)) (cwV 0 hts gX1_makeRoomForUnknown_X0_dropOldest rfl rfl rfl (by decide +kernel) ⟨Nat.le_of_ble_eq_true rfl, Nat.le_of_ble_eq_true rfl⟩) ⟨fun a U g mk q => by obtain ⟨q0, q1, qP, qK, qD⟩ := q; exact ⟨q0, q1, qP, va_K.moved (u := U) (U := U.calling g mk a) (Vm.Alike.refl U.vm) qK, qD⟩, va_recv hKc hPc (ci := 0) (q0 := 0) rfl rfl, fun U hU hW => ⟨rfl, by rw [hU], by rw [hU]; exact hPc, va_K.moved hW.alike hKc, hDc.weaken (fun _ _ _ _ => trivial)⟩⟩ rfl rfl hl.1 rfl (lv_room (Nat.le_of_ble_eq_true rfl)) dX1_makeRoomForUnknown_122 ⟨Nat.le_of_ble_eq_true rfl, Nat.le_of_ble_eq_true rfl⟩) hS (fun q _ h => hFc q h) hFc (fun u t H1 locs ht hvm hw hB hz1 hk1 hS => ?_)
          obtain ⟨n1, f1⟩ := u
          obtain ⟨hP1, hK1, hD1⟩ := hB
          rw [ht] at hP1
          try dsimp only at hw hP1 hD1
          obtain ⟨hn9, hf9⟩ := hw
          subst hn9
          obtain ⟨f_7, ef_7⟩ : ∃ z, z = f1 := ⟨_, rfl⟩
          rw [← ef_7] at hf9 hP1 hD1
          clear ef_7 f1
          have hfx_8 := fx_up (k := 4) hf hf9
          obtain ⟨hP, hD⟩ := va_join (wr := [(q 0, .inr (1, [.int (nI C), .ref (q 1), .ref (q 2), .ref (q 3), .ref (q 4), .ref (q 9), .ref (q 10), .ref (q 11), .int (nI tg), .int hi, .int mi, .int go])), (q 1, .inr (0, [.ref (q 5), .int (nI ((L 1).length))])), (q 5, .inl (ca 1, 64, .inl (f 1))), (q 2, .inr (0, [.ref (q 6), .int (nI ((L 2).length))])), (q 6, .inl (ca 2, 64, .inl (f 2))), (q 3, .inr (0, [.ref (q 7), .int (nI ((L 3).length))])), (q 7, .inl (ca 3, 64, .inl (f 3))), (q 9, .inl (ca 5, 64, .inl w)), (q 10, .inl (ca 6, 64, .inl d)), (q 11, .inl (ca 7, 64, .inl st))]) (w1 := (cal (q 4) (q 8) (ca 4) ((ap_rm (ap_old (L 4)) (L 4)).length) f_7)) hP hD [7, 8] [0, 1, 2, 3, 4, 5, 6, 9, 10, 11] rfl rfl (by decide) (by decide) hk1 hFc hP1 hD1
          generalize H1 = H at hP hS ⊢
          replace hP := hP.sub (ws' := (cx q ca C (va_up L 4 (ap_rm (ap_old (L 4)) (L 4))) (va_up f 4 f_7) w d st tg hi mi go)) [0, 1, 2, 3, 4, 5, 6, 10, 11, 7, 8, 9] rfl
          replace hD := hD.sub (ws' := (cx q ca C (va_up L 4 (ap_rm (ap_old (L 4)) (L 4))) (va_up f 4 f_7) w d st tg hi mi go)) [0, 1, 2, 3, 4, 5, 6, 10, 11, 7, 8, 9] (by decide) rfl
          replace hP : va_P (dC, dI) vwCl (cx q ca C (ap_dr L 4) (va_up f 4 f_7) w d st tg hi mi go) H := hP
          replace hD : va_D A (cx q ca C (ap_dr L 4) (va_up f 4 f_7) w d st tg hi mi go) := hD
          have hfx_8d : fx_ok (va_up f 4 f_7) (ap_dr L 4) := hfx_8
          refine lv_aload_n hx hb dX1_makeRoomForUnknown_125 rfl (lv_at hl 2 rfl) ?_
          refine lv_iload_n hx hb dX1_makeRoomForUnknown_126 rfl (lv_at hl 3 rfl) ?_
          have hcC9 : C ≤ ap_tot L := by omega
          have hcC8 : ap_tot L = 2 * C := by omega
          have hfin9 : ap_tu w tg hi mi (ap_mk w tg x (ap_dr L 4, d, st, go)) = ap_tu w tg hi mi (ap_un w C tg x (L, d, st, go)) := by rw [ap_un_C (S := (L, d, st, go)) c_39 hcC9 hcC8]
          have hPc := hP.sub (ws' := (cx q ca C (ap_dr L 4) (va_up f 4 f_7) w d st tg hi mi go)) [0, 1, 2, 3, 4, 5, 6, 7, 8, 9, 10, 11] rfl
          have hDc := hD.sub (ws' := (cx q ca C (ap_dr L 4) (va_up f 4 f_7) w d st tg hi mi go)) [0, 1, 2, 3, 4, 5, 6, 7, 8, 9, 10, 11] (by decide) rfl
          have hKc := hK.sub (tys' := (kx ca)) [0, 1, 2, 3, 4, 5, 6] rfl
          have hFc := va_free (wc := (cx q ca C (ap_dr L 4) (va_up f 4 f_7) w d st tg hi mi go)) hD hS hA [0, 1, 2, 3, 4, 5, 6, 7, 8, 9, 10, 11] rfl
          refine va_callv (va_runV (As := [.int x]) (rest := []) ⟨hx, hb, hml, hown, hts⟩ (c_X_makeRoom l dC dI q ca C (ap_dr L 4) (va_up f 4 f_7) w d st tg hi mi go x H.size hfx_8d (ap_inv_dr hI 4) (ap_tot_dr hz 4) (by omega)) (cwV 1 hts gX1_makeRoomForUnknown_X1_makeRoom rfl rfl rfl (by decide +kernel) ⟨Nat.le_of_ble_eq_true rfl, Nat.le_of_ble_eq_true rfl⟩) ⟨fun a U g mk q => by obtain ⟨q0, q1, qP, qK, qD, qN⟩ := q; exact ⟨q0, q1, qP, va_K.moved (u := U) (U := U.calling g mk a) (Vm.Alike.refl U.vm) qK, qD, va_tabs rfl (rfl : U.vm = (U.calling g mk a).vm) qN⟩, va_recv hKc hPc (ci := 1) (q0 := 0) rfl rfl, fun U hU hW => ⟨rfl, by rw [hU], by rw [hU]; exact hPc, va_K.moved hW.alike hKc, hDc.weaken (fun _ _ _ _ => trivial), va_Nw.warmM hW hN⟩⟩ rfl rfl hl.1 rfl (lv_room (Nat.le_of_ble_eq_true rfl)) dX1_makeRoomForUnknown_127 ⟨Nat.le_of_ble_eq_true rfl, Nat.le_of_ble_eq_true rfl⟩) hS (fun q _ h => hFc q h) hFc (fun u t H1 locs ht hvm hw hB hz1 hk1 hS => ?_)
          obtain ⟨L1, w1, d1, st1, tg1, hi1, mi1, go1⟩ := u
          obtain ⟨f1, hf1, hP1, hK1, hD1⟩ := hB
          rw [ht] at hP1
          obtain ⟨f_9, ef_9⟩ : ∃ z, z = f1 := ⟨_, rfl⟩
          rw [← ef_9] at hf1 hP1 hD1
          clear ef_9 f1
          replace hw := hw.symm
          simp only [ap_tu, Prod.mk.injEq] at hw
          obtain ⟨rfl, rfl, rfl, rfl, rfl, rfl, rfl, rfl⟩ := hw
          have hfx_10 := hf1
          obtain ⟨hP, hD⟩ := va_join (wr := []) (w1 := (cx q ca C ((ap_mk w tg x (ap_dr L 4, d, st, go)).1) f_9 w ((ap_mk w tg x (ap_dr L 4, d, st, go)).2.1) ((ap_mk w tg x (ap_dr L 4, d, st, go)).2.2.1) tg hi mi ((ap_mk w tg x (ap_dr L 4, d, st, go)).2.2.2))) hP hD [0, 1, 2, 3, 4, 5, 6, 7, 8, 9, 10, 11] [] rfl rfl (by decide) (by decide) hk1 hFc hP1 hD1
          generalize H1 = H at hP hS ⊢
          replace hP : va_P (dC, dI) vwCl (cx q ca C ((ap_mk w tg x (ap_dr L 4, d, st, go)).1) f_9 w ((ap_mk w tg x (ap_dr L 4, d, st, go)).2.1) ((ap_mk w tg x (ap_dr L 4, d, st, go)).2.2.1) tg hi mi ((ap_mk w tg x (ap_dr L 4, d, st, go)).2.2.2)) H := hP
          replace hD : va_D A (cx q ca C ((ap_mk w tg x (ap_dr L 4, d, st, go)).1) f_9 w ((ap_mk w tg x (ap_dr L 4, d, st, go)).2.1) ((ap_mk w tg x (ap_dr L 4, d, st, go)).2.2.1) tg hi mi ((ap_mk w tg x (ap_dr L 4, d, st, go)).2.2.2)) := hD
          exact W.vret hx hb hr (fun t ht hW => ⟨⟨ap_tu w tg hi mi (ap_mk w tg x (ap_dr L 4, d, st, go)), rfl, hfin9, f_9, hfx_10, by rw [ht]; exact hP, va_K.moved hW.alike hK, hD⟩, hS.F ht⟩) hS.2.2 dX1_makeRoomForUnknown_130
    · skip
      replace c_82 : (((L 1).length) + ((L 3).length)) = C := (nI_eq (a := ((L 1).length) + ((L 3).length)) (b := C) (by omega) (by omega)).mp c_82
      exact absurd c_82 c_39
  · skip
    replace c_39 : (((L 1).length) + ((L 3).length)) = C := (nI_eq (a := ((L 1).length) + ((L 3).length)) (b := C) (by omega) (by omega)).mp c_39
    refine lv_aload_n hx hb dX1_makeRoomForUnknown_42 rfl (lv_at hl 2 rfl) ?_
    refine va_get (D := (dC, dI)) (ci := 1) (v := .ref (q 1)) (C := RX1) (T := TX1) (N := 12) hx hb hts hwX1 hown hK hP 0 rfl rfl 1 (by decide) (hts (.fieldLink RX1 10 "ArcCache" "cameOnce" "LArcCache$AddressList;") (by decide +kernel)) (fun _ h9 => h9) rfl dX1_makeRoomForUnknown_43 ?_
    have hPc := hP.sub (ws' := (cal (q 1) (q 5) (ca 1) ((L 1).length) (f 1))) [1, 2] rfl
    have hDc := hD.sub (ws' := (cal (q 1) (q 5) (ca 1) ((L 1).length) (f 1))) [1, 2] (by decide) rfl
    have hKc := hK.sub (tys' := (kal (ca 1))) [0] rfl
    have hFc := va_free (wc := (cal (q 1) (q 5) (ca 1) ((L 1).length) (f 1))) hD hS hA [1, 2] rfl
    refine va_calli (va_runV (As := []) (rest := []) ⟨hx, hb, hml, hown, hts⟩ (c_A_size l dC dI (q 1) (q 5) (ca 1) (L 1).length (f 1) H.size) (cwV 0 hts gX1_makeRoomForUnknown_X0_size rfl rfl rfl (by decide +kernel) ⟨Nat.le_of_ble_eq_true rfl, Nat.le_of_ble_eq_true rfl⟩) ⟨fun a U g mk q => by obtain ⟨q0, q1, qP, qK, qD⟩ := q; exact ⟨q0, q1, qP, va_K.moved (u := U) (U := U.calling g mk a) (Vm.Alike.refl U.vm) qK, qD⟩, va_recv hKc hPc (ci := 0) (q0 := 0) rfl rfl, fun U hU hW => ⟨rfl, by rw [hU], by rw [hU]; exact hPc, va_K.moved hW.alike hKc, hDc.weaken (fun _ _ _ _ => trivial)⟩⟩ rfl rfl hl.1 rfl (lv_room (Nat.le_of_ble_eq_true rfl)) dX1_makeRoomForUnknown_46 ⟨Nat.le_of_ble_eq_true rfl, Nat.le_of_ble_eq_true rfl⟩) hS (fun q _ h => hFc q h) hFc (fun r u t H1 locs ht hvm hw hB hz1 hk1 hS => ?_)
    obtain ⟨n1, f1⟩ := u
    obtain ⟨hP1, hK1, hD1⟩ := hB
    rw [ht] at hP1
    try dsimp only at hw hP1 hD1
    obtain ⟨hr9, hu⟩ := hw
    cases hu
    obtain ⟨hP, hD⟩ := va_join (wr := [(q 0, .inr (1, [.int (nI C), .ref (q 1), .ref (q 2), .ref (q 3), .ref (q 4), .ref (q 9), .ref (q 10), .ref (q 11), .int (nI tg), .int hi, .int mi, .int go])), (q 2, .inr (0, [.ref (q 6), .int (nI ((L 2).length))])), (q 6, .inl (ca 2, 64, .inl (f 2))), (q 3, .inr (0, [.ref (q 7), .int (nI ((L 3).length))])), (q 7, .inl (ca 3, 64, .inl (f 3))), (q 4, .inr (0, [.ref (q 8), .int (nI ((L 4).length))])), (q 8, .inl (ca 4, 64, .inl (f 4))), (q 9, .inl (ca 5, 64, .inl w)), (q 10, .inl (ca 6, 64, .inl d)), (q 11, .inl (ca 7, 64, .inl st))]) (w1 := (cal (q 1) (q 5) (ca 1) ((L 1).length) (f 1))) hP hD [1, 2] [0, 3, 4, 5, 6, 7, 8, 9, 10, 11] rfl rfl (by decide) (by decide) hk1 hFc hP1 hD1
    generalize H1 = H at hP hS ⊢
    replace hP := hP.sub (ws' := (cx q ca C L f w d st tg hi mi go)) [0, 10, 11, 1, 2, 3, 4, 5, 6, 7, 8, 9] rfl
    replace hD := hD.sub (ws' := (cx q ca C L f w d st tg hi mi go)) [0, 10, 11, 1, 2, 3, 4, 5, 6, 7, 8, 9] (by decide) rfl
    subst hr9
    refine lv_aload_n hx hb dX1_makeRoomForUnknown_49 rfl (lv_at hl 2 rfl) ?_
    refine va_get (D := (dC, dI)) (ci := 1) (v := .int (nI C)) (C := RX1) (T := TX1) (N := 12) hx hb hts hwX1 hown hK hP 0 rfl rfl 0 (by decide) (hts (.fieldLink RX1 42 "ArcCache" "pages" "I") (by decide +kernel)) (fun _ h9 => h9) rfl dX1_makeRoomForUnknown_50 ?_
    refine lv_icmp_ne (tgt := 77) hx hb dX1_makeRoomForUnknown_53 (by decide) (fun c_53 => ?_) (fun c_53 => ?_)
    · skip
      replace c_53 : ¬ (((L 1).length) = C) := fun h9 => c_53 ((nI_eq (a := (L 1).length) (b := C) (by omega) (by omega)).mpr h9)
      refine lv_iload_n hx hb dX1_makeRoomForUnknown_77 rfl (lv_at hl 1 rfl) ?_
      refine lv_aload_n hx hb dX1_makeRoomForUnknown_78 rfl (lv_at hl 2 rfl) ?_
      refine va_get (D := (dC, dI)) (ci := 1) (v := .int (nI C)) (C := RX1) (T := TX1) (N := 12) hx hb hts hwX1 hown hK hP 0 rfl rfl 0 (by decide) (hts (.fieldLink RX1 42 "ArcCache" "pages" "I") (by decide +kernel)) (fun _ h9 => h9) rfl dX1_makeRoomForUnknown_79 ?_
      refine lv_icmp_ne (tgt := 100) hx hb dX1_makeRoomForUnknown_82 (by decide) (fun c_82 => ?_) (fun c_82 => ?_)
      · skip
        replace c_82 : ¬ ((((L 1).length) + ((L 3).length)) = C) := fun h9 => c_82 ((nI_eq (a := ((L 1).length) + ((L 3).length)) (b := C) (by omega) (by omega)).mpr h9)
        exact absurd c_39 c_82
      · skip
        replace c_82 : (((L 1).length) + ((L 3).length)) = C := (nI_eq (a := ((L 1).length) + ((L 3).length)) (b := C) (by omega) (by omega)).mp c_82
        refine lv_aload_n hx hb dX1_makeRoomForUnknown_85 rfl (lv_at hl 2 rfl) ?_
        refine va_get (D := (dC, dI)) (ci := 1) (v := .ref (q 3)) (C := RX1) (T := TX1) (N := 12) hx hb hts hwX1 hown hK hP 0 rfl rfl 3 (by decide) (hts (.fieldLink RX1 19 "ArcCache" "wentOnce" "LArcCache$AddressList;") (by decide +kernel)) (fun _ h9 => h9) rfl dX1_makeRoomForUnknown_86 ?_
        have hPc := hP.sub (ws' := (cal (q 3) (q 7) (ca 3) ((L 3).length) (f 3))) [5, 6] rfl
        have hDc := hD.sub (ws' := (cal (q 3) (q 7) (ca 3) ((L 3).length) (f 3))) [5, 6] (by decide) rfl
        have hKc := hK.sub (tys' := (kal (ca 3))) [2] rfl
        have hFc := va_free (wc := (cal (q 3) (q 7) (ca 3) ((L 3).length) (f 3))) hD hS hA [5, 6] rfl
        refine va_callv (va_runV (As := []) (rest := []) ⟨hx, hb, hml, hown, hts⟩ (c_A_dropOldest l dC dI (q 3) (q 7) (ca 3) (L 3) (f 3) H.size (Nat.le_trans z3 (by decide)) (hf 3 (by decide) (by decide)) (hI.1 3)) (cwV 0 hts gX1_makeRoomForUnknown_X0_dropOldest rfl rfl rfl (by decide +kernel) ⟨Nat.le_of_ble_eq_true rfl, Nat.le_of_ble_eq_true rfl⟩) ⟨fun a U g mk q => by obtain ⟨q0, q1, qP, qK, qD⟩ := q; exact ⟨q0, q1, qP, va_K.moved (u := U) (U := U.calling g mk a) (Vm.Alike.refl U.vm) qK, qD⟩, va_recv hKc hPc (ci := 0) (q0 := 0) rfl rfl, fun U hU hW => ⟨rfl, by rw [hU], by rw [hU]; exact hPc, va_K.moved hW.alike hKc, hDc.weaken (fun _ _ _ _ => trivial)⟩⟩ rfl rfl hl.1 rfl (lv_room (Nat.le_of_ble_eq_true rfl)) dX1_makeRoomForUnknown_89 ⟨Nat.le_of_ble_eq_true rfl, Nat.le_of_ble_eq_true rfl⟩) hS (fun q _ h => hFc q h) hFc (fun u t H1 locs ht hvm hw hB hz1 hk1 hS => ?_)
        obtain ⟨n1, f1⟩ := u
        obtain ⟨hP1, hK1, hD1⟩ := hB
        rw [ht] at hP1
        try dsimp only at hw hP1 hD1
        obtain ⟨hn9, hf9⟩ := hw
        subst hn9
        obtain ⟨f_11, ef_11⟩ : ∃ z, z = f1 := ⟨_, rfl⟩
        rw [← ef_11] at hf9 hP1 hD1
        clear ef_11 f1
        have hfx_12 := fx_up (k := 3) hf hf9
        obtain ⟨hP, hD⟩ := va_join (wr := [(q 0, .inr (1, [.int (nI C), .ref (q 1), .ref (q 2), .ref (q 3), .ref (q 4), .ref (q 9), .ref (q 10), .ref (q 11), .int (nI tg), .int hi, .int mi, .int go])), (q 1, .inr (0, [.ref (q 5), .int (nI ((L 1).length))])), (q 5, .inl (ca 1, 64, .inl (f 1))), (q 2, .inr (0, [.ref (q 6), .int (nI ((L 2).length))])), (q 6, .inl (ca 2, 64, .inl (f 2))), (q 4, .inr (0, [.ref (q 8), .int (nI ((L 4).length))])), (q 8, .inl (ca 4, 64, .inl (f 4))), (q 9, .inl (ca 5, 64, .inl w)), (q 10, .inl (ca 6, 64, .inl d)), (q 11, .inl (ca 7, 64, .inl st))]) (w1 := (cal (q 3) (q 7) (ca 3) ((ap_rm (ap_old (L 3)) (L 3)).length) f_11)) hP hD [5, 6] [0, 1, 2, 3, 4, 7, 8, 9, 10, 11] rfl rfl (by decide) (by decide) hk1 hFc hP1 hD1
        generalize H1 = H at hP hS ⊢
        replace hP := hP.sub (ws' := (cx q ca C (va_up L 3 (ap_rm (ap_old (L 3)) (L 3))) (va_up f 3 f_11) w d st tg hi mi go)) [0, 1, 2, 3, 4, 10, 11, 5, 6, 7, 8, 9] rfl
        replace hD := hD.sub (ws' := (cx q ca C (va_up L 3 (ap_rm (ap_old (L 3)) (L 3))) (va_up f 3 f_11) w d st tg hi mi go)) [0, 1, 2, 3, 4, 10, 11, 5, 6, 7, 8, 9] (by decide) rfl
        replace hP : va_P (dC, dI) vwCl (cx q ca C (ap_dr L 3) (va_up f 3 f_11) w d st tg hi mi go) H := hP
        replace hD : va_D A (cx q ca C (ap_dr L 3) (va_up f 3 f_11) w d st tg hi mi go) := hD
        have hfx_12d : fx_ok (va_up f 3 f_11) (ap_dr L 3) := hfx_12
        refine lv_aload_n hx hb dX1_makeRoomForUnknown_92 rfl (lv_at hl 2 rfl) ?_
        refine lv_iload_n hx hb dX1_makeRoomForUnknown_93 rfl (lv_at hl 3 rfl) ?_
        have hcB9 : ¬ (L 1).length = C := c_53
        have hfin9 : ap_tu w tg hi mi (ap_mk w tg x (ap_dr L 3, d, st, go)) = ap_tu w tg hi mi (ap_un w C tg x (L, d, st, go)) := by rw [ap_un_B (S := (L, d, st, go)) c_39 hcB9]
        have hPc := hP.sub (ws' := (cx q ca C (ap_dr L 3) (va_up f 3 f_11) w d st tg hi mi go)) [0, 1, 2, 3, 4, 5, 6, 7, 8, 9, 10, 11] rfl
        have hDc := hD.sub (ws' := (cx q ca C (ap_dr L 3) (va_up f 3 f_11) w d st tg hi mi go)) [0, 1, 2, 3, 4, 5, 6, 7, 8, 9, 10, 11] (by decide) rfl
        have hKc := hK.sub (tys' := (kx ca)) [0, 1, 2, 3, 4, 5, 6] rfl
        have hFc := va_free (wc := (cx q ca C (ap_dr L 3) (va_up f 3 f_11) w d st tg hi mi go)) hD hS hA [0, 1, 2, 3, 4, 5, 6, 7, 8, 9, 10, 11] rfl
        refine va_callv (va_runV (As := [.int x]) (rest := []) ⟨hx, hb, hml, hown, hts⟩ (c_X_makeRoom l dC dI q ca C (ap_dr L 3) (va_up f 3 f_11) w d st tg hi mi go x H.size hfx_12d (ap_inv_dr hI 3) (ap_tot_dr hz 3) (by omega)) (cwV 1 hts gX1_makeRoomForUnknown_X1_makeRoom rfl rfl rfl (by decide +kernel) ⟨Nat.le_of_ble_eq_true rfl, Nat.le_of_ble_eq_true rfl⟩) ⟨fun a U g mk q => by obtain ⟨q0, q1, qP, qK, qD, qN⟩ := q; exact ⟨q0, q1, qP, va_K.moved (u := U) (U := U.calling g mk a) (Vm.Alike.refl U.vm) qK, qD, va_tabs rfl (rfl : U.vm = (U.calling g mk a).vm) qN⟩, va_recv hKc hPc (ci := 1) (q0 := 0) rfl rfl, fun U hU hW => ⟨rfl, by rw [hU], by rw [hU]; exact hPc, va_K.moved hW.alike hKc, hDc.weaken (fun _ _ _ _ => trivial), va_Nw.warmM hW hN⟩⟩ rfl rfl hl.1 rfl (lv_room (Nat.le_of_ble_eq_true rfl)) dX1_makeRoomForUnknown_94 ⟨Nat.le_of_ble_eq_true rfl, Nat.le_of_ble_eq_true rfl⟩) hS (fun q _ h => hFc q h) hFc (fun u t H1 locs ht hvm hw hB hz1 hk1 hS => ?_)
        obtain ⟨L1, w1, d1, st1, tg1, hi1, mi1, go1⟩ := u
        obtain ⟨f1, hf1, hP1, hK1, hD1⟩ := hB
        rw [ht] at hP1
        obtain ⟨f_13, ef_13⟩ : ∃ z, z = f1 := ⟨_, rfl⟩
        rw [← ef_13] at hf1 hP1 hD1
        clear ef_13 f1
        replace hw := hw.symm
        simp only [ap_tu, Prod.mk.injEq] at hw
        obtain ⟨rfl, rfl, rfl, rfl, rfl, rfl, rfl, rfl⟩ := hw
        have hfx_14 := hf1
        obtain ⟨hP, hD⟩ := va_join (wr := []) (w1 := (cx q ca C ((ap_mk w tg x (ap_dr L 3, d, st, go)).1) f_13 w ((ap_mk w tg x (ap_dr L 3, d, st, go)).2.1) ((ap_mk w tg x (ap_dr L 3, d, st, go)).2.2.1) tg hi mi ((ap_mk w tg x (ap_dr L 3, d, st, go)).2.2.2))) hP hD [0, 1, 2, 3, 4, 5, 6, 7, 8, 9, 10, 11] [] rfl rfl (by decide) (by decide) hk1 hFc hP1 hD1
        generalize H1 = H at hP hS ⊢
        replace hP : va_P (dC, dI) vwCl (cx q ca C ((ap_mk w tg x (ap_dr L 3, d, st, go)).1) f_13 w ((ap_mk w tg x (ap_dr L 3, d, st, go)).2.1) ((ap_mk w tg x (ap_dr L 3, d, st, go)).2.2.1) tg hi mi ((ap_mk w tg x (ap_dr L 3, d, st, go)).2.2.2)) H := hP
        replace hD : va_D A (cx q ca C ((ap_mk w tg x (ap_dr L 3, d, st, go)).1) f_13 w ((ap_mk w tg x (ap_dr L 3, d, st, go)).2.1) ((ap_mk w tg x (ap_dr L 3, d, st, go)).2.2.1) tg hi mi ((ap_mk w tg x (ap_dr L 3, d, st, go)).2.2.2)) := hD
        refine lv_goto (tgt := 130) hx hb dX1_makeRoomForUnknown_97 (by decide) ?_
        exact W.vret hx hb hr (fun t ht hW => ⟨⟨ap_tu w tg hi mi (ap_mk w tg x (ap_dr L 3, d, st, go)), rfl, hfin9, f_13, hfx_14, by rw [ht]; exact hP, va_K.moved hW.alike hK, hD⟩, hS.F ht⟩) hS.2.2 dX1_makeRoomForUnknown_130
    · skip
      replace c_53 : ((L 1).length) = C := (nI_eq (a := (L 1).length) (b := C) (by omega) (by omega)).mp c_53
      refine lv_aload_n hx hb dX1_makeRoomForUnknown_56 rfl (lv_at hl 2 rfl) ?_
      refine lv_aload_n hx hb dX1_makeRoomForUnknown_57 rfl (lv_at hl 2 rfl) ?_
      refine va_get (D := (dC, dI)) (ci := 1) (v := .ref (q 1)) (C := RX1) (T := TX1) (N := 12) hx hb hts hwX1 hown hK hP 0 rfl rfl 1 (by decide) (hts (.fieldLink RX1 10 "ArcCache" "cameOnce" "LArcCache$AddressList;") (by decide +kernel)) (fun _ h9 => h9) rfl dX1_makeRoomForUnknown_58 ?_
      have hne9 : L 1 ≠ [] := ap_ne (by omega)
      have hx64 : vp_in (ap_old (L 1)) 64 := ap_old_in hI hne9
      have hfin9 : (ap_dr L 1, w, ap_cd d (ap_old (L 1)), ap_cs w d st (ap_old (L 1)), tg, hi, mi, go + 1) = ap_tu w tg hi mi (ap_un w C tg x (L, d, st, go)) := by rw [ap_un_A (S := (L, d, st, go)) c_39 c_53]; rfl
      have hPc := hP.sub (ws' := (cal (q 1) (q 5) (ca 1) ((L 1).length) (f 1))) [1, 2] rfl
      have hDc := hD.sub (ws' := (cal (q 1) (q 5) (ca 1) ((L 1).length) (f 1))) [1, 2] (by decide) rfl
      have hKc := hK.sub (tys' := (kal (ca 1))) [0] rfl
      have hFc := va_free (wc := (cal (q 1) (q 5) (ca 1) ((L 1).length) (f 1))) hD hS hA [1, 2] rfl
      refine va_calli (va_runV (As := []) (rest := [.ref (q 0)]) ⟨hx, hb, hml, hown, hts⟩ (c_A_oldest l dC dI (q 1) (q 5) (ca 1) (L 1) (f 1) H.size (Nat.le_trans z1 (by decide)) (hf 1 (by decide) (by decide))) (cwV 0 hts gX1_makeRoomForUnknown_X0_oldest rfl rfl rfl (by decide +kernel) ⟨Nat.le_of_ble_eq_true rfl, Nat.le_of_ble_eq_true rfl⟩) ⟨fun a U g mk q => by obtain ⟨q0, q1, qP, qK, qD⟩ := q; exact ⟨q0, q1, qP, va_K.moved (u := U) (U := U.calling g mk a) (Vm.Alike.refl U.vm) qK, qD⟩, va_recv hKc hPc (ci := 0) (q0 := 0) rfl rfl, fun U hU hW => ⟨rfl, by rw [hU], by rw [hU]; exact hPc, va_K.moved hW.alike hKc, hDc.weaken (fun _ _ _ _ => trivial)⟩⟩ rfl rfl hl.1 rfl (lv_room (Nat.le_of_ble_eq_true rfl)) dX1_makeRoomForUnknown_61 ⟨Nat.le_of_ble_eq_true rfl, Nat.le_of_ble_eq_true rfl⟩) hS (fun q _ h => hFc q h) hFc (fun r u t H1 locs ht hvm hw hB hz1 hk1 hS => ?_)
      obtain ⟨n1, f1⟩ := u
      obtain ⟨hP1, hK1, hD1⟩ := hB
      rw [ht] at hP1
      try dsimp only at hw hP1 hD1
      obtain ⟨hr9, hu⟩ := hw
      cases hu
      obtain ⟨hP, hD⟩ := va_join (wr := [(q 0, .inr (1, [.int (nI C), .ref (q 1), .ref (q 2), .ref (q 3), .ref (q 4), .ref (q 9), .ref (q 10), .ref (q 11), .int (nI tg), .int hi, .int mi, .int go])), (q 2, .inr (0, [.ref (q 6), .int (nI ((L 2).length))])), (q 6, .inl (ca 2, 64, .inl (f 2))), (q 3, .inr (0, [.ref (q 7), .int (nI ((L 3).length))])), (q 7, .inl (ca 3, 64, .inl (f 3))), (q 4, .inr (0, [.ref (q 8), .int (nI ((L 4).length))])), (q 8, .inl (ca 4, 64, .inl (f 4))), (q 9, .inl (ca 5, 64, .inl w)), (q 10, .inl (ca 6, 64, .inl d)), (q 11, .inl (ca 7, 64, .inl st))]) (w1 := (cal (q 1) (q 5) (ca 1) ((L 1).length) (f 1))) hP hD [1, 2] [0, 3, 4, 5, 6, 7, 8, 9, 10, 11] rfl rfl (by decide) (by decide) hk1 hFc hP1 hD1
      generalize H1 = H at hP hS ⊢
      replace hP := hP.sub (ws' := (cx q ca C L f w d st tg hi mi go)) [0, 10, 11, 1, 2, 3, 4, 5, 6, 7, 8, 9] rfl
      replace hD := hD.sub (ws' := (cx q ca C L f w d st tg hi mi go)) [0, 10, 11, 1, 2, 3, 4, 5, 6, 7, 8, 9] (by decide) rfl
      subst hr9
      have hPc := hP.sub (ws' := (cx q ca C L f w d st tg hi mi go)) [0, 1, 2, 3, 4, 5, 6, 7, 8, 9, 10, 11] rfl
      have hDc := hD.sub (ws' := (cx q ca C L f w d st tg hi mi go)) [0, 1, 2, 3, 4, 5, 6, 7, 8, 9, 10, 11] (by decide) rfl
      have hKc := hK.sub (tys' := (kx ca)) [0, 1, 2, 3, 4, 5, 6] rfl
      have hFc := va_free (wc := (cx q ca C L f w d st tg hi mi go)) hD hS hA [0, 1, 2, 3, 4, 5, 6, 7, 8, 9, 10, 11] rfl
      refine va_callv (va_runV (As := [.int (ap_old (L 1))]) (rest := []) ⟨hx, hb, hml, hown, hts⟩ (c_X_pageGoes l dC dI q ca C L f w d st tg hi mi go (ap_old (L 1)) H.size hf hx64) (cwV 1 hts gX1_makeRoomForUnknown_X1_pageGoes rfl rfl rfl (by decide +kernel) ⟨Nat.le_of_ble_eq_true rfl, Nat.le_of_ble_eq_true rfl⟩) ⟨fun a U g mk q => by obtain ⟨q0, q1, qP, qK, qD⟩ := q; exact ⟨q0, q1, qP, va_K.moved (u := U) (U := U.calling g mk a) (Vm.Alike.refl U.vm) qK, qD⟩, va_recv hKc hPc (ci := 1) (q0 := 0) rfl rfl, fun U hU hW => ⟨rfl, by rw [hU], by rw [hU]; exact hPc, va_K.moved hW.alike hKc, hDc.weaken (fun _ _ _ _ => trivial)⟩⟩ rfl rfl hl.1 rfl (lv_room (Nat.le_of_ble_eq_true rfl)) dX1_makeRoomForUnknown_64 ⟨Nat.le_of_ble_eq_true rfl, Nat.le_of_ble_eq_true rfl⟩) hS (fun q _ h => hFc q h) hFc (fun u t H1 locs ht hvm hw hB hz1 hk1 hS => ?_)
      obtain ⟨L1, w1, d1, st1, tg1, hi1, mi1, go1⟩ := u
      obtain ⟨f1, hf1, hP1, hK1, hD1⟩ := hB
      rw [ht] at hP1
      cases hw
      obtain ⟨f_15, ef_15⟩ : ∃ z, z = f1 := ⟨_, rfl⟩
      rw [← ef_15] at hf1 hP1 hD1
      clear ef_15 f1
      have hfx_16 := hf1
      obtain ⟨hP, hD⟩ := va_join (wr := []) (w1 := (cx q ca C L f_15 w (ap_cd d (ap_old (L 1))) (ap_cs w d st (ap_old (L 1))) tg hi mi (go + 1))) hP hD [0, 1, 2, 3, 4, 5, 6, 7, 8, 9, 10, 11] [] rfl rfl (by decide) (by decide) hk1 hFc hP1 hD1
      generalize H1 = H at hP hS ⊢
      replace hP : va_P (dC, dI) vwCl (cx q ca C L f_15 w (ap_cd d (ap_old (L 1))) (ap_cs w d st (ap_old (L 1))) tg hi mi (go + 1)) H := hP
      replace hD : va_D A (cx q ca C L f_15 w (ap_cd d (ap_old (L 1))) (ap_cs w d st (ap_old (L 1))) tg hi mi (go + 1)) := hD
      refine lv_aload_n hx hb dX1_makeRoomForUnknown_67 rfl (lv_at hl 2 rfl) ?_
      refine va_get (D := (dC, dI)) (ci := 1) (v := .ref (q 1)) (C := RX1) (T := TX1) (N := 12) hx hb hts hwX1 hown hK hP 0 rfl rfl 1 (by decide) (hts (.fieldLink RX1 10 "ArcCache" "cameOnce" "LArcCache$AddressList;") (by decide +kernel)) (fun _ h9 => h9) rfl dX1_makeRoomForUnknown_68 ?_
      have hPc := hP.sub (ws' := (cal (q 1) (q 5) (ca 1) ((L 1).length) (f_15 1))) [1, 2] rfl
      have hDc := hD.sub (ws' := (cal (q 1) (q 5) (ca 1) ((L 1).length) (f_15 1))) [1, 2] (by decide) rfl
      have hKc := hK.sub (tys' := (kal (ca 1))) [0] rfl
      have hFc := va_free (wc := (cal (q 1) (q 5) (ca 1) ((L 1).length) (f_15 1))) hD hS hA [1, 2] rfl
      refine va_callv (va_runV (As := []) (rest := []) ⟨hx, hb, hml, hown, hts⟩ (c_A_dropOldest l dC dI (q 1) (q 5) (ca 1) (L 1) (f_15 1) H.size (Nat.le_trans z1 (by decide)) (hfx_16 1 (by decide) (by decide)) (hI.1 1)) (cwV 0 hts gX1_makeRoomForUnknown_X0_dropOldest rfl rfl rfl (by decide +kernel) ⟨Nat.le_of_ble_eq_true rfl, Nat.le_of_ble_eq_true rfl⟩) ⟨fun a U g mk q => by obtain ⟨q0, q1, qP, qK, qD⟩ := q; exact ⟨q0, q1, qP, va_K.moved (u := U) (U := U.calling g mk a) (Vm.Alike.refl U.vm) qK, qD⟩, va_recv hKc hPc (ci := 0) (q0 := 0) rfl rfl, fun U hU hW => ⟨rfl, by rw [hU], by rw [hU]; exact hPc, va_K.moved hW.alike hKc, hDc.weaken (fun _ _ _ _ => trivial)⟩⟩ rfl rfl hl.1 rfl (lv_room (Nat.le_of_ble_eq_true rfl)) dX1_makeRoomForUnknown_71 ⟨Nat.le_of_ble_eq_true rfl, Nat.le_of_ble_eq_true rfl⟩) hS (fun q _ h => hFc q h) hFc (fun u t H1 locs ht hvm hw hB hz1 hk1 hS => ?_)
      obtain ⟨n1, f1⟩ := u
      obtain ⟨hP1, hK1, hD1⟩ := hB
      rw [ht] at hP1
      try dsimp only at hw hP1 hD1
      obtain ⟨hn9, hf9⟩ := hw
      subst hn9
      obtain ⟨f_17, ef_17⟩ : ∃ z, z = f1 := ⟨_, rfl⟩
      rw [← ef_17] at hf9 hP1 hD1
      clear ef_17 f1
      have hfx_18 := fx_up (k := 1) hfx_16 hf9
      obtain ⟨hP, hD⟩ := va_join (wr := [(q 0, .inr (1, [.int (nI C), .ref (q 1), .ref (q 2), .ref (q 3), .ref (q 4), .ref (q 9), .ref (q 10), .ref (q 11), .int (nI tg), .int hi, .int mi, .int (go + 1)])), (q 2, .inr (0, [.ref (q 6), .int (nI ((L 2).length))])), (q 6, .inl (ca 2, 64, .inl (f_15 2))), (q 3, .inr (0, [.ref (q 7), .int (nI ((L 3).length))])), (q 7, .inl (ca 3, 64, .inl (f_15 3))), (q 4, .inr (0, [.ref (q 8), .int (nI ((L 4).length))])), (q 8, .inl (ca 4, 64, .inl (f_15 4))), (q 9, .inl (ca 5, 64, .inl w)), (q 10, .inl (ca 6, 64, .inl (ap_cd d (ap_old (L 1))))), (q 11, .inl (ca 7, 64, .inl (ap_cs w d st (ap_old (L 1)))))]) (w1 := (cal (q 1) (q 5) (ca 1) ((ap_rm (ap_old (L 1)) (L 1)).length) f_17)) hP hD [1, 2] [0, 3, 4, 5, 6, 7, 8, 9, 10, 11] rfl rfl (by decide) (by decide) hk1 hFc hP1 hD1
      generalize H1 = H at hP hS ⊢
      replace hP := hP.sub (ws' := (cx q ca C (va_up L 1 (ap_rm (ap_old (L 1)) (L 1))) (va_up f_15 1 f_17) w (ap_cd d (ap_old (L 1))) (ap_cs w d st (ap_old (L 1))) tg hi mi (go + 1))) [0, 10, 11, 1, 2, 3, 4, 5, 6, 7, 8, 9] rfl
      replace hD := hD.sub (ws' := (cx q ca C (va_up L 1 (ap_rm (ap_old (L 1)) (L 1))) (va_up f_15 1 f_17) w (ap_cd d (ap_old (L 1))) (ap_cs w d st (ap_old (L 1))) tg hi mi (go + 1))) [0, 10, 11, 1, 2, 3, 4, 5, 6, 7, 8, 9] (by decide) rfl
      refine lv_goto (tgt := 130) hx hb dX1_makeRoomForUnknown_74 (by decide) ?_
      exact W.vret hx hb hr (fun t ht hW => ⟨⟨(ap_dr L 1, w, ap_cd d (ap_old (L 1)), ap_cs w d st (ap_old (L 1)), tg, hi, mi, go + 1), rfl, hfin9, va_up f_15 1 f_17, hfx_18, by rw [ht]; exact hP, va_K.moved hW.alike hK, hD⟩, hS.F ht⟩) hS.2.2 dX1_makeRoomForUnknown_130
end
section
-- THE CLASS, fourth part (laid by wip/gen/xx4.py)
theorem ap_rq_hit {C : Nat} {a : Int32} {L : Nat → List Int32} {w d st : Nat → Int32} {t : Nat} {hi mi go : Int32} (h : ap_wl L a = 1 ∨ ap_wl L a = 2) : ap_rq C a (L, w, d, st, t, hi, mi, go) = (ap_mv L a (ap_wl L a) 2, w, d, st, t, hi + 1, mi, go) := by
  unfold ap_rq
  dsimp only
  rw [if_pos h]
theorem ap_rq_new {C : Nat} {a : Int32} {L : Nat → List Int32} {w d st : Nat → Int32} {t : Nat} {hi mi go : Int32} (h : ap_wl L a = 0) : ap_rq C a (L, w, d, st, t, hi, mi, go) = (va_up (ap_un w C t a (L, d, st, go)).1 1 (a :: (ap_un w C t a (L, d, st, go)).1 1), upd w a.toNatClampNeg ((ap_un w C t a (L, d, st, go)).2.2.1 a.toNatClampNeg), upd (ap_un w C t a (L, d, st, go)).2.1 a.toNatClampNeg 0, (ap_un w C t a (L, d, st, go)).2.2.1, t, hi, mi + 1, (ap_un w C t a (L, d, st, go)).2.2.2) := by
  unfold ap_rq
  dsimp only
  rw [if_neg (by omega), if_pos h]
theorem ap_rq_old {C : Nat} {a : Int32} {L : Nat → List Int32} {w d st : Nat → Int32} {t : Nat} {hi mi go : Int32} {k : Nat} (hk : ap_wl L a = k) (h : k = 3 ∨ k = 4) : ap_rq C a (L, w, d, st, t, hi, mi, go) = (ap_mv (ap_mk w (ap_tg L C t k) a (L, d, st, go)).1 a k 2, upd w a.toNatClampNeg ((ap_mk w (ap_tg L C t k) a (L, d, st, go)).2.2.1 a.toNatClampNeg), upd (ap_mk w (ap_tg L C t k) a (L, d, st, go)).2.1 a.toNatClampNeg 0, (ap_mk w (ap_tg L C t k) a (L, d, st, go)).2.2.1, ap_tg L C t k, hi, mi + 1, (ap_mk w (ap_tg L C t k) a (L, d, st, go)).2.2.2) := by
  subst hk
  unfold ap_rq
  dsimp only
  rw [if_neg (by omega), if_neg (by omega)]
theorem ap_tot_mk {w : Nat → Int32} {t : Nat} {a : Int32} {S : ap_T} (hI : ap_inv S.1) : ap_tot (ap_mk w t a S).1 = ap_tot S.1 := by
  obtain ⟨f1, f2, f3, f4, f5⟩ := ap_mk_facts (w := w) (t := t) (a := a) hI
  unfold ap_tot
  omega
def ap_rd (C : Nat) (x : Int32) (u : ap_U) : Int32 × ap_U := if x < 0 ∨ nI 64 ≤ x then (0, u) else ((ap_rq C x u).2.1 x.toNatClampNeg, ap_rq C x u)
def ap_pw (x y : Int32) (u : ap_U) : ap_U := (u.1, upd u.2.1 x.toNatClampNeg y, upd u.2.2.1 x.toNatClampNeg 1, u.2.2.2)
def ap_wr (C : Nat) (x y : Int32) (u : ap_U) : Int32 × ap_U := if x < 0 ∨ nI 64 ≤ x then (0, u) else (1, ap_pw x y (ap_rq C x u))
theorem ap_eta (u : ap_U) : u = (u.1, u.2.1, u.2.2.1, u.2.2.2.1, u.2.2.2.2.1, u.2.2.2.2.2.1, u.2.2.2.2.2.2.1, u.2.2.2.2.2.2.2) := rfl
abbrev ap_D : Type := (Nat → Int32) × (Nat → Int32) × Int32
def ap_f1 (w : Nat → Int32) (i : Nat) (D : ap_D) : ap_D := (ap_cd D.1 (nI i), ap_cs w D.1 D.2.1 (nI i), if D.1 i = 0 then D.2.2 else D.2.2 + 1)
def ap_fl (w : Nat → Int32) (D : ap_D) : Nat → ap_D
  | 0 => D
  | i + 1 => ap_f1 w i (ap_fl w D i)
theorem ap_f1_0 {w : Nat → Int32} {i : Nat} {D : ap_D} (hi : i < 64) (h : D.1 i = 0) : ap_f1 w i D = D := by
  have h' : D.1 (nI i).toNatClampNeg = 0 := by rw [nI_clamp (by omega)]; exact h
  unfold ap_f1
  rw [ap_cd_0 h', ap_cs_0 h', if_pos h]
theorem ap_f1_1 {w : Nat → Int32} {i : Nat} {D : ap_D} (hi : i < 64) (h : ¬ D.1 i = 0) : ap_f1 w i D = (upd D.1 i 0, upd D.2.1 i (w i), D.2.2 + 1) := by
  have h' : ¬ D.1 (nI i).toNatClampNeg = 0 := by rw [nI_clamp (by omega)]; exact h
  unfold ap_f1
  rw [ap_cs_1 h', if_neg h]
  unfold ap_cd
  rw [nI_clamp (by omega)]
def ap_z (i : Nat) (f : Nat → Int32) : Nat → Int32 := fun j => if j < i then 0 else f j
theorem ap_z_0 {f : Nat → Int32} : ap_z 0 f = f := by
  funext j
  unfold ap_z
  rw [if_neg (Nat.not_lt_zero j)]
theorem ap_z_s {f : Nat → Int32} {i : Nat} : upd (ap_z i f) i 0 = ap_z (i + 1) f := by
  funext j
  by_cases e : j = i
  · subst e
    rw [pk_us]
    unfold ap_z
    rw [if_pos (by omega)]
  · rw [pk_un e]
    unfold ap_z
    by_cases h : j < i
    · rw [if_pos h, if_pos (by omega)]
    · rw [if_neg h, if_neg (by omega)]
set_option maxHeartbeats 4000000 in
set_option maxRecDepth 100000 in
theorem c_X_request (l : Launch) (dC : Nat → ClassId) (dI : Nat → Nat → Nat) (q : Nat → Nat) (ca : Nat → ClassId) (C : Nat) (L : Nat → List Int32) (f : Nat → Nat → Int32) (w d st : Nat → Int32) (tg : Nat) (hi mi go : Int32) (x : Int32) (sz : Nat) (hf : fx_ok f L) (hok : ap_ok C tg L) (hx64 : vp_in x 64) : Met l yX1_request wsX1_request ({ frames := 5, cells := 0, slots := 0, locals := 151 }) (va_Pc [.ref (q 0), .int x] (fun U => U.heap.size = sz ∧ va_P (dC, dI) vwCl (cx q ca C L f w d st tg hi mi go) U.heap ∧ va_K (dC, dI) vwCl (kx ca) U ∧ va_D (fun _ => True) (cx q ca C L f w d st tg hi mi go) ∧ va_Nw (.methodLinkNest RX0 23 yX1_isAddress "ArcCache") U)) (va_Qv (fun (u : ap_U) => u = ap_rq C x (L, w, d, st, tg, hi, mi, go)) (at_X dC dI (va_A (cx q ca C L f w d st tg hi mi go) sz) q ca C) (va_A (cx q ca C L f w d st tg hi mi go) sz)) 0 0 (va_A (cx q ca C L f w d st tg hi mi go) sz) := by
  refine Met.ofW (cc := cX1_request) (maxL := 3) (ret := none) (by decide) rfl ?_
  intro p e s m args below meth c s₁ B hml hv
  obtain ⟨rfl, hsz, hP, hK, hD0, hN⟩ := hv
  have hx := B.exec
  have hb := B.bytes
  have hr := B.returns
  have hts := atoms_spec (ws := wsX1_request) B.pre
  have hown : s.vm.findClass RX1 = some m.cls := findClass_of_methodNamed B.named
  have hlocks := B.notSynchronized
  have hwX1 : ∀ w ∈ u_ws RX1 TX1 12, w ∈ wsX1_request := by decide +kernel
  subst hsz
  have hD := hD0.self (sz := s.heap.size)
  generalize hAe : va_A (cx q ca C L f w d st tg hi mi go) s.heap.size = A at hD ⊢
  have hA : ∀ q : Nat, s.heap.size ≤ q → A q := fun q h => by rw [← hAe]; exact Or.inr h
  have hS0 : ∀ H, s.heap = H → va_S A s.heap H [] := fun H h => by subst h; exact va_S.rf
  have hl := lv_entry ([.ref (q 0), .int x]) (n := 3) (Nat.le_of_ble_eq_true rfl)
  rw [lg_entry_eq]
  generalize (lg_sl ([.ref (q 0), .int x]) ++ List.replicate (3 - (lg_sl ([.ref (q 0), .int x])).length) Slot.unset).toArray = ls at hl ⊢
  have hl : lv_has ls 3 [(0, .ref (q 0)), (1, .int x)] := hl
  generalize hHe : s.heap = H at hP ⊢
  have hS := hS0 H hHe
  obtain ⟨hI, hC1, hC, htg, hs1, hs2, hs3⟩ := id hok
  have hz : ap_tot L ≤ 48 := by omega
  have z1 : (L 1).length ≤ 48 := by unfold ap_tot at hz; omega
  have z2 : (L 2).length ≤ 48 := by unfold ap_tot at hz; omega
  have z3 : (L 3).length ≤ 48 := by unfold ap_tot at hz; omega
  have z4 : (L 4).length ≤ 48 := by unfold ap_tot at hz; omega
  have hwle9 := ap_wl_le L x
  refine lv_aload_n hx hb dX1_request_0 rfl (lv_at hl 0 rfl) ?_
  refine lv_iload_n hx hb dX1_request_1 rfl (lv_at hl 1 rfl) ?_
  have hPc := hP.sub (ws' := (cx q ca C L f w d st tg hi mi go)) [0, 1, 2, 3, 4, 5, 6, 7, 8, 9, 10, 11] rfl
  have hDc := hD.sub (ws' := (cx q ca C L f w d st tg hi mi go)) [0, 1, 2, 3, 4, 5, 6, 7, 8, 9, 10, 11] (by decide) rfl
  have hKc := hK.sub (tys' := (kx ca)) [0, 1, 2, 3, 4, 5, 6] rfl
  have hFc := va_free (wc := (cx q ca C L f w d st tg hi mi go)) hD hS hA [0, 1, 2, 3, 4, 5, 6, 7, 8, 9, 10, 11] rfl
  refine va_calli (va_runV (As := [.int x]) (rest := []) ⟨hx, hb, hml, hown, hts⟩ (c_X_whichList l dC dI q ca C L f w d st tg hi mi go x H.size hf hI hz) (cwV 1 hts gX1_request_X1_whichList rfl rfl rfl (by decide +kernel) ⟨Nat.le_of_ble_eq_true rfl, Nat.le_of_ble_eq_true rfl⟩) ⟨fun a U g mk q => by obtain ⟨q0, q1, qP, qK, qD⟩ := q; exact ⟨q0, q1, qP, va_K.moved (u := U) (U := U.calling g mk a) (Vm.Alike.refl U.vm) qK, qD⟩, va_recv hKc hPc (ci := 1) (q0 := 0) rfl rfl, fun U hU hW => ⟨rfl, by rw [hU], by rw [hU]; exact hPc, va_K.moved hW.alike hKc, hDc.weaken (fun _ _ _ _ => trivial)⟩⟩ rfl rfl hl.1 rfl (lv_room (Nat.le_of_ble_eq_true rfl)) dX1_request_2 ⟨Nat.le_of_ble_eq_true rfl, Nat.le_of_ble_eq_true rfl⟩) hS (fun q _ h => hFc q h) hFc (fun r u t H1 locs ht hvm hw hB hz1 hk1 hS => ?_)
  obtain ⟨L1, w1, d1, st1, tg1, hi1, mi1, go1⟩ := u
  obtain ⟨f1, hf1, hP1, hK1, hD1⟩ := hB
  rw [ht] at hP1
  obtain ⟨hr9, hu9⟩ := hw
  subst hr9
  cases hu9
  obtain ⟨f_1, ef_1⟩ : ∃ z, z = f1 := ⟨_, rfl⟩
  rw [← ef_1] at hf1 hP1 hD1
  clear ef_1 f1
  have hfx_2 := hf1
  obtain ⟨hP, hD⟩ := va_join (wr := []) (w1 := (cx q ca C L f_1 w d st tg hi mi go)) hP hD [0, 1, 2, 3, 4, 5, 6, 7, 8, 9, 10, 11] [] rfl rfl (by decide) (by decide) hk1 hFc hP1 hD1
  generalize H1 = H at hP hS ⊢
  replace hP : va_P (dC, dI) vwCl (cx q ca C L f_1 w d st tg hi mi go) H := hP
  replace hD : va_D A (cx q ca C L f_1 w d st tg hi mi go) := hD
  refine lv_istore_n (lv' := [(2, .int (nI (ap_wl L x))), (0, .ref (q 0)), (1, .int x)]) hx hb dX1_request_5 rfl hl (by decide) rfl (fun ls hl => ?_)
  refine lv_iload_n hx hb dX1_request_6 rfl (lv_at hl 0 rfl) ?_
  refine lv_iconst (v := nI 1) hx hb dX1_request_7 (by decide) ?_
  refine lv_icmp_eq (tgt := 16) hx hb dX1_request_8 (by decide) (fun c_8 => ?_) (fun c_8 => ?_)
  · skip
    replace c_8 : (ap_wl L x) = 1 := (nI_eq (a := ap_wl L x) (b := 1) (by omega) (by omega)).mp c_8
    have ek9 : ap_wl L x = 1 := by omega
    rw [ek9] at hl
    have hfin9 : (ap_mv L x 1 2, w, d, st, tg, hi + 1, mi, go) = ap_rq C x (L, w, d, st, tg, hi, mi, go) := by rw [ap_rq_hit (Or.inl ek9), ek9]
    refine lv_aload_n hx hb dX1_request_16 rfl (lv_at hl 1 rfl) ?_
    refine lv_dup hx hb dX1_request_17 rfl ?_
    refine va_get (D := (dC, dI)) (ci := 1) (v := .int hi) (C := RX1) (T := TX1) (N := 12) hx hb hts hwX1 hown hK hP 0 rfl rfl 9 (by decide) (hts (.fieldLink RX1 58 "ArcCache" "hitCount" "I") (by decide +kernel)) (fun _ h9 => h9) rfl dX1_request_18 ?_
    refine lv_iconst (v := nI 1) hx hb dX1_request_21 (by decide) ?_
    refine lv_iadd hx hb dX1_request_22 ?_
    refine va_put (D := (dC, dI)) (ci := 1) (v := .int (hi + (nI 1))) (ty := .int) (C := RX1) (T := TX1) (N := 12) hx hb hts hwX1 tyX1 tyX1_ok nmX1 hown hK hP hD hS 0 rfl rfl 9 (by decide) (hts (.fieldLink RX1 58 "ArcCache" "hitCount" "I") (by decide +kernel)) (fun _ h9 => h9) rfl (by decide +kernel) rfl rfl (Nat.le_of_ble_eq_true rfl) dX1_request_23 (fun H locs hP hD hS => ?_)
    replace hP : va_P (dC, dI) vwCl (cx q ca C L f_1 w d st tg (hi + (nI 1)) mi go) H := hP
    replace hD : va_D A (cx q ca C L f_1 w d st tg (hi + (nI 1)) mi go) := hD
    refine lv_aload_n hx hb dX1_request_26 rfl (lv_at hl 1 rfl) ?_
    refine lv_iload_n hx hb dX1_request_27 rfl (lv_at hl 2 rfl) ?_
    refine lv_iload_n hx hb dX1_request_28 rfl (lv_at hl 0 rfl) ?_
    have hPc := hP.sub (ws' := (cx q ca C L f_1 w d st tg (hi + (nI 1)) mi go)) [0, 1, 2, 3, 4, 5, 6, 7, 8, 9, 10, 11] rfl
    have hDc := hD.sub (ws' := (cx q ca C L f_1 w d st tg (hi + (nI 1)) mi go)) [0, 1, 2, 3, 4, 5, 6, 7, 8, 9, 10, 11] (by decide) rfl
    have hKc := hK.sub (tys' := (kx ca)) [0, 1, 2, 3, 4, 5, 6] rfl
    have hFc := va_free (wc := (cx q ca C L f_1 w d st tg (hi + (nI 1)) mi go)) hD hS hA [0, 1, 2, 3, 4, 5, 6, 7, 8, 9, 10, 11] rfl
    refine va_callv (va_runV (As := [.int x, .int (nI 1)]) (rest := []) ⟨hx, hb, hml, hown, hts⟩ (c_X_move1 l dC dI q ca C L f_1 w d st tg (hi + (nI 1)) mi go x H.size hfx_2 hI hz hx64) (cwV 2 hts gX1_request_X1_moveToCameAgain rfl rfl rfl (by decide +kernel) ⟨Nat.le_of_ble_eq_true rfl, Nat.le_of_ble_eq_true rfl⟩) ⟨fun a U g mk q => by obtain ⟨q0, q1, qP, qK, qD, qN⟩ := q; exact ⟨q0, q1, qP, va_K.moved (u := U) (U := U.calling g mk a) (Vm.Alike.refl U.vm) qK, qD, va_tabs rfl (rfl : U.vm = (U.calling g mk a).vm) qN⟩, va_recv hKc hPc (ci := 1) (q0 := 0) rfl rfl, fun U hU hW => ⟨rfl, by rw [hU], by rw [hU]; exact hPc, va_K.moved hW.alike hKc, hDc.weaken (fun _ _ _ _ => trivial), va_Nw.warmM hW hN⟩⟩ rfl rfl hl.1 rfl (lv_room (Nat.le_of_ble_eq_true rfl)) dX1_request_29 ⟨Nat.le_of_ble_eq_true rfl, Nat.le_of_ble_eq_true rfl⟩) hS (fun q _ h => hFc q h) hFc (fun u t H1 locs ht hvm hw hB hz1 hk1 hS => ?_)
    obtain ⟨L1, w1, d1, st1, tg1, hi1, mi1, go1⟩ := u
    obtain ⟨f1, hf1, hP1, hK1, hD1⟩ := hB
    rw [ht] at hP1
    cases hw
    obtain ⟨f_3, ef_3⟩ : ∃ z, z = f1 := ⟨_, rfl⟩
    rw [← ef_3] at hf1 hP1 hD1
    clear ef_3 f1
    have hfx_4 := hf1
    obtain ⟨hP, hD⟩ := va_join (wr := []) (w1 := (cx q ca C (ap_mv L x 1 2) f_3 w d st tg (hi + (nI 1)) mi go)) hP hD [0, 1, 2, 3, 4, 5, 6, 7, 8, 9, 10, 11] [] rfl rfl (by decide) (by decide) hk1 hFc hP1 hD1
    generalize H1 = H at hP hS ⊢
    replace hP : va_P (dC, dI) vwCl (cx q ca C (ap_mv L x 1 2) f_3 w d st tg (hi + (nI 1)) mi go) H := hP
    replace hD : va_D A (cx q ca C (ap_mv L x 1 2) f_3 w d st tg (hi + (nI 1)) mi go) := hD
    exact W.vret hx hb hr (fun t ht hW => ⟨⟨(ap_mv L x 1 2, w, d, st, tg, hi + 1, mi, go), rfl, hfin9, f_3, hfx_4, by rw [ht]; exact hP, va_K.moved hW.alike hK, hD⟩, hS.F ht⟩) hS.2.2 dX1_request_32
  · skip
    replace c_8 : ¬ ((ap_wl L x) = 1) := fun h9 => c_8 ((nI_eq (a := ap_wl L x) (b := 1) (by omega) (by omega)).mpr h9)
    refine lv_iload_n hx hb dX1_request_11 rfl (lv_at hl 0 rfl) ?_
    refine lv_iconst (v := nI 2) hx hb dX1_request_12 (by decide) ?_
    refine lv_icmp_ne (tgt := 33) hx hb dX1_request_13 (by decide) (fun c_13 => ?_) (fun c_13 => ?_)
    · skip
      replace c_13 : ¬ ((ap_wl L x) = 2) := fun h9 => c_13 ((nI_eq (a := ap_wl L x) (b := 2) (by omega) (by omega)).mpr h9)
      refine lv_aload_n hx hb dX1_request_33 rfl (lv_at hl 1 rfl) ?_
      refine lv_dup hx hb dX1_request_34 rfl ?_
      refine va_get (D := (dC, dI)) (ci := 1) (v := .int mi) (C := RX1) (T := TX1) (N := 12) hx hb hts hwX1 hown hK hP 0 rfl rfl 10 (by decide) (hts (.fieldLink RX1 61 "ArcCache" "missCount" "I") (by decide +kernel)) (fun _ h9 => h9) rfl dX1_request_35 ?_
      refine lv_iconst (v := nI 1) hx hb dX1_request_38 (by decide) ?_
      refine lv_iadd hx hb dX1_request_39 ?_
      refine va_put (D := (dC, dI)) (ci := 1) (v := .int (mi + (nI 1))) (ty := .int) (C := RX1) (T := TX1) (N := 12) hx hb hts hwX1 tyX1 tyX1_ok nmX1 hown hK hP hD hS 0 rfl rfl 10 (by decide) (hts (.fieldLink RX1 61 "ArcCache" "missCount" "I") (by decide +kernel)) (fun _ h9 => h9) rfl (by decide +kernel) rfl rfl (Nat.le_of_ble_eq_true rfl) dX1_request_40 (fun H locs hP hD hS => ?_)
      replace hP : va_P (dC, dI) vwCl (cx q ca C L f_1 w d st tg hi (mi + (nI 1)) go) H := hP
      replace hD : va_D A (cx q ca C L f_1 w d st tg hi (mi + (nI 1)) go) := hD
      refine lv_iload_n hx hb dX1_request_43 rfl (lv_at hl 0 rfl) ?_
      refine lv_if_ne (tgt := 63) hx hb dX1_request_44 (by decide) (fun c_44 => ?_) (fun c_44 => ?_)
      · skip
        replace c_44 : ¬ ((ap_wl L x) = 0) := fun h9 => c_44 ((nI_eq (a := ap_wl L x) (b := 0) (by omega) (by omega)).mpr h9)
        refine lv_aload_n hx hb dX1_request_63 rfl (lv_at hl 1 rfl) ?_
        refine lv_iload_n hx hb dX1_request_64 rfl (lv_at hl 0 rfl) ?_
        have h349 : ap_wl L x = 3 ∨ ap_wl L x = 4 := by omega
        rcases h349 with ek9 | ek9
        · rw [ek9] at hl
          rw [ek9]
          have hfin9 : (ap_mv (ap_mk w (ap_tg L C tg 3) x (L, d, st, go)).1 x 3 2, upd w x.toNatClampNeg ((ap_mk w (ap_tg L C tg 3) x (L, d, st, go)).2.2.1 x.toNatClampNeg), upd (ap_mk w (ap_tg L C tg 3) x (L, d, st, go)).2.1 x.toNatClampNeg 0, (ap_mk w (ap_tg L C tg 3) x (L, d, st, go)).2.2.1, ap_tg L C tg 3, hi, mi + 1, (ap_mk w (ap_tg L C tg 3) x (L, d, st, go)).2.2.2) = ap_rq C x (L, w, d, st, tg, hi, mi, go) := by rw [ap_rq_old ek9 (Or.inl rfl)]
          have htgle9 : ap_tg L C tg 3 ≤ C := ap_tg_le htg
          have hmki9 : ap_inv (ap_mk w (ap_tg L C tg 3) x (L, d, st, go)).1 := (ap_mk_facts (w := w) (t := ap_tg L C tg 3) (a := x) (S := (L, d, st, go)) hI).1
          have hmkz9 : ap_tot (ap_mk w (ap_tg L C tg 3) x (L, d, st, go)).1 ≤ 48 := by rw [ap_tot_mk (S := (L, d, st, go)) hI]; exact hz
          have hPc := hP.sub (ws' := (cx q ca C L f_1 w d st tg hi (mi + (nI 1)) go)) [0, 1, 2, 3, 4, 5, 6, 7, 8, 9, 10, 11] rfl
          have hDc := hD.sub (ws' := (cx q ca C L f_1 w d st tg hi (mi + (nI 1)) go)) [0, 1, 2, 3, 4, 5, 6, 7, 8, 9, 10, 11] (by decide) rfl
          have hKc := hK.sub (tys' := (kx ca)) [0, 1, 2, 3, 4, 5, 6] rfl
          have hFc := va_free (wc := (cx q ca C L f_1 w d st tg hi (mi + (nI 1)) go)) hD hS hA [0, 1, 2, 3, 4, 5, 6, 7, 8, 9, 10, 11] rfl
          refine va_callv (va_runV (As := [.int (nI 3)]) (rest := []) ⟨hx, hb, hml, hown, hts⟩ (c_X_tgt3 l dC dI q ca C L f_1 w d st tg hi (mi + (nI 1)) go H.size hfx_2 hI hz htg hC) (cwV 1 hts gX1_request_X1_moveTarget rfl rfl rfl (by decide +kernel) ⟨Nat.le_of_ble_eq_true rfl, Nat.le_of_ble_eq_true rfl⟩) ⟨fun a U g mk q => by obtain ⟨q0, q1, qP, qK, qD⟩ := q; exact ⟨q0, q1, qP, va_K.moved (u := U) (U := U.calling g mk a) (Vm.Alike.refl U.vm) qK, qD⟩, va_recv hKc hPc (ci := 1) (q0 := 0) rfl rfl, fun U hU hW => ⟨rfl, by rw [hU], by rw [hU]; exact hPc, va_K.moved hW.alike hKc, hDc.weaken (fun _ _ _ _ => trivial)⟩⟩ rfl rfl hl.1 rfl (lv_room (Nat.le_of_ble_eq_true rfl)) dX1_request_65 ⟨Nat.le_of_ble_eq_true rfl, Nat.le_of_ble_eq_true rfl⟩) hS (fun q _ h => hFc q h) hFc (fun u t H1 locs ht hvm hw hB hz1 hk1 hS => ?_)
          obtain ⟨L1, w1, d1, st1, tg1, hi1, mi1, go1⟩ := u
          obtain ⟨f1, hf1, hP1, hK1, hD1⟩ := hB
          rw [ht] at hP1
          cases hw
          obtain ⟨f_5, ef_5⟩ : ∃ z, z = f1 := ⟨_, rfl⟩
          rw [← ef_5] at hf1 hP1 hD1
          clear ef_5 f1
          have hfx_6 := hf1
          obtain ⟨hP, hD⟩ := va_join (wr := []) (w1 := (cx q ca C L f_5 w d st (ap_tg L C tg 3) hi (mi + (nI 1)) go)) hP hD [0, 1, 2, 3, 4, 5, 6, 7, 8, 9, 10, 11] [] rfl rfl (by decide) (by decide) hk1 hFc hP1 hD1
          generalize H1 = H at hP hS ⊢
          replace hP : va_P (dC, dI) vwCl (cx q ca C L f_5 w d st (ap_tg L C tg 3) hi (mi + (nI 1)) go) H := hP
          replace hD : va_D A (cx q ca C L f_5 w d st (ap_tg L C tg 3) hi (mi + (nI 1)) go) := hD
          refine lv_aload_n hx hb dX1_request_68 rfl (lv_at hl 1 rfl) ?_
          refine lv_iload_n hx hb dX1_request_69 rfl (lv_at hl 2 rfl) ?_
          have hPc := hP.sub (ws' := (cx q ca C L f_5 w d st (ap_tg L C tg 3) hi (mi + (nI 1)) go)) [0, 1, 2, 3, 4, 5, 6, 7, 8, 9, 10, 11] rfl
          have hDc := hD.sub (ws' := (cx q ca C L f_5 w d st (ap_tg L C tg 3) hi (mi + (nI 1)) go)) [0, 1, 2, 3, 4, 5, 6, 7, 8, 9, 10, 11] (by decide) rfl
          have hKc := hK.sub (tys' := (kx ca)) [0, 1, 2, 3, 4, 5, 6] rfl
          have hFc := va_free (wc := (cx q ca C L f_5 w d st (ap_tg L C tg 3) hi (mi + (nI 1)) go)) hD hS hA [0, 1, 2, 3, 4, 5, 6, 7, 8, 9, 10, 11] rfl
          refine va_callv (va_runV (As := [.int x]) (rest := []) ⟨hx, hb, hml, hown, hts⟩ (c_X_makeRoom l dC dI q ca C L f_5 w d st (ap_tg L C tg 3) hi (mi + (nI 1)) go x H.size hfx_6 hI hz (by omega)) (cwV 1 hts gX1_request_X1_makeRoom rfl rfl rfl (by decide +kernel) ⟨Nat.le_of_ble_eq_true rfl, Nat.le_of_ble_eq_true rfl⟩) ⟨fun a U g mk q => by obtain ⟨q0, q1, qP, qK, qD, qN⟩ := q; exact ⟨q0, q1, qP, va_K.moved (u := U) (U := U.calling g mk a) (Vm.Alike.refl U.vm) qK, qD, va_tabs rfl (rfl : U.vm = (U.calling g mk a).vm) qN⟩, va_recv hKc hPc (ci := 1) (q0 := 0) rfl rfl, fun U hU hW => ⟨rfl, by rw [hU], by rw [hU]; exact hPc, va_K.moved hW.alike hKc, hDc.weaken (fun _ _ _ _ => trivial), va_Nw.warmM hW hN⟩⟩ rfl rfl hl.1 rfl (lv_room (Nat.le_of_ble_eq_true rfl)) dX1_request_70 ⟨Nat.le_of_ble_eq_true rfl, Nat.le_of_ble_eq_true rfl⟩) hS (fun q _ h => hFc q h) hFc (fun u t H1 locs ht hvm hw hB hz1 hk1 hS => ?_)
          obtain ⟨L1, w1, d1, st1, tg1, hi1, mi1, go1⟩ := u
          obtain ⟨f1, hf1, hP1, hK1, hD1⟩ := hB
          rw [ht] at hP1
          obtain ⟨f_7, ef_7⟩ : ∃ z, z = f1 := ⟨_, rfl⟩
          rw [← ef_7] at hf1 hP1 hD1
          clear ef_7 f1
          replace hw := hw.symm
          simp only [ap_tu, Prod.mk.injEq] at hw
          obtain ⟨rfl, rfl, rfl, rfl, rfl, rfl, rfl, rfl⟩ := hw
          have hfx_8 := hf1
          obtain ⟨hP, hD⟩ := va_join (wr := []) (w1 := (cx q ca C ((ap_mk w (ap_tg L C tg 3) x (L, d, st, go)).1) f_7 w ((ap_mk w (ap_tg L C tg 3) x (L, d, st, go)).2.1) ((ap_mk w (ap_tg L C tg 3) x (L, d, st, go)).2.2.1) (ap_tg L C tg 3) hi (mi + (nI 1)) ((ap_mk w (ap_tg L C tg 3) x (L, d, st, go)).2.2.2))) hP hD [0, 1, 2, 3, 4, 5, 6, 7, 8, 9, 10, 11] [] rfl rfl (by decide) (by decide) hk1 hFc hP1 hD1
          generalize H1 = H at hP hS ⊢
          replace hP : va_P (dC, dI) vwCl (cx q ca C ((ap_mk w (ap_tg L C tg 3) x (L, d, st, go)).1) f_7 w ((ap_mk w (ap_tg L C tg 3) x (L, d, st, go)).2.1) ((ap_mk w (ap_tg L C tg 3) x (L, d, st, go)).2.2.1) (ap_tg L C tg 3) hi (mi + (nI 1)) ((ap_mk w (ap_tg L C tg 3) x (L, d, st, go)).2.2.2)) H := hP
          replace hD : va_D A (cx q ca C ((ap_mk w (ap_tg L C tg 3) x (L, d, st, go)).1) f_7 w ((ap_mk w (ap_tg L C tg 3) x (L, d, st, go)).2.1) ((ap_mk w (ap_tg L C tg 3) x (L, d, st, go)).2.2.1) (ap_tg L C tg 3) hi (mi + (nI 1)) ((ap_mk w (ap_tg L C tg 3) x (L, d, st, go)).2.2.2)) := hD
          refine lv_aload_n hx hb dX1_request_73 rfl (lv_at hl 1 rfl) ?_
          refine lv_iload_n hx hb dX1_request_74 rfl (lv_at hl 2 rfl) ?_
          refine lv_iload_n hx hb dX1_request_75 rfl (lv_at hl 0 rfl) ?_
          have hPc := hP.sub (ws' := (cx q ca C ((ap_mk w (ap_tg L C tg 3) x (L, d, st, go)).1) f_7 w ((ap_mk w (ap_tg L C tg 3) x (L, d, st, go)).2.1) ((ap_mk w (ap_tg L C tg 3) x (L, d, st, go)).2.2.1) (ap_tg L C tg 3) hi (mi + (nI 1)) ((ap_mk w (ap_tg L C tg 3) x (L, d, st, go)).2.2.2))) [0, 1, 2, 3, 4, 5, 6, 7, 8, 9, 10, 11] rfl
          have hDc := hD.sub (ws' := (cx q ca C ((ap_mk w (ap_tg L C tg 3) x (L, d, st, go)).1) f_7 w ((ap_mk w (ap_tg L C tg 3) x (L, d, st, go)).2.1) ((ap_mk w (ap_tg L C tg 3) x (L, d, st, go)).2.2.1) (ap_tg L C tg 3) hi (mi + (nI 1)) ((ap_mk w (ap_tg L C tg 3) x (L, d, st, go)).2.2.2))) [0, 1, 2, 3, 4, 5, 6, 7, 8, 9, 10, 11] (by decide) rfl
          have hKc := hK.sub (tys' := (kx ca)) [0, 1, 2, 3, 4, 5, 6] rfl
          have hFc := va_free (wc := (cx q ca C ((ap_mk w (ap_tg L C tg 3) x (L, d, st, go)).1) f_7 w ((ap_mk w (ap_tg L C tg 3) x (L, d, st, go)).2.1) ((ap_mk w (ap_tg L C tg 3) x (L, d, st, go)).2.2.1) (ap_tg L C tg 3) hi (mi + (nI 1)) ((ap_mk w (ap_tg L C tg 3) x (L, d, st, go)).2.2.2))) hD hS hA [0, 1, 2, 3, 4, 5, 6, 7, 8, 9, 10, 11] rfl
          refine va_callv (va_runV (As := [.int x, .int (nI 3)]) (rest := []) ⟨hx, hb, hml, hown, hts⟩ (c_X_move3 l dC dI q ca C ((ap_mk w (ap_tg L C tg 3) x (L, d, st, go)).1) f_7 w ((ap_mk w (ap_tg L C tg 3) x (L, d, st, go)).2.1) ((ap_mk w (ap_tg L C tg 3) x (L, d, st, go)).2.2.1) (ap_tg L C tg 3) hi (mi + (nI 1)) ((ap_mk w (ap_tg L C tg 3) x (L, d, st, go)).2.2.2) x H.size hfx_8 hmki9 hmkz9 hx64) (cwV 2 hts gX1_request_X1_moveToCameAgain rfl rfl rfl (by decide +kernel) ⟨Nat.le_of_ble_eq_true rfl, Nat.le_of_ble_eq_true rfl⟩) ⟨fun a U g mk q => by obtain ⟨q0, q1, qP, qK, qD, qN⟩ := q; exact ⟨q0, q1, qP, va_K.moved (u := U) (U := U.calling g mk a) (Vm.Alike.refl U.vm) qK, qD, va_tabs rfl (rfl : U.vm = (U.calling g mk a).vm) qN⟩, va_recv hKc hPc (ci := 1) (q0 := 0) rfl rfl, fun U hU hW => ⟨rfl, by rw [hU], by rw [hU]; exact hPc, va_K.moved hW.alike hKc, hDc.weaken (fun _ _ _ _ => trivial), va_Nw.warmM hW hN⟩⟩ rfl rfl hl.1 rfl (lv_room (Nat.le_of_ble_eq_true rfl)) dX1_request_76 ⟨Nat.le_of_ble_eq_true rfl, Nat.le_of_ble_eq_true rfl⟩) hS (fun q _ h => hFc q h) hFc (fun u t H1 locs ht hvm hw hB hz1 hk1 hS => ?_)
          obtain ⟨L1, w1, d1, st1, tg1, hi1, mi1, go1⟩ := u
          obtain ⟨f1, hf1, hP1, hK1, hD1⟩ := hB
          rw [ht] at hP1
          cases hw
          obtain ⟨f_9, ef_9⟩ : ∃ z, z = f1 := ⟨_, rfl⟩
          rw [← ef_9] at hf1 hP1 hD1
          clear ef_9 f1
          have hfx_10 := hf1
          obtain ⟨hP, hD⟩ := va_join (wr := []) (w1 := (cx q ca C (ap_mv ((ap_mk w (ap_tg L C tg 3) x (L, d, st, go)).1) x 3 2) f_9 w ((ap_mk w (ap_tg L C tg 3) x (L, d, st, go)).2.1) ((ap_mk w (ap_tg L C tg 3) x (L, d, st, go)).2.2.1) (ap_tg L C tg 3) hi (mi + (nI 1)) ((ap_mk w (ap_tg L C tg 3) x (L, d, st, go)).2.2.2))) hP hD [0, 1, 2, 3, 4, 5, 6, 7, 8, 9, 10, 11] [] rfl rfl (by decide) (by decide) hk1 hFc hP1 hD1
          generalize H1 = H at hP hS ⊢
          replace hP : va_P (dC, dI) vwCl (cx q ca C (ap_mv ((ap_mk w (ap_tg L C tg 3) x (L, d, st, go)).1) x 3 2) f_9 w ((ap_mk w (ap_tg L C tg 3) x (L, d, st, go)).2.1) ((ap_mk w (ap_tg L C tg 3) x (L, d, st, go)).2.2.1) (ap_tg L C tg 3) hi (mi + (nI 1)) ((ap_mk w (ap_tg L C tg 3) x (L, d, st, go)).2.2.2)) H := hP
          replace hD : va_D A (cx q ca C (ap_mv ((ap_mk w (ap_tg L C tg 3) x (L, d, st, go)).1) x 3 2) f_9 w ((ap_mk w (ap_tg L C tg 3) x (L, d, st, go)).2.1) ((ap_mk w (ap_tg L C tg 3) x (L, d, st, go)).2.2.1) (ap_tg L C tg 3) hi (mi + (nI 1)) ((ap_mk w (ap_tg L C tg 3) x (L, d, st, go)).2.2.2)) := hD
          refine lv_aload_n hx hb dX1_request_79 rfl (lv_at hl 1 rfl) ?_
          refine lv_iload_n hx hb dX1_request_80 rfl (lv_at hl 2 rfl) ?_
          have hPc := hP.sub (ws' := (cx q ca C (ap_mv ((ap_mk w (ap_tg L C tg 3) x (L, d, st, go)).1) x 3 2) f_9 w ((ap_mk w (ap_tg L C tg 3) x (L, d, st, go)).2.1) ((ap_mk w (ap_tg L C tg 3) x (L, d, st, go)).2.2.1) (ap_tg L C tg 3) hi (mi + (nI 1)) ((ap_mk w (ap_tg L C tg 3) x (L, d, st, go)).2.2.2))) [0, 1, 2, 3, 4, 5, 6, 7, 8, 9, 10, 11] rfl
          have hDc := hD.sub (ws' := (cx q ca C (ap_mv ((ap_mk w (ap_tg L C tg 3) x (L, d, st, go)).1) x 3 2) f_9 w ((ap_mk w (ap_tg L C tg 3) x (L, d, st, go)).2.1) ((ap_mk w (ap_tg L C tg 3) x (L, d, st, go)).2.2.1) (ap_tg L C tg 3) hi (mi + (nI 1)) ((ap_mk w (ap_tg L C tg 3) x (L, d, st, go)).2.2.2))) [0, 1, 2, 3, 4, 5, 6, 7, 8, 9, 10, 11] (by decide) rfl
          have hKc := hK.sub (tys' := (kx ca)) [0, 1, 2, 3, 4, 5, 6] rfl
          have hFc := va_free (wc := (cx q ca C (ap_mv ((ap_mk w (ap_tg L C tg 3) x (L, d, st, go)).1) x 3 2) f_9 w ((ap_mk w (ap_tg L C tg 3) x (L, d, st, go)).2.1) ((ap_mk w (ap_tg L C tg 3) x (L, d, st, go)).2.2.1) (ap_tg L C tg 3) hi (mi + (nI 1)) ((ap_mk w (ap_tg L C tg 3) x (L, d, st, go)).2.2.2))) hD hS hA [0, 1, 2, 3, 4, 5, 6, 7, 8, 9, 10, 11] rfl
          refine va_callv (va_runV (As := [.int x]) (rest := []) ⟨hx, hb, hml, hown, hts⟩ (c_X_bringPage l dC dI q ca C (ap_mv ((ap_mk w (ap_tg L C tg 3) x (L, d, st, go)).1) x 3 2) f_9 w ((ap_mk w (ap_tg L C tg 3) x (L, d, st, go)).2.1) ((ap_mk w (ap_tg L C tg 3) x (L, d, st, go)).2.2.1) (ap_tg L C tg 3) hi (mi + (nI 1)) ((ap_mk w (ap_tg L C tg 3) x (L, d, st, go)).2.2.2) x H.size hfx_10 hx64) (cwV 1 hts gX1_request_X1_bringPage rfl rfl rfl (by decide +kernel) ⟨Nat.le_of_ble_eq_true rfl, Nat.le_of_ble_eq_true rfl⟩) ⟨fun a U g mk q => by obtain ⟨q0, q1, qP, qK, qD⟩ := q; exact ⟨q0, q1, qP, va_K.moved (u := U) (U := U.calling g mk a) (Vm.Alike.refl U.vm) qK, qD⟩, va_recv hKc hPc (ci := 1) (q0 := 0) rfl rfl, fun U hU hW => ⟨rfl, by rw [hU], by rw [hU]; exact hPc, va_K.moved hW.alike hKc, hDc.weaken (fun _ _ _ _ => trivial)⟩⟩ rfl rfl hl.1 rfl (lv_room (Nat.le_of_ble_eq_true rfl)) dX1_request_81 ⟨Nat.le_of_ble_eq_true rfl, Nat.le_of_ble_eq_true rfl⟩) hS (fun q _ h => hFc q h) hFc (fun u t H1 locs ht hvm hw hB hz1 hk1 hS => ?_)
          obtain ⟨L1, w1, d1, st1, tg1, hi1, mi1, go1⟩ := u
          obtain ⟨f1, hf1, hP1, hK1, hD1⟩ := hB
          rw [ht] at hP1
          cases hw
          obtain ⟨f_11, ef_11⟩ : ∃ z, z = f1 := ⟨_, rfl⟩
          rw [← ef_11] at hf1 hP1 hD1
          clear ef_11 f1
          have hfx_12 := hf1
          obtain ⟨hP, hD⟩ := va_join (wr := []) (w1 := (cx q ca C (ap_mv ((ap_mk w (ap_tg L C tg 3) x (L, d, st, go)).1) x 3 2) f_11 (upd w x.toNatClampNeg (((ap_mk w (ap_tg L C tg 3) x (L, d, st, go)).2.2.1) x.toNatClampNeg)) (upd ((ap_mk w (ap_tg L C tg 3) x (L, d, st, go)).2.1) x.toNatClampNeg 0) ((ap_mk w (ap_tg L C tg 3) x (L, d, st, go)).2.2.1) (ap_tg L C tg 3) hi (mi + (nI 1)) ((ap_mk w (ap_tg L C tg 3) x (L, d, st, go)).2.2.2))) hP hD [0, 1, 2, 3, 4, 5, 6, 7, 8, 9, 10, 11] [] rfl rfl (by decide) (by decide) hk1 hFc hP1 hD1
          generalize H1 = H at hP hS ⊢
          replace hP : va_P (dC, dI) vwCl (cx q ca C (ap_mv ((ap_mk w (ap_tg L C tg 3) x (L, d, st, go)).1) x 3 2) f_11 (upd w x.toNatClampNeg (((ap_mk w (ap_tg L C tg 3) x (L, d, st, go)).2.2.1) x.toNatClampNeg)) (upd ((ap_mk w (ap_tg L C tg 3) x (L, d, st, go)).2.1) x.toNatClampNeg 0) ((ap_mk w (ap_tg L C tg 3) x (L, d, st, go)).2.2.1) (ap_tg L C tg 3) hi (mi + (nI 1)) ((ap_mk w (ap_tg L C tg 3) x (L, d, st, go)).2.2.2)) H := hP
          replace hD : va_D A (cx q ca C (ap_mv ((ap_mk w (ap_tg L C tg 3) x (L, d, st, go)).1) x 3 2) f_11 (upd w x.toNatClampNeg (((ap_mk w (ap_tg L C tg 3) x (L, d, st, go)).2.2.1) x.toNatClampNeg)) (upd ((ap_mk w (ap_tg L C tg 3) x (L, d, st, go)).2.1) x.toNatClampNeg 0) ((ap_mk w (ap_tg L C tg 3) x (L, d, st, go)).2.2.1) (ap_tg L C tg 3) hi (mi + (nI 1)) ((ap_mk w (ap_tg L C tg 3) x (L, d, st, go)).2.2.2)) := hD
          exact W.vret hx hb hr (fun t ht hW => ⟨⟨(ap_mv (ap_mk w (ap_tg L C tg 3) x (L, d, st, go)).1 x 3 2, upd w x.toNatClampNeg ((ap_mk w (ap_tg L C tg 3) x (L, d, st, go)).2.2.1 x.toNatClampNeg), upd (ap_mk w (ap_tg L C tg 3) x (L, d, st, go)).2.1 x.toNatClampNeg 0, (ap_mk w (ap_tg L C tg 3) x (L, d, st, go)).2.2.1, ap_tg L C tg 3, hi, mi + 1, (ap_mk w (ap_tg L C tg 3) x (L, d, st, go)).2.2.2), rfl, hfin9, f_11, hfx_12, by rw [ht]; exact hP, va_K.moved hW.alike hK, hD⟩, hS.F ht⟩) hS.2.2 dX1_request_84
        · rw [ek9] at hl
          rw [ek9]
          have hfin9 : (ap_mv (ap_mk w (ap_tg L C tg 4) x (L, d, st, go)).1 x 4 2, upd w x.toNatClampNeg ((ap_mk w (ap_tg L C tg 4) x (L, d, st, go)).2.2.1 x.toNatClampNeg), upd (ap_mk w (ap_tg L C tg 4) x (L, d, st, go)).2.1 x.toNatClampNeg 0, (ap_mk w (ap_tg L C tg 4) x (L, d, st, go)).2.2.1, ap_tg L C tg 4, hi, mi + 1, (ap_mk w (ap_tg L C tg 4) x (L, d, st, go)).2.2.2) = ap_rq C x (L, w, d, st, tg, hi, mi, go) := by rw [ap_rq_old ek9 (Or.inr rfl)]
          have htgle9 : ap_tg L C tg 4 ≤ C := ap_tg_le htg
          have hmki9 : ap_inv (ap_mk w (ap_tg L C tg 4) x (L, d, st, go)).1 := (ap_mk_facts (w := w) (t := ap_tg L C tg 4) (a := x) (S := (L, d, st, go)) hI).1
          have hmkz9 : ap_tot (ap_mk w (ap_tg L C tg 4) x (L, d, st, go)).1 ≤ 48 := by rw [ap_tot_mk (S := (L, d, st, go)) hI]; exact hz
          have hPc := hP.sub (ws' := (cx q ca C L f_1 w d st tg hi (mi + (nI 1)) go)) [0, 1, 2, 3, 4, 5, 6, 7, 8, 9, 10, 11] rfl
          have hDc := hD.sub (ws' := (cx q ca C L f_1 w d st tg hi (mi + (nI 1)) go)) [0, 1, 2, 3, 4, 5, 6, 7, 8, 9, 10, 11] (by decide) rfl
          have hKc := hK.sub (tys' := (kx ca)) [0, 1, 2, 3, 4, 5, 6] rfl
          have hFc := va_free (wc := (cx q ca C L f_1 w d st tg hi (mi + (nI 1)) go)) hD hS hA [0, 1, 2, 3, 4, 5, 6, 7, 8, 9, 10, 11] rfl
          refine va_callv (va_runV (As := [.int (nI 4)]) (rest := []) ⟨hx, hb, hml, hown, hts⟩ (c_X_tgt4 l dC dI q ca C L f_1 w d st tg hi (mi + (nI 1)) go H.size hfx_2 hI hz htg hC) (cwV 1 hts gX1_request_X1_moveTarget rfl rfl rfl (by decide +kernel) ⟨Nat.le_of_ble_eq_true rfl, Nat.le_of_ble_eq_true rfl⟩) ⟨fun a U g mk q => by obtain ⟨q0, q1, qP, qK, qD⟩ := q; exact ⟨q0, q1, qP, va_K.moved (u := U) (U := U.calling g mk a) (Vm.Alike.refl U.vm) qK, qD⟩, va_recv hKc hPc (ci := 1) (q0 := 0) rfl rfl, fun U hU hW => ⟨rfl, by rw [hU], by rw [hU]; exact hPc, va_K.moved hW.alike hKc, hDc.weaken (fun _ _ _ _ => trivial)⟩⟩ rfl rfl hl.1 rfl (lv_room (Nat.le_of_ble_eq_true rfl)) dX1_request_65 ⟨Nat.le_of_ble_eq_true rfl, Nat.le_of_ble_eq_true rfl⟩) hS (fun q _ h => hFc q h) hFc (fun u t H1 locs ht hvm hw hB hz1 hk1 hS => ?_)
          obtain ⟨L1, w1, d1, st1, tg1, hi1, mi1, go1⟩ := u
          obtain ⟨f1, hf1, hP1, hK1, hD1⟩ := hB
          rw [ht] at hP1
          cases hw
          obtain ⟨f_13, ef_13⟩ : ∃ z, z = f1 := ⟨_, rfl⟩
          rw [← ef_13] at hf1 hP1 hD1
          clear ef_13 f1
          have hfx_14 := hf1
          obtain ⟨hP, hD⟩ := va_join (wr := []) (w1 := (cx q ca C L f_13 w d st (ap_tg L C tg 4) hi (mi + (nI 1)) go)) hP hD [0, 1, 2, 3, 4, 5, 6, 7, 8, 9, 10, 11] [] rfl rfl (by decide) (by decide) hk1 hFc hP1 hD1
          generalize H1 = H at hP hS ⊢
          replace hP : va_P (dC, dI) vwCl (cx q ca C L f_13 w d st (ap_tg L C tg 4) hi (mi + (nI 1)) go) H := hP
          replace hD : va_D A (cx q ca C L f_13 w d st (ap_tg L C tg 4) hi (mi + (nI 1)) go) := hD
          refine lv_aload_n hx hb dX1_request_68 rfl (lv_at hl 1 rfl) ?_
          refine lv_iload_n hx hb dX1_request_69 rfl (lv_at hl 2 rfl) ?_
          have hPc := hP.sub (ws' := (cx q ca C L f_13 w d st (ap_tg L C tg 4) hi (mi + (nI 1)) go)) [0, 1, 2, 3, 4, 5, 6, 7, 8, 9, 10, 11] rfl
          have hDc := hD.sub (ws' := (cx q ca C L f_13 w d st (ap_tg L C tg 4) hi (mi + (nI 1)) go)) [0, 1, 2, 3, 4, 5, 6, 7, 8, 9, 10, 11] (by decide) rfl
          have hKc := hK.sub (tys' := (kx ca)) [0, 1, 2, 3, 4, 5, 6] rfl
          have hFc := va_free (wc := (cx q ca C L f_13 w d st (ap_tg L C tg 4) hi (mi + (nI 1)) go)) hD hS hA [0, 1, 2, 3, 4, 5, 6, 7, 8, 9, 10, 11] rfl
          refine va_callv (va_runV (As := [.int x]) (rest := []) ⟨hx, hb, hml, hown, hts⟩ (c_X_makeRoom l dC dI q ca C L f_13 w d st (ap_tg L C tg 4) hi (mi + (nI 1)) go x H.size hfx_14 hI hz (by omega)) (cwV 1 hts gX1_request_X1_makeRoom rfl rfl rfl (by decide +kernel) ⟨Nat.le_of_ble_eq_true rfl, Nat.le_of_ble_eq_true rfl⟩) ⟨fun a U g mk q => by obtain ⟨q0, q1, qP, qK, qD, qN⟩ := q; exact ⟨q0, q1, qP, va_K.moved (u := U) (U := U.calling g mk a) (Vm.Alike.refl U.vm) qK, qD, va_tabs rfl (rfl : U.vm = (U.calling g mk a).vm) qN⟩, va_recv hKc hPc (ci := 1) (q0 := 0) rfl rfl, fun U hU hW => ⟨rfl, by rw [hU], by rw [hU]; exact hPc, va_K.moved hW.alike hKc, hDc.weaken (fun _ _ _ _ => trivial), va_Nw.warmM hW hN⟩⟩ rfl rfl hl.1 rfl (lv_room (Nat.le_of_ble_eq_true rfl)) dX1_request_70 ⟨Nat.le_of_ble_eq_true rfl, Nat.le_of_ble_eq_true rfl⟩) hS (fun q _ h => hFc q h) hFc (fun u t H1 locs ht hvm hw hB hz1 hk1 hS => ?_)
          obtain ⟨L1, w1, d1, st1, tg1, hi1, mi1, go1⟩ := u
          obtain ⟨f1, hf1, hP1, hK1, hD1⟩ := hB
          rw [ht] at hP1
          obtain ⟨f_15, ef_15⟩ : ∃ z, z = f1 := ⟨_, rfl⟩
          rw [← ef_15] at hf1 hP1 hD1
          clear ef_15 f1
          replace hw := hw.symm
          simp only [ap_tu, Prod.mk.injEq] at hw
          obtain ⟨rfl, rfl, rfl, rfl, rfl, rfl, rfl, rfl⟩ := hw
          have hfx_16 := hf1
          obtain ⟨hP, hD⟩ := va_join (wr := []) (w1 := (cx q ca C ((ap_mk w (ap_tg L C tg 4) x (L, d, st, go)).1) f_15 w ((ap_mk w (ap_tg L C tg 4) x (L, d, st, go)).2.1) ((ap_mk w (ap_tg L C tg 4) x (L, d, st, go)).2.2.1) (ap_tg L C tg 4) hi (mi + (nI 1)) ((ap_mk w (ap_tg L C tg 4) x (L, d, st, go)).2.2.2))) hP hD [0, 1, 2, 3, 4, 5, 6, 7, 8, 9, 10, 11] [] rfl rfl (by decide) (by decide) hk1 hFc hP1 hD1
          generalize H1 = H at hP hS ⊢
          replace hP : va_P (dC, dI) vwCl (cx q ca C ((ap_mk w (ap_tg L C tg 4) x (L, d, st, go)).1) f_15 w ((ap_mk w (ap_tg L C tg 4) x (L, d, st, go)).2.1) ((ap_mk w (ap_tg L C tg 4) x (L, d, st, go)).2.2.1) (ap_tg L C tg 4) hi (mi + (nI 1)) ((ap_mk w (ap_tg L C tg 4) x (L, d, st, go)).2.2.2)) H := hP
          replace hD : va_D A (cx q ca C ((ap_mk w (ap_tg L C tg 4) x (L, d, st, go)).1) f_15 w ((ap_mk w (ap_tg L C tg 4) x (L, d, st, go)).2.1) ((ap_mk w (ap_tg L C tg 4) x (L, d, st, go)).2.2.1) (ap_tg L C tg 4) hi (mi + (nI 1)) ((ap_mk w (ap_tg L C tg 4) x (L, d, st, go)).2.2.2)) := hD
          refine lv_aload_n hx hb dX1_request_73 rfl (lv_at hl 1 rfl) ?_
          refine lv_iload_n hx hb dX1_request_74 rfl (lv_at hl 2 rfl) ?_
          refine lv_iload_n hx hb dX1_request_75 rfl (lv_at hl 0 rfl) ?_
          have hPc := hP.sub (ws' := (cx q ca C ((ap_mk w (ap_tg L C tg 4) x (L, d, st, go)).1) f_15 w ((ap_mk w (ap_tg L C tg 4) x (L, d, st, go)).2.1) ((ap_mk w (ap_tg L C tg 4) x (L, d, st, go)).2.2.1) (ap_tg L C tg 4) hi (mi + (nI 1)) ((ap_mk w (ap_tg L C tg 4) x (L, d, st, go)).2.2.2))) [0, 1, 2, 3, 4, 5, 6, 7, 8, 9, 10, 11] rfl
          have hDc := hD.sub (ws' := (cx q ca C ((ap_mk w (ap_tg L C tg 4) x (L, d, st, go)).1) f_15 w ((ap_mk w (ap_tg L C tg 4) x (L, d, st, go)).2.1) ((ap_mk w (ap_tg L C tg 4) x (L, d, st, go)).2.2.1) (ap_tg L C tg 4) hi (mi + (nI 1)) ((ap_mk w (ap_tg L C tg 4) x (L, d, st, go)).2.2.2))) [0, 1, 2, 3, 4, 5, 6, 7, 8, 9, 10, 11] (by decide) rfl
          have hKc := hK.sub (tys' := (kx ca)) [0, 1, 2, 3, 4, 5, 6] rfl
          have hFc := va_free (wc := (cx q ca C ((ap_mk w (ap_tg L C tg 4) x (L, d, st, go)).1) f_15 w ((ap_mk w (ap_tg L C tg 4) x (L, d, st, go)).2.1) ((ap_mk w (ap_tg L C tg 4) x (L, d, st, go)).2.2.1) (ap_tg L C tg 4) hi (mi + (nI 1)) ((ap_mk w (ap_tg L C tg 4) x (L, d, st, go)).2.2.2))) hD hS hA [0, 1, 2, 3, 4, 5, 6, 7, 8, 9, 10, 11] rfl
          refine va_callv (va_runV (As := [.int x, .int (nI 4)]) (rest := []) ⟨hx, hb, hml, hown, hts⟩ (c_X_move4 l dC dI q ca C ((ap_mk w (ap_tg L C tg 4) x (L, d, st, go)).1) f_15 w ((ap_mk w (ap_tg L C tg 4) x (L, d, st, go)).2.1) ((ap_mk w (ap_tg L C tg 4) x (L, d, st, go)).2.2.1) (ap_tg L C tg 4) hi (mi + (nI 1)) ((ap_mk w (ap_tg L C tg 4) x (L, d, st, go)).2.2.2) x H.size hfx_16 hmki9 hmkz9 hx64) (cwV 2 hts gX1_request_X1_moveToCameAgain rfl rfl rfl (by decide +kernel) ⟨Nat.le_of_ble_eq_true rfl, Nat.le_of_ble_eq_true rfl⟩) ⟨fun a U g mk q => by obtain ⟨q0, q1, qP, qK, qD, qN⟩ := q; exact ⟨q0, q1, qP, va_K.moved (u := U) (U := U.calling g mk a) (Vm.Alike.refl U.vm) qK, qD, va_tabs rfl (rfl : U.vm = (U.calling g mk a).vm) qN⟩, va_recv hKc hPc (ci := 1) (q0 := 0) rfl rfl, fun U hU hW => ⟨rfl, by rw [hU], by rw [hU]; exact hPc, va_K.moved hW.alike hKc, hDc.weaken (fun _ _ _ _ => trivial), va_Nw.warmM hW hN⟩⟩ rfl rfl hl.1 rfl (lv_room (Nat.le_of_ble_eq_true rfl)) dX1_request_76 ⟨Nat.le_of_ble_eq_true rfl, Nat.le_of_ble_eq_true rfl⟩) hS (fun q _ h => hFc q h) hFc (fun u t H1 locs ht hvm hw hB hz1 hk1 hS => ?_)
          obtain ⟨L1, w1, d1, st1, tg1, hi1, mi1, go1⟩ := u
          obtain ⟨f1, hf1, hP1, hK1, hD1⟩ := hB
          rw [ht] at hP1
          cases hw
          obtain ⟨f_17, ef_17⟩ : ∃ z, z = f1 := ⟨_, rfl⟩
          rw [← ef_17] at hf1 hP1 hD1
          clear ef_17 f1
          have hfx_18 := hf1
          obtain ⟨hP, hD⟩ := va_join (wr := []) (w1 := (cx q ca C (ap_mv ((ap_mk w (ap_tg L C tg 4) x (L, d, st, go)).1) x 4 2) f_17 w ((ap_mk w (ap_tg L C tg 4) x (L, d, st, go)).2.1) ((ap_mk w (ap_tg L C tg 4) x (L, d, st, go)).2.2.1) (ap_tg L C tg 4) hi (mi + (nI 1)) ((ap_mk w (ap_tg L C tg 4) x (L, d, st, go)).2.2.2))) hP hD [0, 1, 2, 3, 4, 5, 6, 7, 8, 9, 10, 11] [] rfl rfl (by decide) (by decide) hk1 hFc hP1 hD1
          generalize H1 = H at hP hS ⊢
          replace hP : va_P (dC, dI) vwCl (cx q ca C (ap_mv ((ap_mk w (ap_tg L C tg 4) x (L, d, st, go)).1) x 4 2) f_17 w ((ap_mk w (ap_tg L C tg 4) x (L, d, st, go)).2.1) ((ap_mk w (ap_tg L C tg 4) x (L, d, st, go)).2.2.1) (ap_tg L C tg 4) hi (mi + (nI 1)) ((ap_mk w (ap_tg L C tg 4) x (L, d, st, go)).2.2.2)) H := hP
          replace hD : va_D A (cx q ca C (ap_mv ((ap_mk w (ap_tg L C tg 4) x (L, d, st, go)).1) x 4 2) f_17 w ((ap_mk w (ap_tg L C tg 4) x (L, d, st, go)).2.1) ((ap_mk w (ap_tg L C tg 4) x (L, d, st, go)).2.2.1) (ap_tg L C tg 4) hi (mi + (nI 1)) ((ap_mk w (ap_tg L C tg 4) x (L, d, st, go)).2.2.2)) := hD
          refine lv_aload_n hx hb dX1_request_79 rfl (lv_at hl 1 rfl) ?_
          refine lv_iload_n hx hb dX1_request_80 rfl (lv_at hl 2 rfl) ?_
          have hPc := hP.sub (ws' := (cx q ca C (ap_mv ((ap_mk w (ap_tg L C tg 4) x (L, d, st, go)).1) x 4 2) f_17 w ((ap_mk w (ap_tg L C tg 4) x (L, d, st, go)).2.1) ((ap_mk w (ap_tg L C tg 4) x (L, d, st, go)).2.2.1) (ap_tg L C tg 4) hi (mi + (nI 1)) ((ap_mk w (ap_tg L C tg 4) x (L, d, st, go)).2.2.2))) [0, 1, 2, 3, 4, 5, 6, 7, 8, 9, 10, 11] rfl
          have hDc := hD.sub (ws' := (cx q ca C (ap_mv ((ap_mk w (ap_tg L C tg 4) x (L, d, st, go)).1) x 4 2) f_17 w ((ap_mk w (ap_tg L C tg 4) x (L, d, st, go)).2.1) ((ap_mk w (ap_tg L C tg 4) x (L, d, st, go)).2.2.1) (ap_tg L C tg 4) hi (mi + (nI 1)) ((ap_mk w (ap_tg L C tg 4) x (L, d, st, go)).2.2.2))) [0, 1, 2, 3, 4, 5, 6, 7, 8, 9, 10, 11] (by decide) rfl
          have hKc := hK.sub (tys' := (kx ca)) [0, 1, 2, 3, 4, 5, 6] rfl
          have hFc := va_free (wc := (cx q ca C (ap_mv ((ap_mk w (ap_tg L C tg 4) x (L, d, st, go)).1) x 4 2) f_17 w ((ap_mk w (ap_tg L C tg 4) x (L, d, st, go)).2.1) ((ap_mk w (ap_tg L C tg 4) x (L, d, st, go)).2.2.1) (ap_tg L C tg 4) hi (mi + (nI 1)) ((ap_mk w (ap_tg L C tg 4) x (L, d, st, go)).2.2.2))) hD hS hA [0, 1, 2, 3, 4, 5, 6, 7, 8, 9, 10, 11] rfl
          refine va_callv (va_runV (As := [.int x]) (rest := []) ⟨hx, hb, hml, hown, hts⟩ (c_X_bringPage l dC dI q ca C (ap_mv ((ap_mk w (ap_tg L C tg 4) x (L, d, st, go)).1) x 4 2) f_17 w ((ap_mk w (ap_tg L C tg 4) x (L, d, st, go)).2.1) ((ap_mk w (ap_tg L C tg 4) x (L, d, st, go)).2.2.1) (ap_tg L C tg 4) hi (mi + (nI 1)) ((ap_mk w (ap_tg L C tg 4) x (L, d, st, go)).2.2.2) x H.size hfx_18 hx64) (cwV 1 hts gX1_request_X1_bringPage rfl rfl rfl (by decide +kernel) ⟨Nat.le_of_ble_eq_true rfl, Nat.le_of_ble_eq_true rfl⟩) ⟨fun a U g mk q => by obtain ⟨q0, q1, qP, qK, qD⟩ := q; exact ⟨q0, q1, qP, va_K.moved (u := U) (U := U.calling g mk a) (Vm.Alike.refl U.vm) qK, qD⟩, va_recv hKc hPc (ci := 1) (q0 := 0) rfl rfl, fun U hU hW => ⟨rfl, by rw [hU], by rw [hU]; exact hPc, va_K.moved hW.alike hKc, hDc.weaken (fun _ _ _ _ => trivial)⟩⟩ rfl rfl hl.1 rfl (lv_room (Nat.le_of_ble_eq_true rfl)) dX1_request_81 ⟨Nat.le_of_ble_eq_true rfl, Nat.le_of_ble_eq_true rfl⟩) hS (fun q _ h => hFc q h) hFc (fun u t H1 locs ht hvm hw hB hz1 hk1 hS => ?_)
          obtain ⟨L1, w1, d1, st1, tg1, hi1, mi1, go1⟩ := u
          obtain ⟨f1, hf1, hP1, hK1, hD1⟩ := hB
          rw [ht] at hP1
          cases hw
          obtain ⟨f_19, ef_19⟩ : ∃ z, z = f1 := ⟨_, rfl⟩
          rw [← ef_19] at hf1 hP1 hD1
          clear ef_19 f1
          have hfx_20 := hf1
          obtain ⟨hP, hD⟩ := va_join (wr := []) (w1 := (cx q ca C (ap_mv ((ap_mk w (ap_tg L C tg 4) x (L, d, st, go)).1) x 4 2) f_19 (upd w x.toNatClampNeg (((ap_mk w (ap_tg L C tg 4) x (L, d, st, go)).2.2.1) x.toNatClampNeg)) (upd ((ap_mk w (ap_tg L C tg 4) x (L, d, st, go)).2.1) x.toNatClampNeg 0) ((ap_mk w (ap_tg L C tg 4) x (L, d, st, go)).2.2.1) (ap_tg L C tg 4) hi (mi + (nI 1)) ((ap_mk w (ap_tg L C tg 4) x (L, d, st, go)).2.2.2))) hP hD [0, 1, 2, 3, 4, 5, 6, 7, 8, 9, 10, 11] [] rfl rfl (by decide) (by decide) hk1 hFc hP1 hD1
          generalize H1 = H at hP hS ⊢
          replace hP : va_P (dC, dI) vwCl (cx q ca C (ap_mv ((ap_mk w (ap_tg L C tg 4) x (L, d, st, go)).1) x 4 2) f_19 (upd w x.toNatClampNeg (((ap_mk w (ap_tg L C tg 4) x (L, d, st, go)).2.2.1) x.toNatClampNeg)) (upd ((ap_mk w (ap_tg L C tg 4) x (L, d, st, go)).2.1) x.toNatClampNeg 0) ((ap_mk w (ap_tg L C tg 4) x (L, d, st, go)).2.2.1) (ap_tg L C tg 4) hi (mi + (nI 1)) ((ap_mk w (ap_tg L C tg 4) x (L, d, st, go)).2.2.2)) H := hP
          replace hD : va_D A (cx q ca C (ap_mv ((ap_mk w (ap_tg L C tg 4) x (L, d, st, go)).1) x 4 2) f_19 (upd w x.toNatClampNeg (((ap_mk w (ap_tg L C tg 4) x (L, d, st, go)).2.2.1) x.toNatClampNeg)) (upd ((ap_mk w (ap_tg L C tg 4) x (L, d, st, go)).2.1) x.toNatClampNeg 0) ((ap_mk w (ap_tg L C tg 4) x (L, d, st, go)).2.2.1) (ap_tg L C tg 4) hi (mi + (nI 1)) ((ap_mk w (ap_tg L C tg 4) x (L, d, st, go)).2.2.2)) := hD
          exact W.vret hx hb hr (fun t ht hW => ⟨⟨(ap_mv (ap_mk w (ap_tg L C tg 4) x (L, d, st, go)).1 x 4 2, upd w x.toNatClampNeg ((ap_mk w (ap_tg L C tg 4) x (L, d, st, go)).2.2.1 x.toNatClampNeg), upd (ap_mk w (ap_tg L C tg 4) x (L, d, st, go)).2.1 x.toNatClampNeg 0, (ap_mk w (ap_tg L C tg 4) x (L, d, st, go)).2.2.1, ap_tg L C tg 4, hi, mi + 1, (ap_mk w (ap_tg L C tg 4) x (L, d, st, go)).2.2.2), rfl, hfin9, f_19, hfx_20, by rw [ht]; exact hP, va_K.moved hW.alike hK, hD⟩, hS.F ht⟩) hS.2.2 dX1_request_84
      · skip
        replace c_44 : (ap_wl L x) = 0 := (nI_eq (a := ap_wl L x) (b := 0) (by omega) (by omega)).mp c_44
        refine lv_aload_n hx hb dX1_request_47 rfl (lv_at hl 1 rfl) ?_
        refine lv_iload_n hx hb dX1_request_48 rfl (lv_at hl 2 rfl) ?_
        have ek9 : ap_wl L x = 0 := by omega
        rw [ek9] at hl
        have hfin9 : (va_up (ap_un w C tg x (L, d, st, go)).1 1 (x :: (ap_un w C tg x (L, d, st, go)).1 1), upd w x.toNatClampNeg ((ap_un w C tg x (L, d, st, go)).2.2.1 x.toNatClampNeg), upd (ap_un w C tg x (L, d, st, go)).2.1 x.toNatClampNeg 0, (ap_un w C tg x (L, d, st, go)).2.2.1, tg, hi, mi + 1, (ap_un w C tg x (L, d, st, go)).2.2.2) = ap_rq C x (L, w, d, st, tg, hi, mi, go) := by rw [ap_rq_new ek9]
        have hun9 := ap_un_ok (w := w) (d := d) (st := st) (go := go) hok ek9
        have hunz9 : ((ap_un w C tg x (L, d, st, go)).1 1).length < 64 := by omega
        have hPc := hP.sub (ws' := (cx q ca C L f_1 w d st tg hi (mi + (nI 1)) go)) [0, 1, 2, 3, 4, 5, 6, 7, 8, 9, 10, 11] rfl
        have hDc := hD.sub (ws' := (cx q ca C L f_1 w d st tg hi (mi + (nI 1)) go)) [0, 1, 2, 3, 4, 5, 6, 7, 8, 9, 10, 11] (by decide) rfl
        have hKc := hK.sub (tys' := (kx ca)) [0, 1, 2, 3, 4, 5, 6] rfl
        have hFc := va_free (wc := (cx q ca C L f_1 w d st tg hi (mi + (nI 1)) go)) hD hS hA [0, 1, 2, 3, 4, 5, 6, 7, 8, 9, 10, 11] rfl
        refine va_callv (va_runV (As := [.int x]) (rest := []) ⟨hx, hb, hml, hown, hts⟩ (c_X_unknown l dC dI q ca C L f_1 w d st tg hi (mi + (nI 1)) go x H.size hfx_2 hok) (cwV 1 hts gX1_request_X1_makeRoomForUnknown rfl rfl rfl (by decide +kernel) ⟨Nat.le_of_ble_eq_true rfl, Nat.le_of_ble_eq_true rfl⟩) ⟨fun a U g mk q => by obtain ⟨q0, q1, qP, qK, qD, qN⟩ := q; exact ⟨q0, q1, qP, va_K.moved (u := U) (U := U.calling g mk a) (Vm.Alike.refl U.vm) qK, qD, va_tabs rfl (rfl : U.vm = (U.calling g mk a).vm) qN⟩, va_recv hKc hPc (ci := 1) (q0 := 0) rfl rfl, fun U hU hW => ⟨rfl, by rw [hU], by rw [hU]; exact hPc, va_K.moved hW.alike hKc, hDc.weaken (fun _ _ _ _ => trivial), va_Nw.warmM hW hN⟩⟩ rfl rfl hl.1 rfl (lv_room (Nat.le_of_ble_eq_true rfl)) dX1_request_49 ⟨Nat.le_of_ble_eq_true rfl, Nat.le_of_ble_eq_true rfl⟩) hS (fun q _ h => hFc q h) hFc (fun u t H1 locs ht hvm hw hB hz1 hk1 hS => ?_)
        obtain ⟨L1, w1, d1, st1, tg1, hi1, mi1, go1⟩ := u
        obtain ⟨f1, hf1, hP1, hK1, hD1⟩ := hB
        rw [ht] at hP1
        obtain ⟨f_21, ef_21⟩ : ∃ z, z = f1 := ⟨_, rfl⟩
        rw [← ef_21] at hf1 hP1 hD1
        clear ef_21 f1
        replace hw := hw.symm
        simp only [ap_tu, Prod.mk.injEq] at hw
        obtain ⟨rfl, rfl, rfl, rfl, rfl, rfl, rfl, rfl⟩ := hw
        have hfx_22 := hf1
        obtain ⟨hP, hD⟩ := va_join (wr := []) (w1 := (cx q ca C ((ap_un w C tg x (L, d, st, go)).1) f_21 w ((ap_un w C tg x (L, d, st, go)).2.1) ((ap_un w C tg x (L, d, st, go)).2.2.1) tg hi (mi + (nI 1)) ((ap_un w C tg x (L, d, st, go)).2.2.2))) hP hD [0, 1, 2, 3, 4, 5, 6, 7, 8, 9, 10, 11] [] rfl rfl (by decide) (by decide) hk1 hFc hP1 hD1
        generalize H1 = H at hP hS ⊢
        replace hP : va_P (dC, dI) vwCl (cx q ca C ((ap_un w C tg x (L, d, st, go)).1) f_21 w ((ap_un w C tg x (L, d, st, go)).2.1) ((ap_un w C tg x (L, d, st, go)).2.2.1) tg hi (mi + (nI 1)) ((ap_un w C tg x (L, d, st, go)).2.2.2)) H := hP
        replace hD : va_D A (cx q ca C ((ap_un w C tg x (L, d, st, go)).1) f_21 w ((ap_un w C tg x (L, d, st, go)).2.1) ((ap_un w C tg x (L, d, st, go)).2.2.1) tg hi (mi + (nI 1)) ((ap_un w C tg x (L, d, st, go)).2.2.2)) := hD
        refine lv_aload_n hx hb dX1_request_52 rfl (lv_at hl 1 rfl) ?_
        refine va_get (D := (dC, dI)) (ci := 1) (v := .ref (q 1)) (C := RX1) (T := TX1) (N := 12) hx hb hts hwX1 hown hK hP 0 rfl rfl 1 (by decide) (hts (.fieldLink RX1 10 "ArcCache" "cameOnce" "LArcCache$AddressList;") (by decide +kernel)) (fun _ h9 => h9) rfl dX1_request_53 ?_
        refine lv_iload_n hx hb dX1_request_56 rfl (lv_at hl 2 rfl) ?_
        have hPc := hP.sub (ws' := (cal (q 1) (q 5) (ca 1) ((((ap_un w C tg x (L, d, st, go)).1) 1).length) (f_21 1))) [1, 2] rfl
        have hDc := hD.sub (ws' := (cal (q 1) (q 5) (ca 1) ((((ap_un w C tg x (L, d, st, go)).1) 1).length) (f_21 1))) [1, 2] (by decide) rfl
        have hKc := hK.sub (tys' := (kal (ca 1))) [0] rfl
        have hFc := va_free (wc := (cal (q 1) (q 5) (ca 1) ((((ap_un w C tg x (L, d, st, go)).1) 1).length) (f_21 1))) hD hS hA [1, 2] rfl
        refine va_callv (va_runV (As := [.int x]) (rest := []) ⟨hx, hb, hml, hown, hts⟩ (c_A_addNewest l dC dI (q 1) (q 5) (ca 1) (((ap_un w C tg x (L, d, st, go)).1) 1) (f_21 1) x H.size hunz9 (hfx_22 1 (by decide) (by decide))) (cwV 1 hts gX1_request_X0_addNewest rfl rfl rfl (by decide +kernel) ⟨Nat.le_of_ble_eq_true rfl, Nat.le_of_ble_eq_true rfl⟩) ⟨fun a U g mk q => by obtain ⟨q0, q1, qP, qK, qD, qN⟩ := q; exact ⟨q0, q1, qP, va_K.moved (u := U) (U := U.calling g mk a) (Vm.Alike.refl U.vm) qK, qD, va_tabs rfl (rfl : U.vm = (U.calling g mk a).vm) qN⟩, va_recv hKc hPc (ci := 0) (q0 := 0) rfl rfl, fun U hU hW => ⟨rfl, by rw [hU], by rw [hU]; exact hPc, va_K.moved hW.alike hKc, hDc.weaken (fun _ _ _ _ => trivial), va_Nw.warmM hW hN⟩⟩ rfl rfl hl.1 rfl (lv_room (Nat.le_of_ble_eq_true rfl)) dX1_request_57 ⟨Nat.le_of_ble_eq_true rfl, Nat.le_of_ble_eq_true rfl⟩) hS (fun q _ h => hFc q h) hFc (fun u t H1 locs ht hvm hw hB hz1 hk1 hS => ?_)
        obtain ⟨n1, f1⟩ := u
        obtain ⟨hP1, hK1, hD1⟩ := hB
        rw [ht] at hP1
        try dsimp only at hw hP1 hD1
        rw [al_add_in hx64] at hw
        obtain ⟨hn9, hf9⟩ := hw
        subst hn9
        obtain ⟨f_23, ef_23⟩ : ∃ z, z = f1 := ⟨_, rfl⟩
        rw [← ef_23] at hf9 hP1 hD1
        clear ef_23 f1
        have hfx_24 := fx_up (k := 1) hfx_22 hf9
        obtain ⟨hP, hD⟩ := va_join (wr := [(q 0, .inr (1, [.int (nI C), .ref (q 1), .ref (q 2), .ref (q 3), .ref (q 4), .ref (q 9), .ref (q 10), .ref (q 11), .int (nI tg), .int hi, .int (mi + (nI 1)), .int ((ap_un w C tg x (L, d, st, go)).2.2.2)])), (q 2, .inr (0, [.ref (q 6), .int (nI ((((ap_un w C tg x (L, d, st, go)).1) 2).length))])), (q 6, .inl (ca 2, 64, .inl (f_21 2))), (q 3, .inr (0, [.ref (q 7), .int (nI ((((ap_un w C tg x (L, d, st, go)).1) 3).length))])), (q 7, .inl (ca 3, 64, .inl (f_21 3))), (q 4, .inr (0, [.ref (q 8), .int (nI ((((ap_un w C tg x (L, d, st, go)).1) 4).length))])), (q 8, .inl (ca 4, 64, .inl (f_21 4))), (q 9, .inl (ca 5, 64, .inl w)), (q 10, .inl (ca 6, 64, .inl ((ap_un w C tg x (L, d, st, go)).2.1))), (q 11, .inl (ca 7, 64, .inl ((ap_un w C tg x (L, d, st, go)).2.2.1)))]) (w1 := (cal (q 1) (q 5) (ca 1) ((x :: ((ap_un w C tg x (L, d, st, go)).1) 1).length) f_23)) hP hD [1, 2] [0, 3, 4, 5, 6, 7, 8, 9, 10, 11] rfl rfl (by decide) (by decide) hk1 hFc hP1 hD1
        generalize H1 = H at hP hS ⊢
        replace hP := hP.sub (ws' := (cx q ca C (va_up ((ap_un w C tg x (L, d, st, go)).1) 1 (x :: ((ap_un w C tg x (L, d, st, go)).1) 1)) (va_up f_21 1 f_23) w ((ap_un w C tg x (L, d, st, go)).2.1) ((ap_un w C tg x (L, d, st, go)).2.2.1) tg hi (mi + (nI 1)) ((ap_un w C tg x (L, d, st, go)).2.2.2))) [0, 10, 11, 1, 2, 3, 4, 5, 6, 7, 8, 9] rfl
        replace hD := hD.sub (ws' := (cx q ca C (va_up ((ap_un w C tg x (L, d, st, go)).1) 1 (x :: ((ap_un w C tg x (L, d, st, go)).1) 1)) (va_up f_21 1 f_23) w ((ap_un w C tg x (L, d, st, go)).2.1) ((ap_un w C tg x (L, d, st, go)).2.2.1) tg hi (mi + (nI 1)) ((ap_un w C tg x (L, d, st, go)).2.2.2))) [0, 10, 11, 1, 2, 3, 4, 5, 6, 7, 8, 9] (by decide) rfl
        refine lv_goto (tgt := 79) hx hb dX1_request_60 (by decide) ?_
        refine lv_aload_n hx hb dX1_request_79 rfl (lv_at hl 1 rfl) ?_
        refine lv_iload_n hx hb dX1_request_80 rfl (lv_at hl 2 rfl) ?_
        have hPc := hP.sub (ws' := (cx q ca C (va_up ((ap_un w C tg x (L, d, st, go)).1) 1 (x :: ((ap_un w C tg x (L, d, st, go)).1) 1)) (va_up f_21 1 f_23) w ((ap_un w C tg x (L, d, st, go)).2.1) ((ap_un w C tg x (L, d, st, go)).2.2.1) tg hi (mi + (nI 1)) ((ap_un w C tg x (L, d, st, go)).2.2.2))) [0, 1, 2, 3, 4, 5, 6, 7, 8, 9, 10, 11] rfl
        have hDc := hD.sub (ws' := (cx q ca C (va_up ((ap_un w C tg x (L, d, st, go)).1) 1 (x :: ((ap_un w C tg x (L, d, st, go)).1) 1)) (va_up f_21 1 f_23) w ((ap_un w C tg x (L, d, st, go)).2.1) ((ap_un w C tg x (L, d, st, go)).2.2.1) tg hi (mi + (nI 1)) ((ap_un w C tg x (L, d, st, go)).2.2.2))) [0, 1, 2, 3, 4, 5, 6, 7, 8, 9, 10, 11] (by decide) rfl
        have hKc := hK.sub (tys' := (kx ca)) [0, 1, 2, 3, 4, 5, 6] rfl
        have hFc := va_free (wc := (cx q ca C (va_up ((ap_un w C tg x (L, d, st, go)).1) 1 (x :: ((ap_un w C tg x (L, d, st, go)).1) 1)) (va_up f_21 1 f_23) w ((ap_un w C tg x (L, d, st, go)).2.1) ((ap_un w C tg x (L, d, st, go)).2.2.1) tg hi (mi + (nI 1)) ((ap_un w C tg x (L, d, st, go)).2.2.2))) hD hS hA [0, 1, 2, 3, 4, 5, 6, 7, 8, 9, 10, 11] rfl
        refine va_callv (va_runV (As := [.int x]) (rest := []) ⟨hx, hb, hml, hown, hts⟩ (c_X_bringPage l dC dI q ca C (va_up ((ap_un w C tg x (L, d, st, go)).1) 1 (x :: ((ap_un w C tg x (L, d, st, go)).1) 1)) (va_up f_21 1 f_23) w ((ap_un w C tg x (L, d, st, go)).2.1) ((ap_un w C tg x (L, d, st, go)).2.2.1) tg hi (mi + (nI 1)) ((ap_un w C tg x (L, d, st, go)).2.2.2) x H.size hfx_24 hx64) (cwV 1 hts gX1_request_X1_bringPage rfl rfl rfl (by decide +kernel) ⟨Nat.le_of_ble_eq_true rfl, Nat.le_of_ble_eq_true rfl⟩) ⟨fun a U g mk q => by obtain ⟨q0, q1, qP, qK, qD⟩ := q; exact ⟨q0, q1, qP, va_K.moved (u := U) (U := U.calling g mk a) (Vm.Alike.refl U.vm) qK, qD⟩, va_recv hKc hPc (ci := 1) (q0 := 0) rfl rfl, fun U hU hW => ⟨rfl, by rw [hU], by rw [hU]; exact hPc, va_K.moved hW.alike hKc, hDc.weaken (fun _ _ _ _ => trivial)⟩⟩ rfl rfl hl.1 rfl (lv_room (Nat.le_of_ble_eq_true rfl)) dX1_request_81 ⟨Nat.le_of_ble_eq_true rfl, Nat.le_of_ble_eq_true rfl⟩) hS (fun q _ h => hFc q h) hFc (fun u t H1 locs ht hvm hw hB hz1 hk1 hS => ?_)
        obtain ⟨L1, w1, d1, st1, tg1, hi1, mi1, go1⟩ := u
        obtain ⟨f1, hf1, hP1, hK1, hD1⟩ := hB
        rw [ht] at hP1
        cases hw
        obtain ⟨f_25, ef_25⟩ : ∃ z, z = f1 := ⟨_, rfl⟩
        rw [← ef_25] at hf1 hP1 hD1
        clear ef_25 f1
        have hfx_26 := hf1
        obtain ⟨hP, hD⟩ := va_join (wr := []) (w1 := (cx q ca C (va_up ((ap_un w C tg x (L, d, st, go)).1) 1 (x :: ((ap_un w C tg x (L, d, st, go)).1) 1)) f_25 (upd w x.toNatClampNeg (((ap_un w C tg x (L, d, st, go)).2.2.1) x.toNatClampNeg)) (upd ((ap_un w C tg x (L, d, st, go)).2.1) x.toNatClampNeg 0) ((ap_un w C tg x (L, d, st, go)).2.2.1) tg hi (mi + (nI 1)) ((ap_un w C tg x (L, d, st, go)).2.2.2))) hP hD [0, 1, 2, 3, 4, 5, 6, 7, 8, 9, 10, 11] [] rfl rfl (by decide) (by decide) hk1 hFc hP1 hD1
        generalize H1 = H at hP hS ⊢
        replace hP : va_P (dC, dI) vwCl (cx q ca C (va_up ((ap_un w C tg x (L, d, st, go)).1) 1 (x :: ((ap_un w C tg x (L, d, st, go)).1) 1)) f_25 (upd w x.toNatClampNeg (((ap_un w C tg x (L, d, st, go)).2.2.1) x.toNatClampNeg)) (upd ((ap_un w C tg x (L, d, st, go)).2.1) x.toNatClampNeg 0) ((ap_un w C tg x (L, d, st, go)).2.2.1) tg hi (mi + (nI 1)) ((ap_un w C tg x (L, d, st, go)).2.2.2)) H := hP
        replace hD : va_D A (cx q ca C (va_up ((ap_un w C tg x (L, d, st, go)).1) 1 (x :: ((ap_un w C tg x (L, d, st, go)).1) 1)) f_25 (upd w x.toNatClampNeg (((ap_un w C tg x (L, d, st, go)).2.2.1) x.toNatClampNeg)) (upd ((ap_un w C tg x (L, d, st, go)).2.1) x.toNatClampNeg 0) ((ap_un w C tg x (L, d, st, go)).2.2.1) tg hi (mi + (nI 1)) ((ap_un w C tg x (L, d, st, go)).2.2.2)) := hD
        exact W.vret hx hb hr (fun t ht hW => ⟨⟨(va_up (ap_un w C tg x (L, d, st, go)).1 1 (x :: (ap_un w C tg x (L, d, st, go)).1 1), upd w x.toNatClampNeg ((ap_un w C tg x (L, d, st, go)).2.2.1 x.toNatClampNeg), upd (ap_un w C tg x (L, d, st, go)).2.1 x.toNatClampNeg 0, (ap_un w C tg x (L, d, st, go)).2.2.1, tg, hi, mi + 1, (ap_un w C tg x (L, d, st, go)).2.2.2), rfl, hfin9, f_25, hfx_26, by rw [ht]; exact hP, va_K.moved hW.alike hK, hD⟩, hS.F ht⟩) hS.2.2 dX1_request_84
    · skip
      replace c_13 : (ap_wl L x) = 2 := (nI_eq (a := ap_wl L x) (b := 2) (by omega) (by omega)).mp c_13
      have ek9 : ap_wl L x = 2 := by omega
      rw [ek9] at hl
      have hfin9 : (ap_mv L x 2 2, w, d, st, tg, hi + 1, mi, go) = ap_rq C x (L, w, d, st, tg, hi, mi, go) := by rw [ap_rq_hit (Or.inr ek9), ek9]
      refine lv_aload_n hx hb dX1_request_16 rfl (lv_at hl 1 rfl) ?_
      refine lv_dup hx hb dX1_request_17 rfl ?_
      refine va_get (D := (dC, dI)) (ci := 1) (v := .int hi) (C := RX1) (T := TX1) (N := 12) hx hb hts hwX1 hown hK hP 0 rfl rfl 9 (by decide) (hts (.fieldLink RX1 58 "ArcCache" "hitCount" "I") (by decide +kernel)) (fun _ h9 => h9) rfl dX1_request_18 ?_
      refine lv_iconst (v := nI 1) hx hb dX1_request_21 (by decide) ?_
      refine lv_iadd hx hb dX1_request_22 ?_
      refine va_put (D := (dC, dI)) (ci := 1) (v := .int (hi + (nI 1))) (ty := .int) (C := RX1) (T := TX1) (N := 12) hx hb hts hwX1 tyX1 tyX1_ok nmX1 hown hK hP hD hS 0 rfl rfl 9 (by decide) (hts (.fieldLink RX1 58 "ArcCache" "hitCount" "I") (by decide +kernel)) (fun _ h9 => h9) rfl (by decide +kernel) rfl rfl (Nat.le_of_ble_eq_true rfl) dX1_request_23 (fun H locs hP hD hS => ?_)
      replace hP : va_P (dC, dI) vwCl (cx q ca C L f_1 w d st tg (hi + (nI 1)) mi go) H := hP
      replace hD : va_D A (cx q ca C L f_1 w d st tg (hi + (nI 1)) mi go) := hD
      refine lv_aload_n hx hb dX1_request_26 rfl (lv_at hl 1 rfl) ?_
      refine lv_iload_n hx hb dX1_request_27 rfl (lv_at hl 2 rfl) ?_
      refine lv_iload_n hx hb dX1_request_28 rfl (lv_at hl 0 rfl) ?_
      have hPc := hP.sub (ws' := (cx q ca C L f_1 w d st tg (hi + (nI 1)) mi go)) [0, 1, 2, 3, 4, 5, 6, 7, 8, 9, 10, 11] rfl
      have hDc := hD.sub (ws' := (cx q ca C L f_1 w d st tg (hi + (nI 1)) mi go)) [0, 1, 2, 3, 4, 5, 6, 7, 8, 9, 10, 11] (by decide) rfl
      have hKc := hK.sub (tys' := (kx ca)) [0, 1, 2, 3, 4, 5, 6] rfl
      have hFc := va_free (wc := (cx q ca C L f_1 w d st tg (hi + (nI 1)) mi go)) hD hS hA [0, 1, 2, 3, 4, 5, 6, 7, 8, 9, 10, 11] rfl
      refine va_callv (va_runV (As := [.int x, .int (nI 2)]) (rest := []) ⟨hx, hb, hml, hown, hts⟩ (c_X_move2 l dC dI q ca C L f_1 w d st tg (hi + (nI 1)) mi go x H.size hfx_2 hI hz hx64) (cwV 2 hts gX1_request_X1_moveToCameAgain rfl rfl rfl (by decide +kernel) ⟨Nat.le_of_ble_eq_true rfl, Nat.le_of_ble_eq_true rfl⟩) ⟨fun a U g mk q => by obtain ⟨q0, q1, qP, qK, qD, qN⟩ := q; exact ⟨q0, q1, qP, va_K.moved (u := U) (U := U.calling g mk a) (Vm.Alike.refl U.vm) qK, qD, va_tabs rfl (rfl : U.vm = (U.calling g mk a).vm) qN⟩, va_recv hKc hPc (ci := 1) (q0 := 0) rfl rfl, fun U hU hW => ⟨rfl, by rw [hU], by rw [hU]; exact hPc, va_K.moved hW.alike hKc, hDc.weaken (fun _ _ _ _ => trivial), va_Nw.warmM hW hN⟩⟩ rfl rfl hl.1 rfl (lv_room (Nat.le_of_ble_eq_true rfl)) dX1_request_29 ⟨Nat.le_of_ble_eq_true rfl, Nat.le_of_ble_eq_true rfl⟩) hS (fun q _ h => hFc q h) hFc (fun u t H1 locs ht hvm hw hB hz1 hk1 hS => ?_)
      obtain ⟨L1, w1, d1, st1, tg1, hi1, mi1, go1⟩ := u
      obtain ⟨f1, hf1, hP1, hK1, hD1⟩ := hB
      rw [ht] at hP1
      cases hw
      obtain ⟨f_27, ef_27⟩ : ∃ z, z = f1 := ⟨_, rfl⟩
      rw [← ef_27] at hf1 hP1 hD1
      clear ef_27 f1
      have hfx_28 := hf1
      obtain ⟨hP, hD⟩ := va_join (wr := []) (w1 := (cx q ca C (ap_mv L x 2 2) f_27 w d st tg (hi + (nI 1)) mi go)) hP hD [0, 1, 2, 3, 4, 5, 6, 7, 8, 9, 10, 11] [] rfl rfl (by decide) (by decide) hk1 hFc hP1 hD1
      generalize H1 = H at hP hS ⊢
      replace hP : va_P (dC, dI) vwCl (cx q ca C (ap_mv L x 2 2) f_27 w d st tg (hi + (nI 1)) mi go) H := hP
      replace hD : va_D A (cx q ca C (ap_mv L x 2 2) f_27 w d st tg (hi + (nI 1)) mi go) := hD
      exact W.vret hx hb hr (fun t ht hW => ⟨⟨(ap_mv L x 2 2, w, d, st, tg, hi + 1, mi, go), rfl, hfin9, f_27, hfx_28, by rw [ht]; exact hP, va_K.moved hW.alike hK, hD⟩, hS.F ht⟩) hS.2.2 dX1_request_32
end
section
-- THE CLASS, fifth part (laid by wip/gen/xx5.py)
theorem al_l14 {x : Int32} (h : ¬ (x < nI 1 ∨ nI 4 < x)) : x = nI 1 ∨ x = nI 2 ∨ x = nI 3 ∨ x = nI 4 := by
  have h1 : ¬ x < nI 1 := fun a => h (Or.inl a)
  have h2 : ¬ nI 4 < x := fun a => h (Or.inr a)
  have e1 : ¬ x.toInt < 1 := fun a => h1 (Int32.lt_iff_toInt_lt.mpr a)
  have e2 : ¬ 4 < x.toInt := fun a => h2 (Int32.lt_iff_toInt_lt.mpr a)
  have : x.toInt = 1 ∨ x.toInt = 2 ∨ x.toInt = 3 ∨ x.toInt = 4 := by omega
  rcases this with e | e | e | e
  · exact Or.inl (Int32.toInt_inj.mp e)
  · exact Or.inr (Or.inl (Int32.toInt_inj.mp e))
  · exact Or.inr (Or.inr (Or.inl (Int32.toInt_inj.mp e)))
  · exact Or.inr (Or.inr (Or.inr (Int32.toInt_inj.mp e)))
def ap_at (L : Nat → List Int32) (x y : Int32) : Int32 := if x < nI 1 ∨ nI 4 < x then -1 else al_at (L x.toNatClampNeg) y
def ap_len (L : Nat → List Int32) (x : Int32) : Int32 := if x < nI 1 ∨ nI 4 < x then -1 else nI (L x.toNatClampNeg).length
def ap_st (st : Nat → Int32) (x : Int32) : Int32 := if x < 0 ∨ nI 64 ≤ x then 0 else st x.toNatClampNeg
def ap_dy (d : Nat → Int32) (x : Int32) : Int32 := if x < 0 ∨ nI 64 ≤ x then 0 else if d x.toNatClampNeg = 0 then 0 else 1
abbrev cfa (a : Nat) (cA : ClassId) (f : Nat → Int32) : va_W := [(a, .inl (cA, 64, .inl f))]
set_option maxHeartbeats 4000000 in
set_option maxRecDepth 100000 in
theorem c_X_target (l : Launch) (dC : Nat → ClassId) (dI : Nat → Nat → Nat) (q : Nat → Nat) (ca : Nat → ClassId) (C : Nat) (L : Nat → List Int32) (f : Nat → Nat → Int32) (w d st : Nat → Int32) (tg : Nat) (hi mi go : Int32)  (sz : Nat) (hf : fx_ok f L) : Met l yX1_target wsX1_target ({ frames := 0, cells := 0, slots := 0, locals := 0 }) (va_Pc [.ref (q 0)] (fun U => U.heap.size = sz ∧ va_P (dC, dI) vwCl (cx q ca C L f w d st tg hi mi go) U.heap ∧ va_K (dC, dI) vwCl (kx ca) U ∧ va_D (fun _ => True) (cx q ca C L f w d st tg hi mi go))) (va_Qi (fun (r : Int32) (u : ap_U) => r = nI tg ∧ u = (L, w, d, st, tg, hi, mi, go)) (at_X dC dI (va_A (cx q ca C L f w d st tg hi mi go) sz) q ca C) (va_A (cx q ca C L f w d st tg hi mi go) sz)) 0 0 (va_A (cx q ca C L f w d st tg hi mi go) sz) := by
  refine Met.ofW (cc := cX1_target) (maxL := 1) (ret := (some .int)) (by decide) rfl ?_
  intro p e s m args below meth c s₁ B hml hv
  obtain ⟨rfl, hsz, hP, hK, hD0⟩ := hv
  have hx := B.exec
  have hb := B.bytes
  have hr := B.returns
  have hts := atoms_spec (ws := wsX1_target) B.pre
  have hown : s.vm.findClass RX1 = some m.cls := findClass_of_methodNamed B.named
  have hlocks := B.notSynchronized
  have hwX1 : ∀ w ∈ u_ws RX1 TX1 12, w ∈ wsX1_target := by decide +kernel
  subst hsz
  have hD := hD0.self (sz := s.heap.size)
  generalize hAe : va_A (cx q ca C L f w d st tg hi mi go) s.heap.size = A at hD ⊢
  have hA : ∀ q : Nat, s.heap.size ≤ q → A q := fun q h => by rw [← hAe]; exact Or.inr h
  have hS0 : ∀ H, s.heap = H → va_S A s.heap H [] := fun H h => by subst h; exact va_S.rf
  have hl := lv_entry ([.ref (q 0)]) (n := 1) (Nat.le_of_ble_eq_true rfl)
  rw [lg_entry_eq]
  generalize (lg_sl ([.ref (q 0)]) ++ List.replicate (1 - (lg_sl ([.ref (q 0)])).length) Slot.unset).toArray = ls at hl ⊢
  have hl : lv_has ls 1 [(0, .ref (q 0))] := hl
  generalize hHe : s.heap = H at hP ⊢
  have hS := hS0 H hHe
  refine lv_aload_n hx hb dX1_target_0 rfl (lv_at hl 0 rfl) ?_
  refine va_get (D := (dC, dI)) (ci := 1) (v := .int (nI tg)) (C := RX1) (T := TX1) (N := 12) hx hb hts hwX1 hown hK hP 0 rfl rfl 8 (by decide) (hts (.fieldLink RX1 55 "ArcCache" "targetCount" "I") (by decide +kernel)) (fun _ h9 => h9) rfl dX1_target_1 ?_
  exact W.iret (v := nI tg) hx hb hr (fun t ht hW => ⟨⟨nI tg, (L, w, d, st, tg, hi, mi, go), rfl, ⟨rfl, rfl⟩, f, hf, by rw [ht]; exact hP, va_K.moved hW.alike hK, hD⟩, hS.F ht⟩) hS.2.2 dX1_target_4
set_option maxHeartbeats 4000000 in
set_option maxRecDepth 100000 in
theorem c_X_hits (l : Launch) (dC : Nat → ClassId) (dI : Nat → Nat → Nat) (q : Nat → Nat) (ca : Nat → ClassId) (C : Nat) (L : Nat → List Int32) (f : Nat → Nat → Int32) (w d st : Nat → Int32) (tg : Nat) (hi mi go : Int32)  (sz : Nat) (hf : fx_ok f L) : Met l yX1_hits wsX1_hits ({ frames := 0, cells := 0, slots := 0, locals := 0 }) (va_Pc [.ref (q 0)] (fun U => U.heap.size = sz ∧ va_P (dC, dI) vwCl (cx q ca C L f w d st tg hi mi go) U.heap ∧ va_K (dC, dI) vwCl (kx ca) U ∧ va_D (fun _ => True) (cx q ca C L f w d st tg hi mi go))) (va_Qi (fun (r : Int32) (u : ap_U) => r = hi ∧ u = (L, w, d, st, tg, hi, mi, go)) (at_X dC dI (va_A (cx q ca C L f w d st tg hi mi go) sz) q ca C) (va_A (cx q ca C L f w d st tg hi mi go) sz)) 0 0 (va_A (cx q ca C L f w d st tg hi mi go) sz) := by
  refine Met.ofW (cc := cX1_hits) (maxL := 1) (ret := (some .int)) (by decide) rfl ?_
  intro p e s m args below meth c s₁ B hml hv
  obtain ⟨rfl, hsz, hP, hK, hD0⟩ := hv
  have hx := B.exec
  have hb := B.bytes
  have hr := B.returns
  have hts := atoms_spec (ws := wsX1_hits) B.pre
  have hown : s.vm.findClass RX1 = some m.cls := findClass_of_methodNamed B.named
  have hlocks := B.notSynchronized
  have hwX1 : ∀ w ∈ u_ws RX1 TX1 12, w ∈ wsX1_hits := by decide +kernel
  subst hsz
  have hD := hD0.self (sz := s.heap.size)
  generalize hAe : va_A (cx q ca C L f w d st tg hi mi go) s.heap.size = A at hD ⊢
  have hA : ∀ q : Nat, s.heap.size ≤ q → A q := fun q h => by rw [← hAe]; exact Or.inr h
  have hS0 : ∀ H, s.heap = H → va_S A s.heap H [] := fun H h => by subst h; exact va_S.rf
  have hl := lv_entry ([.ref (q 0)]) (n := 1) (Nat.le_of_ble_eq_true rfl)
  rw [lg_entry_eq]
  generalize (lg_sl ([.ref (q 0)]) ++ List.replicate (1 - (lg_sl ([.ref (q 0)])).length) Slot.unset).toArray = ls at hl ⊢
  have hl : lv_has ls 1 [(0, .ref (q 0))] := hl
  generalize hHe : s.heap = H at hP ⊢
  have hS := hS0 H hHe
  refine lv_aload_n hx hb dX1_hits_0 rfl (lv_at hl 0 rfl) ?_
  refine va_get (D := (dC, dI)) (ci := 1) (v := .int hi) (C := RX1) (T := TX1) (N := 12) hx hb hts hwX1 hown hK hP 0 rfl rfl 9 (by decide) (hts (.fieldLink RX1 58 "ArcCache" "hitCount" "I") (by decide +kernel)) (fun _ h9 => h9) rfl dX1_hits_1 ?_
  exact W.iret (v := hi) hx hb hr (fun t ht hW => ⟨⟨hi, (L, w, d, st, tg, hi, mi, go), rfl, ⟨rfl, rfl⟩, f, hf, by rw [ht]; exact hP, va_K.moved hW.alike hK, hD⟩, hS.F ht⟩) hS.2.2 dX1_hits_4
set_option maxHeartbeats 4000000 in
set_option maxRecDepth 100000 in
theorem c_X_misses (l : Launch) (dC : Nat → ClassId) (dI : Nat → Nat → Nat) (q : Nat → Nat) (ca : Nat → ClassId) (C : Nat) (L : Nat → List Int32) (f : Nat → Nat → Int32) (w d st : Nat → Int32) (tg : Nat) (hi mi go : Int32)  (sz : Nat) (hf : fx_ok f L) : Met l yX1_misses wsX1_misses ({ frames := 0, cells := 0, slots := 0, locals := 0 }) (va_Pc [.ref (q 0)] (fun U => U.heap.size = sz ∧ va_P (dC, dI) vwCl (cx q ca C L f w d st tg hi mi go) U.heap ∧ va_K (dC, dI) vwCl (kx ca) U ∧ va_D (fun _ => True) (cx q ca C L f w d st tg hi mi go))) (va_Qi (fun (r : Int32) (u : ap_U) => r = mi ∧ u = (L, w, d, st, tg, hi, mi, go)) (at_X dC dI (va_A (cx q ca C L f w d st tg hi mi go) sz) q ca C) (va_A (cx q ca C L f w d st tg hi mi go) sz)) 0 0 (va_A (cx q ca C L f w d st tg hi mi go) sz) := by
  refine Met.ofW (cc := cX1_misses) (maxL := 1) (ret := (some .int)) (by decide) rfl ?_
  intro p e s m args below meth c s₁ B hml hv
  obtain ⟨rfl, hsz, hP, hK, hD0⟩ := hv
  have hx := B.exec
  have hb := B.bytes
  have hr := B.returns
  have hts := atoms_spec (ws := wsX1_misses) B.pre
  have hown : s.vm.findClass RX1 = some m.cls := findClass_of_methodNamed B.named
  have hlocks := B.notSynchronized
  have hwX1 : ∀ w ∈ u_ws RX1 TX1 12, w ∈ wsX1_misses := by decide +kernel
  subst hsz
  have hD := hD0.self (sz := s.heap.size)
  generalize hAe : va_A (cx q ca C L f w d st tg hi mi go) s.heap.size = A at hD ⊢
  have hA : ∀ q : Nat, s.heap.size ≤ q → A q := fun q h => by rw [← hAe]; exact Or.inr h
  have hS0 : ∀ H, s.heap = H → va_S A s.heap H [] := fun H h => by subst h; exact va_S.rf
  have hl := lv_entry ([.ref (q 0)]) (n := 1) (Nat.le_of_ble_eq_true rfl)
  rw [lg_entry_eq]
  generalize (lg_sl ([.ref (q 0)]) ++ List.replicate (1 - (lg_sl ([.ref (q 0)])).length) Slot.unset).toArray = ls at hl ⊢
  have hl : lv_has ls 1 [(0, .ref (q 0))] := hl
  generalize hHe : s.heap = H at hP ⊢
  have hS := hS0 H hHe
  refine lv_aload_n hx hb dX1_misses_0 rfl (lv_at hl 0 rfl) ?_
  refine va_get (D := (dC, dI)) (ci := 1) (v := .int mi) (C := RX1) (T := TX1) (N := 12) hx hb hts hwX1 hown hK hP 0 rfl rfl 10 (by decide) (hts (.fieldLink RX1 61 "ArcCache" "missCount" "I") (by decide +kernel)) (fun _ h9 => h9) rfl dX1_misses_1 ?_
  exact W.iret (v := mi) hx hb hr (fun t ht hW => ⟨⟨mi, (L, w, d, st, tg, hi, mi, go), rfl, ⟨rfl, rfl⟩, f, hf, by rw [ht]; exact hP, va_K.moved hW.alike hK, hD⟩, hS.F ht⟩) hS.2.2 dX1_misses_4
set_option maxHeartbeats 4000000 in
set_option maxRecDepth 100000 in
theorem c_X_gone (l : Launch) (dC : Nat → ClassId) (dI : Nat → Nat → Nat) (q : Nat → Nat) (ca : Nat → ClassId) (C : Nat) (L : Nat → List Int32) (f : Nat → Nat → Int32) (w d st : Nat → Int32) (tg : Nat) (hi mi go : Int32)  (sz : Nat) (hf : fx_ok f L) : Met l yX1_gone wsX1_gone ({ frames := 0, cells := 0, slots := 0, locals := 0 }) (va_Pc [.ref (q 0)] (fun U => U.heap.size = sz ∧ va_P (dC, dI) vwCl (cx q ca C L f w d st tg hi mi go) U.heap ∧ va_K (dC, dI) vwCl (kx ca) U ∧ va_D (fun _ => True) (cx q ca C L f w d st tg hi mi go))) (va_Qi (fun (r : Int32) (u : ap_U) => r = go ∧ u = (L, w, d, st, tg, hi, mi, go)) (at_X dC dI (va_A (cx q ca C L f w d st tg hi mi go) sz) q ca C) (va_A (cx q ca C L f w d st tg hi mi go) sz)) 0 0 (va_A (cx q ca C L f w d st tg hi mi go) sz) := by
  refine Met.ofW (cc := cX1_gone) (maxL := 1) (ret := (some .int)) (by decide) rfl ?_
  intro p e s m args below meth c s₁ B hml hv
  obtain ⟨rfl, hsz, hP, hK, hD0⟩ := hv
  have hx := B.exec
  have hb := B.bytes
  have hr := B.returns
  have hts := atoms_spec (ws := wsX1_gone) B.pre
  have hown : s.vm.findClass RX1 = some m.cls := findClass_of_methodNamed B.named
  have hlocks := B.notSynchronized
  have hwX1 : ∀ w ∈ u_ws RX1 TX1 12, w ∈ wsX1_gone := by decide +kernel
  subst hsz
  have hD := hD0.self (sz := s.heap.size)
  generalize hAe : va_A (cx q ca C L f w d st tg hi mi go) s.heap.size = A at hD ⊢
  have hA : ∀ q : Nat, s.heap.size ≤ q → A q := fun q h => by rw [← hAe]; exact Or.inr h
  have hS0 : ∀ H, s.heap = H → va_S A s.heap H [] := fun H h => by subst h; exact va_S.rf
  have hl := lv_entry ([.ref (q 0)]) (n := 1) (Nat.le_of_ble_eq_true rfl)
  rw [lg_entry_eq]
  generalize (lg_sl ([.ref (q 0)]) ++ List.replicate (1 - (lg_sl ([.ref (q 0)])).length) Slot.unset).toArray = ls at hl ⊢
  have hl : lv_has ls 1 [(0, .ref (q 0))] := hl
  generalize hHe : s.heap = H at hP ⊢
  have hS := hS0 H hHe
  refine lv_aload_n hx hb dX1_gone_0 rfl (lv_at hl 0 rfl) ?_
  refine va_get (D := (dC, dI)) (ci := 1) (v := .int go) (C := RX1) (T := TX1) (N := 12) hx hb hts hwX1 hown hK hP 0 rfl rfl 11 (by decide) (hts (.fieldLink RX1 64 "ArcCache" "goneCount" "I") (by decide +kernel)) (fun _ h9 => h9) rfl dX1_gone_1 ?_
  exact W.iret (v := go) hx hb hr (fun t ht hW => ⟨⟨go, (L, w, d, st, tg, hi, mi, go), rfl, ⟨rfl, rfl⟩, f, hf, by rw [ht]; exact hP, va_K.moved hW.alike hK, hD⟩, hS.F ht⟩) hS.2.2 dX1_gone_4
set_option maxHeartbeats 4000000 in
set_option maxRecDepth 100000 in
theorem c_X_store (l : Launch) (dC : Nat → ClassId) (dI : Nat → Nat → Nat) (q : Nat → Nat) (ca : Nat → ClassId) (C : Nat) (L : Nat → List Int32) (f : Nat → Nat → Int32) (w d st : Nat → Int32) (tg : Nat) (hi mi go : Int32) (x : Int32) (sz : Nat) (hf : fx_ok f L) : Met l yX1_store wsX1_store ({ frames := 1, cells := 0, slots := 0, locals := 20 }) (va_Pc [.ref (q 0), .int x] (fun U => U.heap.size = sz ∧ va_P (dC, dI) vwCl (cx q ca C L f w d st tg hi mi go) U.heap ∧ va_K (dC, dI) vwCl (kx ca) U ∧ va_D (fun _ => True) (cx q ca C L f w d st tg hi mi go))) (va_Qi (fun (r : Int32) (u : ap_U) => r = ap_st st x ∧ u = (L, w, d, st, tg, hi, mi, go)) (at_X dC dI (va_A (cx q ca C L f w d st tg hi mi go) sz) q ca C) (va_A (cx q ca C L f w d st tg hi mi go) sz)) 0 0 (va_A (cx q ca C L f w d st tg hi mi go) sz) := by
  refine Met.ofW (cc := cX1_store) (maxL := 2) (ret := (some .int)) (by decide) rfl ?_
  intro p e s m args below meth c s₁ B hml hv
  obtain ⟨rfl, hsz, hP, hK, hD0⟩ := hv
  have hx := B.exec
  have hb := B.bytes
  have hr := B.returns
  have hts := atoms_spec (ws := wsX1_store) B.pre
  have hown : s.vm.findClass RX1 = some m.cls := findClass_of_methodNamed B.named
  have hlocks := B.notSynchronized
  have hwX1 : ∀ w ∈ u_ws RX1 TX1 12, w ∈ wsX1_store := by decide +kernel
  subst hsz
  have hD := hD0.self (sz := s.heap.size)
  generalize hAe : va_A (cx q ca C L f w d st tg hi mi go) s.heap.size = A at hD ⊢
  have hA : ∀ q : Nat, s.heap.size ≤ q → A q := fun q h => by rw [← hAe]; exact Or.inr h
  have hS0 : ∀ H, s.heap = H → va_S A s.heap H [] := fun H h => by subst h; exact va_S.rf
  have hl := lv_entry ([.ref (q 0), .int x]) (n := 2) (Nat.le_of_ble_eq_true rfl)
  rw [lg_entry_eq]
  generalize (lg_sl ([.ref (q 0), .int x]) ++ List.replicate (2 - (lg_sl ([.ref (q 0), .int x])).length) Slot.unset).toArray = ls at hl ⊢
  have hl : lv_has ls 2 [(0, .ref (q 0)), (1, .int x)] := hl
  generalize hHe : s.heap = H at hP ⊢
  have hS := hS0 H hHe
  refine lv_iload_n hx hb dX1_store_0 rfl (lv_at hl 1 rfl) ?_
  have hPc := hP.sub (ws' := []) [] rfl
  have hDc := hD.sub (ws' := []) [] (by decide) rfl
  have hFc := va_free (wc := []) hD hS hA [] rfl
  refine va_calli (va_runS (As := [.int x]) (rest := []) ⟨hx, hb, hml, hown, hts⟩ (c_X_isAddress l dC dI x H.size) (va_cwS 1 hts gX1_store_X1_isAddress rfl rfl rfl (by decide +kernel) ⟨Nat.le_of_ble_eq_true rfl, Nat.le_of_ble_eq_true rfl⟩) ⟨fun a U g mk q => by obtain ⟨q0, q1⟩ := q; exact ⟨q0, q1⟩, fun U hU hW => ⟨rfl, by show U.heap.size = _; rw [hU]⟩⟩ rfl rfl hl.1 rfl (lv_room (Nat.le_of_ble_eq_true rfl)) dX1_store_1 ⟨Nat.le_of_ble_eq_true rfl, Nat.le_of_ble_eq_true rfl⟩) hS (fun q _ h => hFc q h) hFc (fun r u t H1 locs ht hvm hw hB hz1 hk1 hS => ?_)
  obtain ⟨hP, hD⟩ := va_join (wr := (cx q ca C L f w d st tg hi mi go)) (w1 := []) hP hD [] [0, 1, 2, 3, 4, 5, 6, 7, 8, 9, 10, 11] rfl rfl (by decide) (by decide) hk1 hFc (fun k q h => by simp at h) ⟨fun i j p q h => by simp at h, fun k q h => by simp at h⟩
  generalize H1 = H at hP hS ⊢
  replace hP : va_P (dC, dI) vwCl (cx q ca C L f w d st tg hi mi go) H := hP
  replace hD : va_D A (cx q ca C L f w d st tg hi mi go) := hD
  by_cases hyes9 : x < 0 ∨ nI 64 ≤ x
  · rw [if_pos hyes9] at hw
    subst hw
    refine lv_if_eq (tgt := 16) hx hb dX1_store_4 (by decide) (fun c_4 => ?_) (fun c_4 => ?_)
    · skip
      replace c_4 : 0 = 0 := (nI_eq (a := 0) (b := 0) (by omega) (by omega)).mp c_4
      refine lv_iconst (v := nI 0) hx hb dX1_store_16 (by decide) ?_
      exact W.iret (v := nI 0) hx hb hr (fun t ht hW => ⟨⟨nI 0, (L, w, d, st, tg, hi, mi, go), rfl, ⟨by unfold ap_st; rw [if_pos hyes9]; rfl, rfl⟩, f, hf, by rw [ht]; exact hP, va_K.moved hW.alike hK, hD⟩, hS.F ht⟩) hS.2.2 dX1_store_17
    · skip
      replace c_4 : ¬ (0 = 0) := fun h9 => c_4 ((nI_eq (a := 0) (b := 0) (by omega) (by omega)).mpr h9)
      exact absurd c_4 (by omega)
  · have hno9 := hyes9
    rw [if_neg hno9] at hw
    subst hw
    have hx64 : vp_in x 64 := vp_in_64.mpr hno9
    refine lv_if_eq (tgt := 16) hx hb dX1_store_4 (by decide) (fun c_4 => ?_) (fun c_4 => ?_)
    · skip
      replace c_4 : 1 = 0 := (nI_eq (a := 1) (b := 0) (by omega) (by omega)).mp c_4
      exact absurd c_4 (by omega)
    · skip
      replace c_4 : ¬ (1 = 0) := fun h9 => c_4 ((nI_eq (a := 1) (b := 0) (by omega) (by omega)).mpr h9)
      refine lv_aload_n hx hb dX1_store_7 rfl (lv_at hl 0 rfl) ?_
      refine va_get (D := (dC, dI)) (ci := 1) (v := .ref (q 11)) (C := RX1) (T := TX1) (N := 12) hx hb hts hwX1 hown hK hP 0 rfl rfl 7 (by decide) (hts (.fieldLink RX1 33 "ArcCache" "storeWords" "[I") (by decide +kernel)) (fun _ h9 => h9) rfl dX1_store_8 ?_
      refine lv_iload_n hx hb dX1_store_11 rfl (lv_at hl 1 rfl) ?_
      refine va_iald hx hb hK hP 11 6 rfl rfl hx64 dX1_store_12 ?_
      refine lv_goto (tgt := 17) hx hb dX1_store_13 (by decide) ?_
      exact W.iret (v := st x.toNatClampNeg) hx hb hr (fun t ht hW => ⟨⟨st x.toNatClampNeg, (L, w, d, st, tg, hi, mi, go), rfl, ⟨by unfold ap_st; rw [if_neg hno9], rfl⟩, f, hf, by rw [ht]; exact hP, va_K.moved hW.alike hK, hD⟩, hS.F ht⟩) hS.2.2 dX1_store_17
set_option maxHeartbeats 4000000 in
set_option maxRecDepth 100000 in
theorem c_X_isDirty (l : Launch) (dC : Nat → ClassId) (dI : Nat → Nat → Nat) (q : Nat → Nat) (ca : Nat → ClassId) (C : Nat) (L : Nat → List Int32) (f : Nat → Nat → Int32) (w d st : Nat → Int32) (tg : Nat) (hi mi go : Int32) (x : Int32) (sz : Nat) (hf : fx_ok f L) : Met l yX1_isDirty wsX1_isDirty ({ frames := 1, cells := 0, slots := 0, locals := 20 }) (va_Pc [.ref (q 0), .int x] (fun U => U.heap.size = sz ∧ va_P (dC, dI) vwCl (cx q ca C L f w d st tg hi mi go) U.heap ∧ va_K (dC, dI) vwCl (kx ca) U ∧ va_D (fun _ => True) (cx q ca C L f w d st tg hi mi go))) (va_Qi (fun (r : Int32) (u : ap_U) => r = ap_dy d x ∧ u = (L, w, d, st, tg, hi, mi, go)) (at_X dC dI (va_A (cx q ca C L f w d st tg hi mi go) sz) q ca C) (va_A (cx q ca C L f w d st tg hi mi go) sz)) 0 0 (va_A (cx q ca C L f w d st tg hi mi go) sz) := by
  refine Met.ofW (cc := cX1_isDirty) (maxL := 2) (ret := (some .boolean)) (by decide) rfl ?_
  intro p e s m args below meth c s₁ B hml hv
  obtain ⟨rfl, hsz, hP, hK, hD0⟩ := hv
  have hx := B.exec
  have hb := B.bytes
  have hr := B.returns
  have hts := atoms_spec (ws := wsX1_isDirty) B.pre
  have hown : s.vm.findClass RX1 = some m.cls := findClass_of_methodNamed B.named
  have hlocks := B.notSynchronized
  have hwX1 : ∀ w ∈ u_ws RX1 TX1 12, w ∈ wsX1_isDirty := by decide +kernel
  subst hsz
  have hD := hD0.self (sz := s.heap.size)
  generalize hAe : va_A (cx q ca C L f w d st tg hi mi go) s.heap.size = A at hD ⊢
  have hA : ∀ q : Nat, s.heap.size ≤ q → A q := fun q h => by rw [← hAe]; exact Or.inr h
  have hS0 : ∀ H, s.heap = H → va_S A s.heap H [] := fun H h => by subst h; exact va_S.rf
  have hl := lv_entry ([.ref (q 0), .int x]) (n := 2) (Nat.le_of_ble_eq_true rfl)
  rw [lg_entry_eq]
  generalize (lg_sl ([.ref (q 0), .int x]) ++ List.replicate (2 - (lg_sl ([.ref (q 0), .int x])).length) Slot.unset).toArray = ls at hl ⊢
  have hl : lv_has ls 2 [(0, .ref (q 0)), (1, .int x)] := hl
  generalize hHe : s.heap = H at hP ⊢
  have hS := hS0 H hHe
  refine lv_iload_n hx hb dX1_isDirty_0 rfl (lv_at hl 1 rfl) ?_
  have hPc := hP.sub (ws' := []) [] rfl
  have hDc := hD.sub (ws' := []) [] (by decide) rfl
  have hFc := va_free (wc := []) hD hS hA [] rfl
  refine va_calli (va_runS (As := [.int x]) (rest := []) ⟨hx, hb, hml, hown, hts⟩ (c_X_isAddress l dC dI x H.size) (va_cwS 1 hts gX1_isDirty_X1_isAddress rfl rfl rfl (by decide +kernel) ⟨Nat.le_of_ble_eq_true rfl, Nat.le_of_ble_eq_true rfl⟩) ⟨fun a U g mk q => by obtain ⟨q0, q1⟩ := q; exact ⟨q0, q1⟩, fun U hU hW => ⟨rfl, by show U.heap.size = _; rw [hU]⟩⟩ rfl rfl hl.1 rfl (lv_room (Nat.le_of_ble_eq_true rfl)) dX1_isDirty_1 ⟨Nat.le_of_ble_eq_true rfl, Nat.le_of_ble_eq_true rfl⟩) hS (fun q _ h => hFc q h) hFc (fun r u t H1 locs ht hvm hw hB hz1 hk1 hS => ?_)
  obtain ⟨hP, hD⟩ := va_join (wr := (cx q ca C L f w d st tg hi mi go)) (w1 := []) hP hD [] [0, 1, 2, 3, 4, 5, 6, 7, 8, 9, 10, 11] rfl rfl (by decide) (by decide) hk1 hFc (fun k q h => by simp at h) ⟨fun i j p q h => by simp at h, fun k q h => by simp at h⟩
  generalize H1 = H at hP hS ⊢
  replace hP : va_P (dC, dI) vwCl (cx q ca C L f w d st tg hi mi go) H := hP
  replace hD : va_D A (cx q ca C L f w d st tg hi mi go) := hD
  by_cases hyes9 : x < 0 ∨ nI 64 ≤ x
  · rw [if_pos hyes9] at hw
    subst hw
    refine lv_if_eq (tgt := 20) hx hb dX1_isDirty_4 (by decide) (fun c_4 => ?_) (fun c_4 => ?_)
    · skip
      replace c_4 : 0 = 0 := (nI_eq (a := 0) (b := 0) (by omega) (by omega)).mp c_4
      refine lv_iconst (v := nI 0) hx hb dX1_isDirty_20 (by decide) ?_
      exact W.zret (v := nI 0) (ty := .boolean) hx hb hr (by decide) (fun t ht hW => ⟨⟨nI 0, (L, w, d, st, tg, hi, mi, go), rfl, ⟨by unfold ap_dy; first | (rw [if_pos hyes9]; rfl) | (rw [if_neg hyes9, if_pos c_13]; rfl), rfl⟩, f, hf, by rw [ht]; exact hP, va_K.moved hW.alike hK, hD⟩, hS.F ht⟩) hS.2.2 dX1_isDirty_21
    · skip
      replace c_4 : ¬ (0 = 0) := fun h9 => c_4 ((nI_eq (a := 0) (b := 0) (by omega) (by omega)).mpr h9)
      exact absurd c_4 (by omega)
  · have hno9 := hyes9
    rw [if_neg hno9] at hw
    subst hw
    have hx64 : vp_in x 64 := vp_in_64.mpr hno9
    refine lv_if_eq (tgt := 20) hx hb dX1_isDirty_4 (by decide) (fun c_4 => ?_) (fun c_4 => ?_)
    · skip
      replace c_4 : 1 = 0 := (nI_eq (a := 1) (b := 0) (by omega) (by omega)).mp c_4
      exact absurd c_4 (by omega)
    · skip
      replace c_4 : ¬ (1 = 0) := fun h9 => c_4 ((nI_eq (a := 1) (b := 0) (by omega) (by omega)).mpr h9)
      refine lv_aload_n hx hb dX1_isDirty_7 rfl (lv_at hl 0 rfl) ?_
      refine va_get (D := (dC, dI)) (ci := 1) (v := .ref (q 10)) (C := RX1) (T := TX1) (N := 12) hx hb hts hwX1 hown hK hP 0 rfl rfl 6 (by decide) (hts (.fieldLink RX1 29 "ArcCache" "dirtyPages" "[Z") (by decide +kernel)) (fun _ h9 => h9) rfl dX1_isDirty_8 ?_
      refine lv_iload_n hx hb dX1_isDirty_11 rfl (lv_at hl 1 rfl) ?_
      refine va_zald hx hb hK hP 10 5 rfl rfl hx64 dX1_isDirty_12 ?_
      refine lv_if_eq (tgt := 20) hx hb dX1_isDirty_13 (by decide) (fun c_13 => ?_) (fun c_13 => ?_)
      · skip
        refine lv_iconst (v := nI 0) hx hb dX1_isDirty_20 (by decide) ?_
        exact W.zret (v := nI 0) (ty := .boolean) hx hb hr (by decide) (fun t ht hW => ⟨⟨nI 0, (L, w, d, st, tg, hi, mi, go), rfl, ⟨by unfold ap_dy; first | (rw [if_pos hyes9]; rfl) | (rw [if_neg hyes9, if_pos c_13]; rfl), rfl⟩, f, hf, by rw [ht]; exact hP, va_K.moved hW.alike hK, hD⟩, hS.F ht⟩) hS.2.2 dX1_isDirty_21
      · skip
        refine lv_iconst (v := nI 1) hx hb dX1_isDirty_16 (by decide) ?_
        refine lv_goto (tgt := 21) hx hb dX1_isDirty_17 (by decide) ?_
        exact W.zret (v := nI 1) (ty := .boolean) hx hb hr (by decide) (fun t ht hW => ⟨⟨nI 1, (L, w, d, st, tg, hi, mi, go), rfl, ⟨by unfold ap_dy; rw [if_neg hno9, if_neg c_13]; rfl, rfl⟩, f, hf, by rw [ht]; exact hP, va_K.moved hW.alike hK, hD⟩, hS.F ht⟩) hS.2.2 dX1_isDirty_21
set_option maxHeartbeats 4000000 in
set_option maxRecDepth 100000 in
theorem c_X_at (l : Launch) (dC : Nat → ClassId) (dI : Nat → Nat → Nat) (q : Nat → Nat) (ca : Nat → ClassId) (C : Nat) (L : Nat → List Int32) (f : Nat → Nat → Int32) (w d st : Nat → Int32) (tg : Nat) (hi mi go : Int32) (x y : Int32) (sz : Nat) (hf : fx_ok f L) (hI : ap_inv L) (hz : ap_tot L ≤ 48) : Met l yX1_at wsX1_at ({ frames := 1, cells := 0, slots := 0, locals := 21 }) (va_Pc [.ref (q 0), .int x, .int y] (fun U => U.heap.size = sz ∧ va_P (dC, dI) vwCl (cx q ca C L f w d st tg hi mi go) U.heap ∧ va_K (dC, dI) vwCl (kx ca) U ∧ va_D (fun _ => True) (cx q ca C L f w d st tg hi mi go))) (va_Qi (fun (r : Int32) (u : ap_U) => r = ap_at L x y ∧ u = (L, w, d, st, tg, hi, mi, go)) (at_X dC dI (va_A (cx q ca C L f w d st tg hi mi go) sz) q ca C) (va_A (cx q ca C L f w d st tg hi mi go) sz)) 0 0 (va_A (cx q ca C L f w d st tg hi mi go) sz) := by
  refine Met.ofW (cc := cX1_at) (maxL := 3) (ret := (some .int)) (by decide) rfl ?_
  intro p e s m args below meth c s₁ B hml hv
  obtain ⟨rfl, hsz, hP, hK, hD0⟩ := hv
  have hx := B.exec
  have hb := B.bytes
  have hr := B.returns
  have hts := atoms_spec (ws := wsX1_at) B.pre
  have hown : s.vm.findClass RX1 = some m.cls := findClass_of_methodNamed B.named
  have hlocks := B.notSynchronized
  have hwX1 : ∀ w ∈ u_ws RX1 TX1 12, w ∈ wsX1_at := by decide +kernel
  subst hsz
  have hD := hD0.self (sz := s.heap.size)
  generalize hAe : va_A (cx q ca C L f w d st tg hi mi go) s.heap.size = A at hD ⊢
  have hA : ∀ q : Nat, s.heap.size ≤ q → A q := fun q h => by rw [← hAe]; exact Or.inr h
  have hS0 : ∀ H, s.heap = H → va_S A s.heap H [] := fun H h => by subst h; exact va_S.rf
  have hl := lv_entry ([.ref (q 0), .int x, .int y]) (n := 3) (Nat.le_of_ble_eq_true rfl)
  rw [lg_entry_eq]
  generalize (lg_sl ([.ref (q 0), .int x, .int y]) ++ List.replicate (3 - (lg_sl ([.ref (q 0), .int x, .int y])).length) Slot.unset).toArray = ls at hl ⊢
  have hl : lv_has ls 3 [(0, .ref (q 0)), (1, .int x), (2, .int y)] := hl
  generalize hHe : s.heap = H at hP ⊢
  have hS := hS0 H hHe
  have z1 : (L 1).length ≤ 48 := by unfold ap_tot at hz; omega
  have z2 : (L 2).length ≤ 48 := by unfold ap_tot at hz; omega
  have z3 : (L 3).length ≤ 48 := by unfold ap_tot at hz; omega
  have z4 : (L 4).length ≤ 48 := by unfold ap_tot at hz; omega
  refine lv_iload_n hx hb dX1_at_0 rfl (lv_at hl 1 rfl) ?_
  have hPc := hP.sub (ws' := []) [] rfl
  have hDc := hD.sub (ws' := []) [] (by decide) rfl
  have hFc := va_free (wc := []) hD hS hA [] rfl
  refine va_calli (va_runS (As := [.int x]) (rest := []) ⟨hx, hb, hml, hown, hts⟩ (c_X_isList l dC dI x H.size) (va_cwS 1 hts gX1_at_X1_isList rfl rfl rfl (by decide +kernel) ⟨Nat.le_of_ble_eq_true rfl, Nat.le_of_ble_eq_true rfl⟩) ⟨fun a U g mk q => by obtain ⟨q0, q1⟩ := q; exact ⟨q0, q1⟩, fun U hU hW => ⟨rfl, by show U.heap.size = _; rw [hU]⟩⟩ rfl rfl hl.1 rfl (lv_room (Nat.le_of_ble_eq_true rfl)) dX1_at_1 ⟨Nat.le_of_ble_eq_true rfl, Nat.le_of_ble_eq_true rfl⟩) hS (fun q _ h => hFc q h) hFc (fun r u t H1 locs ht hvm hw hB hz1 hk1 hS => ?_)
  obtain ⟨hP, hD⟩ := va_join (wr := (cx q ca C L f w d st tg hi mi go)) (w1 := []) hP hD [] [0, 1, 2, 3, 4, 5, 6, 7, 8, 9, 10, 11] rfl rfl (by decide) (by decide) hk1 hFc (fun k q h => by simp at h) ⟨fun i j p q h => by simp at h, fun k q h => by simp at h⟩
  generalize H1 = H at hP hS ⊢
  replace hP : va_P (dC, dI) vwCl (cx q ca C L f w d st tg hi mi go) H := hP
  replace hD : va_D A (cx q ca C L f w d st tg hi mi go) := hD
  by_cases hyes9 : x < nI 1 ∨ nI 4 < x
  · rw [if_pos hyes9] at hw
    subst hw
    refine lv_if_eq (tgt := 19) hx hb dX1_at_4 (by decide) (fun c_4 => ?_) (fun c_4 => ?_)
    · skip
      replace c_4 : 0 = 0 := (nI_eq (a := 0) (b := 0) (by omega) (by omega)).mp c_4
      refine lv_iconst (v := -1) hx hb dX1_at_19 (by decide) ?_
      exact W.iret (v := -1) hx hb hr (fun t ht hW => ⟨⟨-1, (L, w, d, st, tg, hi, mi, go), rfl, ⟨by unfold ap_at; rw [if_pos hyes9], rfl⟩, f, hf, by rw [ht]; exact hP, va_K.moved hW.alike hK, hD⟩, hS.F ht⟩) hS.2.2 dX1_at_20
    · skip
      replace c_4 : ¬ (0 = 0) := fun h9 => c_4 ((nI_eq (a := 0) (b := 0) (by omega) (by omega)).mpr h9)
      exact absurd c_4 (by omega)
  · rw [if_neg hyes9] at hw
    subst hw
    rcases al_l14 hyes9 with rfl | rfl | rfl | rfl
    · skip
      refine lv_if_eq (tgt := 19) hx hb dX1_at_4 (by decide) (fun c_4 => ?_) (fun c_4 => ?_)
      · skip
        replace c_4 : 1 = 0 := (nI_eq (a := 1) (b := 0) (by omega) (by omega)).mp c_4
        exact absurd c_4 (by omega)
      · skip
        replace c_4 : ¬ (1 = 0) := fun h9 => c_4 ((nI_eq (a := 1) (b := 0) (by omega) (by omega)).mpr h9)
        refine lv_aload_n hx hb dX1_at_7 rfl (lv_at hl 0 rfl) ?_
        refine lv_iload_n hx hb dX1_at_8 rfl (lv_at hl 1 rfl) ?_
        have hPc := hP.sub (ws' := (cx q ca C L f w d st tg hi mi go)) [0, 1, 2, 3, 4, 5, 6, 7, 8, 9, 10, 11] rfl
        have hDc := hD.sub (ws' := (cx q ca C L f w d st tg hi mi go)) [0, 1, 2, 3, 4, 5, 6, 7, 8, 9, 10, 11] (by decide) rfl
        have hKc := hK.sub (tys' := (kx ca)) [0, 1, 2, 3, 4, 5, 6] rfl
        have hFc := va_free (wc := (cx q ca C L f w d st tg hi mi go)) hD hS hA [0, 1, 2, 3, 4, 5, 6, 7, 8, 9, 10, 11] rfl
        refine va_callr (va_runV (As := [.int (nI 1)]) (rest := []) ⟨hx, hb, hml, hown, hts⟩ (c_X_listNumbered l dC dI q ca C L f w d st tg hi mi go 1 H.size (by decide) (by decide) hf) (cwV 1 hts gX1_at_X1_listNumbered rfl rfl rfl (by decide +kernel) ⟨Nat.le_of_ble_eq_true rfl, Nat.le_of_ble_eq_true rfl⟩) ⟨fun a U g mk q => by obtain ⟨q0, q1, qP, qK, qD⟩ := q; exact ⟨q0, q1, qP, va_K.moved (u := U) (U := U.calling g mk a) (Vm.Alike.refl U.vm) qK, qD⟩, va_recv hKc hPc (ci := 1) (q0 := 0) rfl rfl, fun U hU hW => ⟨rfl, by rw [hU], by rw [hU]; exact hPc, va_K.moved hW.alike hKc, hDc.weaken (fun _ _ _ _ => trivial)⟩⟩ rfl rfl hl.1 rfl (lv_room (Nat.le_of_ble_eq_true rfl)) dX1_at_9 ⟨Nat.le_of_ble_eq_true rfl, Nat.le_of_ble_eq_true rfl⟩) hS (fun q _ h => hFc q h) hFc (fun u ra t H1 locs ht hvm hw hB hz1 hk1 hS => ?_)
        obtain ⟨era, f1, hf1, hP1, hK1, hD1⟩ := hB
        rw [ht] at hP1
        subst era
        obtain ⟨f_1, ef_1⟩ : ∃ z, z = f1 := ⟨_, rfl⟩
        rw [← ef_1] at hf1 hP1 hD1
        clear ef_1 f1
        have hfx_2 := hf1
        obtain ⟨hP, hD⟩ := va_join (wr := []) (w1 := (cx q ca C L f_1 w d st tg hi mi go)) hP hD [0, 1, 2, 3, 4, 5, 6, 7, 8, 9, 10, 11] [] rfl rfl (by decide) (by decide) hk1 hFc hP1 hD1
        generalize H1 = H at hP hS ⊢
        replace hP : va_P (dC, dI) vwCl (cx q ca C L f_1 w d st tg hi mi go) H := hP
        replace hD : va_D A (cx q ca C L f_1 w d st tg hi mi go) := hD
        refine lv_iload_n hx hb dX1_at_12 rfl (lv_at hl 2 rfl) ?_
        have hPc := hP.sub (ws' := (cal (q 1) (q 5) (ca 1) ((L 1).length) (f_1 1))) [1, 2] rfl
        have hDc := hD.sub (ws' := (cal (q 1) (q 5) (ca 1) ((L 1).length) (f_1 1))) [1, 2] (by decide) rfl
        have hKc := hK.sub (tys' := (kal (ca 1))) [0] rfl
        have hFc := va_free (wc := (cal (q 1) (q 5) (ca 1) ((L 1).length) (f_1 1))) hD hS hA [1, 2] rfl
        refine va_calli (va_runV (As := [.int y]) (rest := []) ⟨hx, hb, hml, hown, hts⟩ (c_A_fromNewest l dC dI (q 1) (q 5) (ca 1) (L 1) (f_1 1) y H.size (Nat.le_trans z1 (by decide)) (hfx_2 1 (by decide) (by decide))) (cwV 1 hts gX1_at_X0_fromNewest rfl rfl rfl (by decide +kernel) ⟨Nat.le_of_ble_eq_true rfl, Nat.le_of_ble_eq_true rfl⟩) ⟨fun a U g mk q => by obtain ⟨q0, q1, qP, qK, qD⟩ := q; exact ⟨q0, q1, qP, va_K.moved (u := U) (U := U.calling g mk a) (Vm.Alike.refl U.vm) qK, qD⟩, va_recv hKc hPc (ci := 0) (q0 := 0) rfl rfl, fun U hU hW => ⟨rfl, by rw [hU], by rw [hU]; exact hPc, va_K.moved hW.alike hKc, hDc.weaken (fun _ _ _ _ => trivial)⟩⟩ rfl rfl hl.1 rfl (lv_room (Nat.le_of_ble_eq_true rfl)) dX1_at_13 ⟨Nat.le_of_ble_eq_true rfl, Nat.le_of_ble_eq_true rfl⟩) hS (fun q _ h => hFc q h) hFc (fun r u t H1 locs ht hvm hw hB hz1 hk1 hS => ?_)
        obtain ⟨n1, f1⟩ := u
        obtain ⟨hP1, hK1, hD1⟩ := hB
        rw [ht] at hP1
        try dsimp only at hw hP1 hD1
        obtain ⟨hr9, hu⟩ := hw
        cases hu
        obtain ⟨hP, hD⟩ := va_join (wr := [(q 0, .inr (1, [.int (nI C), .ref (q 1), .ref (q 2), .ref (q 3), .ref (q 4), .ref (q 9), .ref (q 10), .ref (q 11), .int (nI tg), .int hi, .int mi, .int go])), (q 2, .inr (0, [.ref (q 6), .int (nI ((L 2).length))])), (q 6, .inl (ca 2, 64, .inl (f_1 2))), (q 3, .inr (0, [.ref (q 7), .int (nI ((L 3).length))])), (q 7, .inl (ca 3, 64, .inl (f_1 3))), (q 4, .inr (0, [.ref (q 8), .int (nI ((L 4).length))])), (q 8, .inl (ca 4, 64, .inl (f_1 4))), (q 9, .inl (ca 5, 64, .inl w)), (q 10, .inl (ca 6, 64, .inl d)), (q 11, .inl (ca 7, 64, .inl st))]) (w1 := (cal (q 1) (q 5) (ca 1) ((L 1).length) (f_1 1))) hP hD [1, 2] [0, 3, 4, 5, 6, 7, 8, 9, 10, 11] rfl rfl (by decide) (by decide) hk1 hFc hP1 hD1
        generalize H1 = H at hP hS ⊢
        replace hP := hP.sub (ws' := (cx q ca C L f_1 w d st tg hi mi go)) [0, 10, 11, 1, 2, 3, 4, 5, 6, 7, 8, 9] rfl
        replace hD := hD.sub (ws' := (cx q ca C L f_1 w d st tg hi mi go)) [0, 10, 11, 1, 2, 3, 4, 5, 6, 7, 8, 9] (by decide) rfl
        refine lv_goto (tgt := 20) hx hb dX1_at_16 (by decide) ?_
        exact W.iret (v := r) hx hb hr (fun t ht hW => ⟨⟨r, (L, w, d, st, tg, hi, mi, go), rfl, ⟨by unfold ap_at; rw [if_neg hyes9]; first | exact hr9 | rfl, rfl⟩, f_1, hfx_2, by rw [ht]; exact hP, va_K.moved hW.alike hK, hD⟩, hS.F ht⟩) hS.2.2 dX1_at_20
    · skip
      refine lv_if_eq (tgt := 19) hx hb dX1_at_4 (by decide) (fun c_4 => ?_) (fun c_4 => ?_)
      · skip
        replace c_4 : 1 = 0 := (nI_eq (a := 1) (b := 0) (by omega) (by omega)).mp c_4
        exact absurd c_4 (by omega)
      · skip
        replace c_4 : ¬ (1 = 0) := fun h9 => c_4 ((nI_eq (a := 1) (b := 0) (by omega) (by omega)).mpr h9)
        refine lv_aload_n hx hb dX1_at_7 rfl (lv_at hl 0 rfl) ?_
        refine lv_iload_n hx hb dX1_at_8 rfl (lv_at hl 1 rfl) ?_
        have hPc := hP.sub (ws' := (cx q ca C L f w d st tg hi mi go)) [0, 1, 2, 3, 4, 5, 6, 7, 8, 9, 10, 11] rfl
        have hDc := hD.sub (ws' := (cx q ca C L f w d st tg hi mi go)) [0, 1, 2, 3, 4, 5, 6, 7, 8, 9, 10, 11] (by decide) rfl
        have hKc := hK.sub (tys' := (kx ca)) [0, 1, 2, 3, 4, 5, 6] rfl
        have hFc := va_free (wc := (cx q ca C L f w d st tg hi mi go)) hD hS hA [0, 1, 2, 3, 4, 5, 6, 7, 8, 9, 10, 11] rfl
        refine va_callr (va_runV (As := [.int (nI 2)]) (rest := []) ⟨hx, hb, hml, hown, hts⟩ (c_X_listNumbered l dC dI q ca C L f w d st tg hi mi go 2 H.size (by decide) (by decide) hf) (cwV 1 hts gX1_at_X1_listNumbered rfl rfl rfl (by decide +kernel) ⟨Nat.le_of_ble_eq_true rfl, Nat.le_of_ble_eq_true rfl⟩) ⟨fun a U g mk q => by obtain ⟨q0, q1, qP, qK, qD⟩ := q; exact ⟨q0, q1, qP, va_K.moved (u := U) (U := U.calling g mk a) (Vm.Alike.refl U.vm) qK, qD⟩, va_recv hKc hPc (ci := 1) (q0 := 0) rfl rfl, fun U hU hW => ⟨rfl, by rw [hU], by rw [hU]; exact hPc, va_K.moved hW.alike hKc, hDc.weaken (fun _ _ _ _ => trivial)⟩⟩ rfl rfl hl.1 rfl (lv_room (Nat.le_of_ble_eq_true rfl)) dX1_at_9 ⟨Nat.le_of_ble_eq_true rfl, Nat.le_of_ble_eq_true rfl⟩) hS (fun q _ h => hFc q h) hFc (fun u ra t H1 locs ht hvm hw hB hz1 hk1 hS => ?_)
        obtain ⟨era, f1, hf1, hP1, hK1, hD1⟩ := hB
        rw [ht] at hP1
        subst era
        obtain ⟨f_3, ef_3⟩ : ∃ z, z = f1 := ⟨_, rfl⟩
        rw [← ef_3] at hf1 hP1 hD1
        clear ef_3 f1
        have hfx_4 := hf1
        obtain ⟨hP, hD⟩ := va_join (wr := []) (w1 := (cx q ca C L f_3 w d st tg hi mi go)) hP hD [0, 1, 2, 3, 4, 5, 6, 7, 8, 9, 10, 11] [] rfl rfl (by decide) (by decide) hk1 hFc hP1 hD1
        generalize H1 = H at hP hS ⊢
        replace hP : va_P (dC, dI) vwCl (cx q ca C L f_3 w d st tg hi mi go) H := hP
        replace hD : va_D A (cx q ca C L f_3 w d st tg hi mi go) := hD
        refine lv_iload_n hx hb dX1_at_12 rfl (lv_at hl 2 rfl) ?_
        have hPc := hP.sub (ws' := (cal (q 2) (q 6) (ca 2) ((L 2).length) (f_3 2))) [3, 4] rfl
        have hDc := hD.sub (ws' := (cal (q 2) (q 6) (ca 2) ((L 2).length) (f_3 2))) [3, 4] (by decide) rfl
        have hKc := hK.sub (tys' := (kal (ca 2))) [1] rfl
        have hFc := va_free (wc := (cal (q 2) (q 6) (ca 2) ((L 2).length) (f_3 2))) hD hS hA [3, 4] rfl
        refine va_calli (va_runV (As := [.int y]) (rest := []) ⟨hx, hb, hml, hown, hts⟩ (c_A_fromNewest l dC dI (q 2) (q 6) (ca 2) (L 2) (f_3 2) y H.size (Nat.le_trans z2 (by decide)) (hfx_4 2 (by decide) (by decide))) (cwV 1 hts gX1_at_X0_fromNewest rfl rfl rfl (by decide +kernel) ⟨Nat.le_of_ble_eq_true rfl, Nat.le_of_ble_eq_true rfl⟩) ⟨fun a U g mk q => by obtain ⟨q0, q1, qP, qK, qD⟩ := q; exact ⟨q0, q1, qP, va_K.moved (u := U) (U := U.calling g mk a) (Vm.Alike.refl U.vm) qK, qD⟩, va_recv hKc hPc (ci := 0) (q0 := 0) rfl rfl, fun U hU hW => ⟨rfl, by rw [hU], by rw [hU]; exact hPc, va_K.moved hW.alike hKc, hDc.weaken (fun _ _ _ _ => trivial)⟩⟩ rfl rfl hl.1 rfl (lv_room (Nat.le_of_ble_eq_true rfl)) dX1_at_13 ⟨Nat.le_of_ble_eq_true rfl, Nat.le_of_ble_eq_true rfl⟩) hS (fun q _ h => hFc q h) hFc (fun r u t H1 locs ht hvm hw hB hz1 hk1 hS => ?_)
        obtain ⟨n1, f1⟩ := u
        obtain ⟨hP1, hK1, hD1⟩ := hB
        rw [ht] at hP1
        try dsimp only at hw hP1 hD1
        obtain ⟨hr9, hu⟩ := hw
        cases hu
        obtain ⟨hP, hD⟩ := va_join (wr := [(q 0, .inr (1, [.int (nI C), .ref (q 1), .ref (q 2), .ref (q 3), .ref (q 4), .ref (q 9), .ref (q 10), .ref (q 11), .int (nI tg), .int hi, .int mi, .int go])), (q 1, .inr (0, [.ref (q 5), .int (nI ((L 1).length))])), (q 5, .inl (ca 1, 64, .inl (f_3 1))), (q 3, .inr (0, [.ref (q 7), .int (nI ((L 3).length))])), (q 7, .inl (ca 3, 64, .inl (f_3 3))), (q 4, .inr (0, [.ref (q 8), .int (nI ((L 4).length))])), (q 8, .inl (ca 4, 64, .inl (f_3 4))), (q 9, .inl (ca 5, 64, .inl w)), (q 10, .inl (ca 6, 64, .inl d)), (q 11, .inl (ca 7, 64, .inl st))]) (w1 := (cal (q 2) (q 6) (ca 2) ((L 2).length) (f_3 2))) hP hD [3, 4] [0, 1, 2, 5, 6, 7, 8, 9, 10, 11] rfl rfl (by decide) (by decide) hk1 hFc hP1 hD1
        generalize H1 = H at hP hS ⊢
        replace hP := hP.sub (ws' := (cx q ca C L f_3 w d st tg hi mi go)) [0, 1, 2, 10, 11, 3, 4, 5, 6, 7, 8, 9] rfl
        replace hD := hD.sub (ws' := (cx q ca C L f_3 w d st tg hi mi go)) [0, 1, 2, 10, 11, 3, 4, 5, 6, 7, 8, 9] (by decide) rfl
        refine lv_goto (tgt := 20) hx hb dX1_at_16 (by decide) ?_
        exact W.iret (v := r) hx hb hr (fun t ht hW => ⟨⟨r, (L, w, d, st, tg, hi, mi, go), rfl, ⟨by unfold ap_at; rw [if_neg hyes9]; first | exact hr9 | rfl, rfl⟩, f_3, hfx_4, by rw [ht]; exact hP, va_K.moved hW.alike hK, hD⟩, hS.F ht⟩) hS.2.2 dX1_at_20
    · skip
      refine lv_if_eq (tgt := 19) hx hb dX1_at_4 (by decide) (fun c_4 => ?_) (fun c_4 => ?_)
      · skip
        replace c_4 : 1 = 0 := (nI_eq (a := 1) (b := 0) (by omega) (by omega)).mp c_4
        exact absurd c_4 (by omega)
      · skip
        replace c_4 : ¬ (1 = 0) := fun h9 => c_4 ((nI_eq (a := 1) (b := 0) (by omega) (by omega)).mpr h9)
        refine lv_aload_n hx hb dX1_at_7 rfl (lv_at hl 0 rfl) ?_
        refine lv_iload_n hx hb dX1_at_8 rfl (lv_at hl 1 rfl) ?_
        have hPc := hP.sub (ws' := (cx q ca C L f w d st tg hi mi go)) [0, 1, 2, 3, 4, 5, 6, 7, 8, 9, 10, 11] rfl
        have hDc := hD.sub (ws' := (cx q ca C L f w d st tg hi mi go)) [0, 1, 2, 3, 4, 5, 6, 7, 8, 9, 10, 11] (by decide) rfl
        have hKc := hK.sub (tys' := (kx ca)) [0, 1, 2, 3, 4, 5, 6] rfl
        have hFc := va_free (wc := (cx q ca C L f w d st tg hi mi go)) hD hS hA [0, 1, 2, 3, 4, 5, 6, 7, 8, 9, 10, 11] rfl
        refine va_callr (va_runV (As := [.int (nI 3)]) (rest := []) ⟨hx, hb, hml, hown, hts⟩ (c_X_listNumbered l dC dI q ca C L f w d st tg hi mi go 3 H.size (by decide) (by decide) hf) (cwV 1 hts gX1_at_X1_listNumbered rfl rfl rfl (by decide +kernel) ⟨Nat.le_of_ble_eq_true rfl, Nat.le_of_ble_eq_true rfl⟩) ⟨fun a U g mk q => by obtain ⟨q0, q1, qP, qK, qD⟩ := q; exact ⟨q0, q1, qP, va_K.moved (u := U) (U := U.calling g mk a) (Vm.Alike.refl U.vm) qK, qD⟩, va_recv hKc hPc (ci := 1) (q0 := 0) rfl rfl, fun U hU hW => ⟨rfl, by rw [hU], by rw [hU]; exact hPc, va_K.moved hW.alike hKc, hDc.weaken (fun _ _ _ _ => trivial)⟩⟩ rfl rfl hl.1 rfl (lv_room (Nat.le_of_ble_eq_true rfl)) dX1_at_9 ⟨Nat.le_of_ble_eq_true rfl, Nat.le_of_ble_eq_true rfl⟩) hS (fun q _ h => hFc q h) hFc (fun u ra t H1 locs ht hvm hw hB hz1 hk1 hS => ?_)
        obtain ⟨era, f1, hf1, hP1, hK1, hD1⟩ := hB
        rw [ht] at hP1
        subst era
        obtain ⟨f_5, ef_5⟩ : ∃ z, z = f1 := ⟨_, rfl⟩
        rw [← ef_5] at hf1 hP1 hD1
        clear ef_5 f1
        have hfx_6 := hf1
        obtain ⟨hP, hD⟩ := va_join (wr := []) (w1 := (cx q ca C L f_5 w d st tg hi mi go)) hP hD [0, 1, 2, 3, 4, 5, 6, 7, 8, 9, 10, 11] [] rfl rfl (by decide) (by decide) hk1 hFc hP1 hD1
        generalize H1 = H at hP hS ⊢
        replace hP : va_P (dC, dI) vwCl (cx q ca C L f_5 w d st tg hi mi go) H := hP
        replace hD : va_D A (cx q ca C L f_5 w d st tg hi mi go) := hD
        refine lv_iload_n hx hb dX1_at_12 rfl (lv_at hl 2 rfl) ?_
        have hPc := hP.sub (ws' := (cal (q 3) (q 7) (ca 3) ((L 3).length) (f_5 3))) [5, 6] rfl
        have hDc := hD.sub (ws' := (cal (q 3) (q 7) (ca 3) ((L 3).length) (f_5 3))) [5, 6] (by decide) rfl
        have hKc := hK.sub (tys' := (kal (ca 3))) [2] rfl
        have hFc := va_free (wc := (cal (q 3) (q 7) (ca 3) ((L 3).length) (f_5 3))) hD hS hA [5, 6] rfl
        refine va_calli (va_runV (As := [.int y]) (rest := []) ⟨hx, hb, hml, hown, hts⟩ (c_A_fromNewest l dC dI (q 3) (q 7) (ca 3) (L 3) (f_5 3) y H.size (Nat.le_trans z3 (by decide)) (hfx_6 3 (by decide) (by decide))) (cwV 1 hts gX1_at_X0_fromNewest rfl rfl rfl (by decide +kernel) ⟨Nat.le_of_ble_eq_true rfl, Nat.le_of_ble_eq_true rfl⟩) ⟨fun a U g mk q => by obtain ⟨q0, q1, qP, qK, qD⟩ := q; exact ⟨q0, q1, qP, va_K.moved (u := U) (U := U.calling g mk a) (Vm.Alike.refl U.vm) qK, qD⟩, va_recv hKc hPc (ci := 0) (q0 := 0) rfl rfl, fun U hU hW => ⟨rfl, by rw [hU], by rw [hU]; exact hPc, va_K.moved hW.alike hKc, hDc.weaken (fun _ _ _ _ => trivial)⟩⟩ rfl rfl hl.1 rfl (lv_room (Nat.le_of_ble_eq_true rfl)) dX1_at_13 ⟨Nat.le_of_ble_eq_true rfl, Nat.le_of_ble_eq_true rfl⟩) hS (fun q _ h => hFc q h) hFc (fun r u t H1 locs ht hvm hw hB hz1 hk1 hS => ?_)
        obtain ⟨n1, f1⟩ := u
        obtain ⟨hP1, hK1, hD1⟩ := hB
        rw [ht] at hP1
        try dsimp only at hw hP1 hD1
        obtain ⟨hr9, hu⟩ := hw
        cases hu
        obtain ⟨hP, hD⟩ := va_join (wr := [(q 0, .inr (1, [.int (nI C), .ref (q 1), .ref (q 2), .ref (q 3), .ref (q 4), .ref (q 9), .ref (q 10), .ref (q 11), .int (nI tg), .int hi, .int mi, .int go])), (q 1, .inr (0, [.ref (q 5), .int (nI ((L 1).length))])), (q 5, .inl (ca 1, 64, .inl (f_5 1))), (q 2, .inr (0, [.ref (q 6), .int (nI ((L 2).length))])), (q 6, .inl (ca 2, 64, .inl (f_5 2))), (q 4, .inr (0, [.ref (q 8), .int (nI ((L 4).length))])), (q 8, .inl (ca 4, 64, .inl (f_5 4))), (q 9, .inl (ca 5, 64, .inl w)), (q 10, .inl (ca 6, 64, .inl d)), (q 11, .inl (ca 7, 64, .inl st))]) (w1 := (cal (q 3) (q 7) (ca 3) ((L 3).length) (f_5 3))) hP hD [5, 6] [0, 1, 2, 3, 4, 7, 8, 9, 10, 11] rfl rfl (by decide) (by decide) hk1 hFc hP1 hD1
        generalize H1 = H at hP hS ⊢
        replace hP := hP.sub (ws' := (cx q ca C L f_5 w d st tg hi mi go)) [0, 1, 2, 3, 4, 10, 11, 5, 6, 7, 8, 9] rfl
        replace hD := hD.sub (ws' := (cx q ca C L f_5 w d st tg hi mi go)) [0, 1, 2, 3, 4, 10, 11, 5, 6, 7, 8, 9] (by decide) rfl
        refine lv_goto (tgt := 20) hx hb dX1_at_16 (by decide) ?_
        exact W.iret (v := r) hx hb hr (fun t ht hW => ⟨⟨r, (L, w, d, st, tg, hi, mi, go), rfl, ⟨by unfold ap_at; rw [if_neg hyes9]; first | exact hr9 | rfl, rfl⟩, f_5, hfx_6, by rw [ht]; exact hP, va_K.moved hW.alike hK, hD⟩, hS.F ht⟩) hS.2.2 dX1_at_20
    · skip
      refine lv_if_eq (tgt := 19) hx hb dX1_at_4 (by decide) (fun c_4 => ?_) (fun c_4 => ?_)
      · skip
        replace c_4 : 1 = 0 := (nI_eq (a := 1) (b := 0) (by omega) (by omega)).mp c_4
        exact absurd c_4 (by omega)
      · skip
        replace c_4 : ¬ (1 = 0) := fun h9 => c_4 ((nI_eq (a := 1) (b := 0) (by omega) (by omega)).mpr h9)
        refine lv_aload_n hx hb dX1_at_7 rfl (lv_at hl 0 rfl) ?_
        refine lv_iload_n hx hb dX1_at_8 rfl (lv_at hl 1 rfl) ?_
        have hPc := hP.sub (ws' := (cx q ca C L f w d st tg hi mi go)) [0, 1, 2, 3, 4, 5, 6, 7, 8, 9, 10, 11] rfl
        have hDc := hD.sub (ws' := (cx q ca C L f w d st tg hi mi go)) [0, 1, 2, 3, 4, 5, 6, 7, 8, 9, 10, 11] (by decide) rfl
        have hKc := hK.sub (tys' := (kx ca)) [0, 1, 2, 3, 4, 5, 6] rfl
        have hFc := va_free (wc := (cx q ca C L f w d st tg hi mi go)) hD hS hA [0, 1, 2, 3, 4, 5, 6, 7, 8, 9, 10, 11] rfl
        refine va_callr (va_runV (As := [.int (nI 4)]) (rest := []) ⟨hx, hb, hml, hown, hts⟩ (c_X_listNumbered l dC dI q ca C L f w d st tg hi mi go 4 H.size (by decide) (by decide) hf) (cwV 1 hts gX1_at_X1_listNumbered rfl rfl rfl (by decide +kernel) ⟨Nat.le_of_ble_eq_true rfl, Nat.le_of_ble_eq_true rfl⟩) ⟨fun a U g mk q => by obtain ⟨q0, q1, qP, qK, qD⟩ := q; exact ⟨q0, q1, qP, va_K.moved (u := U) (U := U.calling g mk a) (Vm.Alike.refl U.vm) qK, qD⟩, va_recv hKc hPc (ci := 1) (q0 := 0) rfl rfl, fun U hU hW => ⟨rfl, by rw [hU], by rw [hU]; exact hPc, va_K.moved hW.alike hKc, hDc.weaken (fun _ _ _ _ => trivial)⟩⟩ rfl rfl hl.1 rfl (lv_room (Nat.le_of_ble_eq_true rfl)) dX1_at_9 ⟨Nat.le_of_ble_eq_true rfl, Nat.le_of_ble_eq_true rfl⟩) hS (fun q _ h => hFc q h) hFc (fun u ra t H1 locs ht hvm hw hB hz1 hk1 hS => ?_)
        obtain ⟨era, f1, hf1, hP1, hK1, hD1⟩ := hB
        rw [ht] at hP1
        subst era
        obtain ⟨f_7, ef_7⟩ : ∃ z, z = f1 := ⟨_, rfl⟩
        rw [← ef_7] at hf1 hP1 hD1
        clear ef_7 f1
        have hfx_8 := hf1
        obtain ⟨hP, hD⟩ := va_join (wr := []) (w1 := (cx q ca C L f_7 w d st tg hi mi go)) hP hD [0, 1, 2, 3, 4, 5, 6, 7, 8, 9, 10, 11] [] rfl rfl (by decide) (by decide) hk1 hFc hP1 hD1
        generalize H1 = H at hP hS ⊢
        replace hP : va_P (dC, dI) vwCl (cx q ca C L f_7 w d st tg hi mi go) H := hP
        replace hD : va_D A (cx q ca C L f_7 w d st tg hi mi go) := hD
        refine lv_iload_n hx hb dX1_at_12 rfl (lv_at hl 2 rfl) ?_
        have hPc := hP.sub (ws' := (cal (q 4) (q 8) (ca 4) ((L 4).length) (f_7 4))) [7, 8] rfl
        have hDc := hD.sub (ws' := (cal (q 4) (q 8) (ca 4) ((L 4).length) (f_7 4))) [7, 8] (by decide) rfl
        have hKc := hK.sub (tys' := (kal (ca 4))) [3] rfl
        have hFc := va_free (wc := (cal (q 4) (q 8) (ca 4) ((L 4).length) (f_7 4))) hD hS hA [7, 8] rfl
        refine va_calli (va_runV (As := [.int y]) (rest := []) ⟨hx, hb, hml, hown, hts⟩ (c_A_fromNewest l dC dI (q 4) (q 8) (ca 4) (L 4) (f_7 4) y H.size (Nat.le_trans z4 (by decide)) (hfx_8 4 (by decide) (by decide))) (cwV 1 hts gX1_at_X0_fromNewest rfl rfl rfl (by decide +kernel) ⟨Nat.le_of_ble_eq_true rfl, Nat.le_of_ble_eq_true rfl⟩) ⟨fun a U g mk q => by obtain ⟨q0, q1, qP, qK, qD⟩ := q; exact ⟨q0, q1, qP, va_K.moved (u := U) (U := U.calling g mk a) (Vm.Alike.refl U.vm) qK, qD⟩, va_recv hKc hPc (ci := 0) (q0 := 0) rfl rfl, fun U hU hW => ⟨rfl, by rw [hU], by rw [hU]; exact hPc, va_K.moved hW.alike hKc, hDc.weaken (fun _ _ _ _ => trivial)⟩⟩ rfl rfl hl.1 rfl (lv_room (Nat.le_of_ble_eq_true rfl)) dX1_at_13 ⟨Nat.le_of_ble_eq_true rfl, Nat.le_of_ble_eq_true rfl⟩) hS (fun q _ h => hFc q h) hFc (fun r u t H1 locs ht hvm hw hB hz1 hk1 hS => ?_)
        obtain ⟨n1, f1⟩ := u
        obtain ⟨hP1, hK1, hD1⟩ := hB
        rw [ht] at hP1
        try dsimp only at hw hP1 hD1
        obtain ⟨hr9, hu⟩ := hw
        cases hu
        obtain ⟨hP, hD⟩ := va_join (wr := [(q 0, .inr (1, [.int (nI C), .ref (q 1), .ref (q 2), .ref (q 3), .ref (q 4), .ref (q 9), .ref (q 10), .ref (q 11), .int (nI tg), .int hi, .int mi, .int go])), (q 1, .inr (0, [.ref (q 5), .int (nI ((L 1).length))])), (q 5, .inl (ca 1, 64, .inl (f_7 1))), (q 2, .inr (0, [.ref (q 6), .int (nI ((L 2).length))])), (q 6, .inl (ca 2, 64, .inl (f_7 2))), (q 3, .inr (0, [.ref (q 7), .int (nI ((L 3).length))])), (q 7, .inl (ca 3, 64, .inl (f_7 3))), (q 9, .inl (ca 5, 64, .inl w)), (q 10, .inl (ca 6, 64, .inl d)), (q 11, .inl (ca 7, 64, .inl st))]) (w1 := (cal (q 4) (q 8) (ca 4) ((L 4).length) (f_7 4))) hP hD [7, 8] [0, 1, 2, 3, 4, 5, 6, 9, 10, 11] rfl rfl (by decide) (by decide) hk1 hFc hP1 hD1
        generalize H1 = H at hP hS ⊢
        replace hP := hP.sub (ws' := (cx q ca C L f_7 w d st tg hi mi go)) [0, 1, 2, 3, 4, 5, 6, 10, 11, 7, 8, 9] rfl
        replace hD := hD.sub (ws' := (cx q ca C L f_7 w d st tg hi mi go)) [0, 1, 2, 3, 4, 5, 6, 10, 11, 7, 8, 9] (by decide) rfl
        refine lv_goto (tgt := 20) hx hb dX1_at_16 (by decide) ?_
        exact W.iret (v := r) hx hb hr (fun t ht hW => ⟨⟨r, (L, w, d, st, tg, hi, mi, go), rfl, ⟨by unfold ap_at; rw [if_neg hyes9]; first | exact hr9 | rfl, rfl⟩, f_7, hfx_8, by rw [ht]; exact hP, va_K.moved hW.alike hK, hD⟩, hS.F ht⟩) hS.2.2 dX1_at_20
set_option maxHeartbeats 4000000 in
set_option maxRecDepth 100000 in
theorem c_X_length (l : Launch) (dC : Nat → ClassId) (dI : Nat → Nat → Nat) (q : Nat → Nat) (ca : Nat → ClassId) (C : Nat) (L : Nat → List Int32) (f : Nat → Nat → Int32) (w d st : Nat → Int32) (tg : Nat) (hi mi go : Int32) (x : Int32) (sz : Nat) (hf : fx_ok f L) : Met l yX1_length wsX1_length ({ frames := 1, cells := 0, slots := 0, locals := 21 }) (va_Pc [.ref (q 0), .int x] (fun U => U.heap.size = sz ∧ va_P (dC, dI) vwCl (cx q ca C L f w d st tg hi mi go) U.heap ∧ va_K (dC, dI) vwCl (kx ca) U ∧ va_D (fun _ => True) (cx q ca C L f w d st tg hi mi go))) (va_Qi (fun (r : Int32) (u : ap_U) => r = ap_len L x ∧ u = (L, w, d, st, tg, hi, mi, go)) (at_X dC dI (va_A (cx q ca C L f w d st tg hi mi go) sz) q ca C) (va_A (cx q ca C L f w d st tg hi mi go) sz)) 0 0 (va_A (cx q ca C L f w d st tg hi mi go) sz) := by
  refine Met.ofW (cc := cX1_length) (maxL := 2) (ret := (some .int)) (by decide) rfl ?_
  intro p e s m args below meth c s₁ B hml hv
  obtain ⟨rfl, hsz, hP, hK, hD0⟩ := hv
  have hx := B.exec
  have hb := B.bytes
  have hr := B.returns
  have hts := atoms_spec (ws := wsX1_length) B.pre
  have hown : s.vm.findClass RX1 = some m.cls := findClass_of_methodNamed B.named
  have hlocks := B.notSynchronized
  have hwX1 : ∀ w ∈ u_ws RX1 TX1 12, w ∈ wsX1_length := by decide +kernel
  subst hsz
  have hD := hD0.self (sz := s.heap.size)
  generalize hAe : va_A (cx q ca C L f w d st tg hi mi go) s.heap.size = A at hD ⊢
  have hA : ∀ q : Nat, s.heap.size ≤ q → A q := fun q h => by rw [← hAe]; exact Or.inr h
  have hS0 : ∀ H, s.heap = H → va_S A s.heap H [] := fun H h => by subst h; exact va_S.rf
  have hl := lv_entry ([.ref (q 0), .int x]) (n := 2) (Nat.le_of_ble_eq_true rfl)
  rw [lg_entry_eq]
  generalize (lg_sl ([.ref (q 0), .int x]) ++ List.replicate (2 - (lg_sl ([.ref (q 0), .int x])).length) Slot.unset).toArray = ls at hl ⊢
  have hl : lv_has ls 2 [(0, .ref (q 0)), (1, .int x)] := hl
  generalize hHe : s.heap = H at hP ⊢
  have hS := hS0 H hHe
  refine lv_iload_n hx hb dX1_length_0 rfl (lv_at hl 1 rfl) ?_
  have hPc := hP.sub (ws' := []) [] rfl
  have hDc := hD.sub (ws' := []) [] (by decide) rfl
  have hFc := va_free (wc := []) hD hS hA [] rfl
  refine va_calli (va_runS (As := [.int x]) (rest := []) ⟨hx, hb, hml, hown, hts⟩ (c_X_isList l dC dI x H.size) (va_cwS 1 hts gX1_length_X1_isList rfl rfl rfl (by decide +kernel) ⟨Nat.le_of_ble_eq_true rfl, Nat.le_of_ble_eq_true rfl⟩) ⟨fun a U g mk q => by obtain ⟨q0, q1⟩ := q; exact ⟨q0, q1⟩, fun U hU hW => ⟨rfl, by show U.heap.size = _; rw [hU]⟩⟩ rfl rfl hl.1 rfl (lv_room (Nat.le_of_ble_eq_true rfl)) dX1_length_1 ⟨Nat.le_of_ble_eq_true rfl, Nat.le_of_ble_eq_true rfl⟩) hS (fun q _ h => hFc q h) hFc (fun r u t H1 locs ht hvm hw hB hz1 hk1 hS => ?_)
  obtain ⟨hP, hD⟩ := va_join (wr := (cx q ca C L f w d st tg hi mi go)) (w1 := []) hP hD [] [0, 1, 2, 3, 4, 5, 6, 7, 8, 9, 10, 11] rfl rfl (by decide) (by decide) hk1 hFc (fun k q h => by simp at h) ⟨fun i j p q h => by simp at h, fun k q h => by simp at h⟩
  generalize H1 = H at hP hS ⊢
  replace hP : va_P (dC, dI) vwCl (cx q ca C L f w d st tg hi mi go) H := hP
  replace hD : va_D A (cx q ca C L f w d st tg hi mi go) := hD
  by_cases hyes9 : x < nI 1 ∨ nI 4 < x
  · rw [if_pos hyes9] at hw
    subst hw
    refine lv_if_eq (tgt := 18) hx hb dX1_length_4 (by decide) (fun c_4 => ?_) (fun c_4 => ?_)
    · skip
      replace c_4 : 0 = 0 := (nI_eq (a := 0) (b := 0) (by omega) (by omega)).mp c_4
      refine lv_iconst (v := -1) hx hb dX1_length_18 (by decide) ?_
      exact W.iret (v := -1) hx hb hr (fun t ht hW => ⟨⟨-1, (L, w, d, st, tg, hi, mi, go), rfl, ⟨by unfold ap_len; rw [if_pos hyes9], rfl⟩, f, hf, by rw [ht]; exact hP, va_K.moved hW.alike hK, hD⟩, hS.F ht⟩) hS.2.2 dX1_length_19
    · skip
      replace c_4 : ¬ (0 = 0) := fun h9 => c_4 ((nI_eq (a := 0) (b := 0) (by omega) (by omega)).mpr h9)
      exact absurd c_4 (by omega)
  · rw [if_neg hyes9] at hw
    subst hw
    rcases al_l14 hyes9 with rfl | rfl | rfl | rfl
    · skip
      refine lv_if_eq (tgt := 18) hx hb dX1_length_4 (by decide) (fun c_4 => ?_) (fun c_4 => ?_)
      · skip
        replace c_4 : 1 = 0 := (nI_eq (a := 1) (b := 0) (by omega) (by omega)).mp c_4
        exact absurd c_4 (by omega)
      · skip
        replace c_4 : ¬ (1 = 0) := fun h9 => c_4 ((nI_eq (a := 1) (b := 0) (by omega) (by omega)).mpr h9)
        refine lv_aload_n hx hb dX1_length_7 rfl (lv_at hl 0 rfl) ?_
        refine lv_iload_n hx hb dX1_length_8 rfl (lv_at hl 1 rfl) ?_
        have hPc := hP.sub (ws' := (cx q ca C L f w d st tg hi mi go)) [0, 1, 2, 3, 4, 5, 6, 7, 8, 9, 10, 11] rfl
        have hDc := hD.sub (ws' := (cx q ca C L f w d st tg hi mi go)) [0, 1, 2, 3, 4, 5, 6, 7, 8, 9, 10, 11] (by decide) rfl
        have hKc := hK.sub (tys' := (kx ca)) [0, 1, 2, 3, 4, 5, 6] rfl
        have hFc := va_free (wc := (cx q ca C L f w d st tg hi mi go)) hD hS hA [0, 1, 2, 3, 4, 5, 6, 7, 8, 9, 10, 11] rfl
        refine va_callr (va_runV (As := [.int (nI 1)]) (rest := []) ⟨hx, hb, hml, hown, hts⟩ (c_X_listNumbered l dC dI q ca C L f w d st tg hi mi go 1 H.size (by decide) (by decide) hf) (cwV 1 hts gX1_length_X1_listNumbered rfl rfl rfl (by decide +kernel) ⟨Nat.le_of_ble_eq_true rfl, Nat.le_of_ble_eq_true rfl⟩) ⟨fun a U g mk q => by obtain ⟨q0, q1, qP, qK, qD⟩ := q; exact ⟨q0, q1, qP, va_K.moved (u := U) (U := U.calling g mk a) (Vm.Alike.refl U.vm) qK, qD⟩, va_recv hKc hPc (ci := 1) (q0 := 0) rfl rfl, fun U hU hW => ⟨rfl, by rw [hU], by rw [hU]; exact hPc, va_K.moved hW.alike hKc, hDc.weaken (fun _ _ _ _ => trivial)⟩⟩ rfl rfl hl.1 rfl (lv_room (Nat.le_of_ble_eq_true rfl)) dX1_length_9 ⟨Nat.le_of_ble_eq_true rfl, Nat.le_of_ble_eq_true rfl⟩) hS (fun q _ h => hFc q h) hFc (fun u ra t H1 locs ht hvm hw hB hz1 hk1 hS => ?_)
        obtain ⟨era, f1, hf1, hP1, hK1, hD1⟩ := hB
        rw [ht] at hP1
        subst era
        obtain ⟨f_1, ef_1⟩ : ∃ z, z = f1 := ⟨_, rfl⟩
        rw [← ef_1] at hf1 hP1 hD1
        clear ef_1 f1
        have hfx_2 := hf1
        obtain ⟨hP, hD⟩ := va_join (wr := []) (w1 := (cx q ca C L f_1 w d st tg hi mi go)) hP hD [0, 1, 2, 3, 4, 5, 6, 7, 8, 9, 10, 11] [] rfl rfl (by decide) (by decide) hk1 hFc hP1 hD1
        generalize H1 = H at hP hS ⊢
        replace hP : va_P (dC, dI) vwCl (cx q ca C L f_1 w d st tg hi mi go) H := hP
        replace hD : va_D A (cx q ca C L f_1 w d st tg hi mi go) := hD
        have hPc := hP.sub (ws' := (cal (q 1) (q 5) (ca 1) ((L 1).length) (f_1 1))) [1, 2] rfl
        have hDc := hD.sub (ws' := (cal (q 1) (q 5) (ca 1) ((L 1).length) (f_1 1))) [1, 2] (by decide) rfl
        have hKc := hK.sub (tys' := (kal (ca 1))) [0] rfl
        have hFc := va_free (wc := (cal (q 1) (q 5) (ca 1) ((L 1).length) (f_1 1))) hD hS hA [1, 2] rfl
        refine va_calli (va_runV (As := []) (rest := []) ⟨hx, hb, hml, hown, hts⟩ (c_A_size l dC dI (q 1) (q 5) (ca 1) (L 1).length (f_1 1) H.size) (cwV 0 hts gX1_length_X0_size rfl rfl rfl (by decide +kernel) ⟨Nat.le_of_ble_eq_true rfl, Nat.le_of_ble_eq_true rfl⟩) ⟨fun a U g mk q => by obtain ⟨q0, q1, qP, qK, qD⟩ := q; exact ⟨q0, q1, qP, va_K.moved (u := U) (U := U.calling g mk a) (Vm.Alike.refl U.vm) qK, qD⟩, va_recv hKc hPc (ci := 0) (q0 := 0) rfl rfl, fun U hU hW => ⟨rfl, by rw [hU], by rw [hU]; exact hPc, va_K.moved hW.alike hKc, hDc.weaken (fun _ _ _ _ => trivial)⟩⟩ rfl rfl hl.1 rfl (lv_room (Nat.le_of_ble_eq_true rfl)) dX1_length_12 ⟨Nat.le_of_ble_eq_true rfl, Nat.le_of_ble_eq_true rfl⟩) hS (fun q _ h => hFc q h) hFc (fun r u t H1 locs ht hvm hw hB hz1 hk1 hS => ?_)
        obtain ⟨n1, f1⟩ := u
        obtain ⟨hP1, hK1, hD1⟩ := hB
        rw [ht] at hP1
        try dsimp only at hw hP1 hD1
        obtain ⟨hr9, hu⟩ := hw
        cases hu
        obtain ⟨hP, hD⟩ := va_join (wr := [(q 0, .inr (1, [.int (nI C), .ref (q 1), .ref (q 2), .ref (q 3), .ref (q 4), .ref (q 9), .ref (q 10), .ref (q 11), .int (nI tg), .int hi, .int mi, .int go])), (q 2, .inr (0, [.ref (q 6), .int (nI ((L 2).length))])), (q 6, .inl (ca 2, 64, .inl (f_1 2))), (q 3, .inr (0, [.ref (q 7), .int (nI ((L 3).length))])), (q 7, .inl (ca 3, 64, .inl (f_1 3))), (q 4, .inr (0, [.ref (q 8), .int (nI ((L 4).length))])), (q 8, .inl (ca 4, 64, .inl (f_1 4))), (q 9, .inl (ca 5, 64, .inl w)), (q 10, .inl (ca 6, 64, .inl d)), (q 11, .inl (ca 7, 64, .inl st))]) (w1 := (cal (q 1) (q 5) (ca 1) ((L 1).length) (f_1 1))) hP hD [1, 2] [0, 3, 4, 5, 6, 7, 8, 9, 10, 11] rfl rfl (by decide) (by decide) hk1 hFc hP1 hD1
        generalize H1 = H at hP hS ⊢
        replace hP := hP.sub (ws' := (cx q ca C L f_1 w d st tg hi mi go)) [0, 10, 11, 1, 2, 3, 4, 5, 6, 7, 8, 9] rfl
        replace hD := hD.sub (ws' := (cx q ca C L f_1 w d st tg hi mi go)) [0, 10, 11, 1, 2, 3, 4, 5, 6, 7, 8, 9] (by decide) rfl
        subst hr9
        refine lv_goto (tgt := 19) hx hb dX1_length_15 (by decide) ?_
        exact W.iret (v := nI ((L 1).length)) hx hb hr (fun t ht hW => ⟨⟨nI ((L 1).length), (L, w, d, st, tg, hi, mi, go), rfl, ⟨by unfold ap_len; rw [if_neg hyes9]; first | exact hr9 | rfl, rfl⟩, f_1, hfx_2, by rw [ht]; exact hP, va_K.moved hW.alike hK, hD⟩, hS.F ht⟩) hS.2.2 dX1_length_19
    · skip
      refine lv_if_eq (tgt := 18) hx hb dX1_length_4 (by decide) (fun c_4 => ?_) (fun c_4 => ?_)
      · skip
        replace c_4 : 1 = 0 := (nI_eq (a := 1) (b := 0) (by omega) (by omega)).mp c_4
        exact absurd c_4 (by omega)
      · skip
        replace c_4 : ¬ (1 = 0) := fun h9 => c_4 ((nI_eq (a := 1) (b := 0) (by omega) (by omega)).mpr h9)
        refine lv_aload_n hx hb dX1_length_7 rfl (lv_at hl 0 rfl) ?_
        refine lv_iload_n hx hb dX1_length_8 rfl (lv_at hl 1 rfl) ?_
        have hPc := hP.sub (ws' := (cx q ca C L f w d st tg hi mi go)) [0, 1, 2, 3, 4, 5, 6, 7, 8, 9, 10, 11] rfl
        have hDc := hD.sub (ws' := (cx q ca C L f w d st tg hi mi go)) [0, 1, 2, 3, 4, 5, 6, 7, 8, 9, 10, 11] (by decide) rfl
        have hKc := hK.sub (tys' := (kx ca)) [0, 1, 2, 3, 4, 5, 6] rfl
        have hFc := va_free (wc := (cx q ca C L f w d st tg hi mi go)) hD hS hA [0, 1, 2, 3, 4, 5, 6, 7, 8, 9, 10, 11] rfl
        refine va_callr (va_runV (As := [.int (nI 2)]) (rest := []) ⟨hx, hb, hml, hown, hts⟩ (c_X_listNumbered l dC dI q ca C L f w d st tg hi mi go 2 H.size (by decide) (by decide) hf) (cwV 1 hts gX1_length_X1_listNumbered rfl rfl rfl (by decide +kernel) ⟨Nat.le_of_ble_eq_true rfl, Nat.le_of_ble_eq_true rfl⟩) ⟨fun a U g mk q => by obtain ⟨q0, q1, qP, qK, qD⟩ := q; exact ⟨q0, q1, qP, va_K.moved (u := U) (U := U.calling g mk a) (Vm.Alike.refl U.vm) qK, qD⟩, va_recv hKc hPc (ci := 1) (q0 := 0) rfl rfl, fun U hU hW => ⟨rfl, by rw [hU], by rw [hU]; exact hPc, va_K.moved hW.alike hKc, hDc.weaken (fun _ _ _ _ => trivial)⟩⟩ rfl rfl hl.1 rfl (lv_room (Nat.le_of_ble_eq_true rfl)) dX1_length_9 ⟨Nat.le_of_ble_eq_true rfl, Nat.le_of_ble_eq_true rfl⟩) hS (fun q _ h => hFc q h) hFc (fun u ra t H1 locs ht hvm hw hB hz1 hk1 hS => ?_)
        obtain ⟨era, f1, hf1, hP1, hK1, hD1⟩ := hB
        rw [ht] at hP1
        subst era
        obtain ⟨f_3, ef_3⟩ : ∃ z, z = f1 := ⟨_, rfl⟩
        rw [← ef_3] at hf1 hP1 hD1
        clear ef_3 f1
        have hfx_4 := hf1
        obtain ⟨hP, hD⟩ := va_join (wr := []) (w1 := (cx q ca C L f_3 w d st tg hi mi go)) hP hD [0, 1, 2, 3, 4, 5, 6, 7, 8, 9, 10, 11] [] rfl rfl (by decide) (by decide) hk1 hFc hP1 hD1
        generalize H1 = H at hP hS ⊢
        replace hP : va_P (dC, dI) vwCl (cx q ca C L f_3 w d st tg hi mi go) H := hP
        replace hD : va_D A (cx q ca C L f_3 w d st tg hi mi go) := hD
        have hPc := hP.sub (ws' := (cal (q 2) (q 6) (ca 2) ((L 2).length) (f_3 2))) [3, 4] rfl
        have hDc := hD.sub (ws' := (cal (q 2) (q 6) (ca 2) ((L 2).length) (f_3 2))) [3, 4] (by decide) rfl
        have hKc := hK.sub (tys' := (kal (ca 2))) [1] rfl
        have hFc := va_free (wc := (cal (q 2) (q 6) (ca 2) ((L 2).length) (f_3 2))) hD hS hA [3, 4] rfl
        refine va_calli (va_runV (As := []) (rest := []) ⟨hx, hb, hml, hown, hts⟩ (c_A_size l dC dI (q 2) (q 6) (ca 2) (L 2).length (f_3 2) H.size) (cwV 0 hts gX1_length_X0_size rfl rfl rfl (by decide +kernel) ⟨Nat.le_of_ble_eq_true rfl, Nat.le_of_ble_eq_true rfl⟩) ⟨fun a U g mk q => by obtain ⟨q0, q1, qP, qK, qD⟩ := q; exact ⟨q0, q1, qP, va_K.moved (u := U) (U := U.calling g mk a) (Vm.Alike.refl U.vm) qK, qD⟩, va_recv hKc hPc (ci := 0) (q0 := 0) rfl rfl, fun U hU hW => ⟨rfl, by rw [hU], by rw [hU]; exact hPc, va_K.moved hW.alike hKc, hDc.weaken (fun _ _ _ _ => trivial)⟩⟩ rfl rfl hl.1 rfl (lv_room (Nat.le_of_ble_eq_true rfl)) dX1_length_12 ⟨Nat.le_of_ble_eq_true rfl, Nat.le_of_ble_eq_true rfl⟩) hS (fun q _ h => hFc q h) hFc (fun r u t H1 locs ht hvm hw hB hz1 hk1 hS => ?_)
        obtain ⟨n1, f1⟩ := u
        obtain ⟨hP1, hK1, hD1⟩ := hB
        rw [ht] at hP1
        try dsimp only at hw hP1 hD1
        obtain ⟨hr9, hu⟩ := hw
        cases hu
        obtain ⟨hP, hD⟩ := va_join (wr := [(q 0, .inr (1, [.int (nI C), .ref (q 1), .ref (q 2), .ref (q 3), .ref (q 4), .ref (q 9), .ref (q 10), .ref (q 11), .int (nI tg), .int hi, .int mi, .int go])), (q 1, .inr (0, [.ref (q 5), .int (nI ((L 1).length))])), (q 5, .inl (ca 1, 64, .inl (f_3 1))), (q 3, .inr (0, [.ref (q 7), .int (nI ((L 3).length))])), (q 7, .inl (ca 3, 64, .inl (f_3 3))), (q 4, .inr (0, [.ref (q 8), .int (nI ((L 4).length))])), (q 8, .inl (ca 4, 64, .inl (f_3 4))), (q 9, .inl (ca 5, 64, .inl w)), (q 10, .inl (ca 6, 64, .inl d)), (q 11, .inl (ca 7, 64, .inl st))]) (w1 := (cal (q 2) (q 6) (ca 2) ((L 2).length) (f_3 2))) hP hD [3, 4] [0, 1, 2, 5, 6, 7, 8, 9, 10, 11] rfl rfl (by decide) (by decide) hk1 hFc hP1 hD1
        generalize H1 = H at hP hS ⊢
        replace hP := hP.sub (ws' := (cx q ca C L f_3 w d st tg hi mi go)) [0, 1, 2, 10, 11, 3, 4, 5, 6, 7, 8, 9] rfl
        replace hD := hD.sub (ws' := (cx q ca C L f_3 w d st tg hi mi go)) [0, 1, 2, 10, 11, 3, 4, 5, 6, 7, 8, 9] (by decide) rfl
        subst hr9
        refine lv_goto (tgt := 19) hx hb dX1_length_15 (by decide) ?_
        exact W.iret (v := nI ((L 2).length)) hx hb hr (fun t ht hW => ⟨⟨nI ((L 2).length), (L, w, d, st, tg, hi, mi, go), rfl, ⟨by unfold ap_len; rw [if_neg hyes9]; first | exact hr9 | rfl, rfl⟩, f_3, hfx_4, by rw [ht]; exact hP, va_K.moved hW.alike hK, hD⟩, hS.F ht⟩) hS.2.2 dX1_length_19
    · skip
      refine lv_if_eq (tgt := 18) hx hb dX1_length_4 (by decide) (fun c_4 => ?_) (fun c_4 => ?_)
      · skip
        replace c_4 : 1 = 0 := (nI_eq (a := 1) (b := 0) (by omega) (by omega)).mp c_4
        exact absurd c_4 (by omega)
      · skip
        replace c_4 : ¬ (1 = 0) := fun h9 => c_4 ((nI_eq (a := 1) (b := 0) (by omega) (by omega)).mpr h9)
        refine lv_aload_n hx hb dX1_length_7 rfl (lv_at hl 0 rfl) ?_
        refine lv_iload_n hx hb dX1_length_8 rfl (lv_at hl 1 rfl) ?_
        have hPc := hP.sub (ws' := (cx q ca C L f w d st tg hi mi go)) [0, 1, 2, 3, 4, 5, 6, 7, 8, 9, 10, 11] rfl
        have hDc := hD.sub (ws' := (cx q ca C L f w d st tg hi mi go)) [0, 1, 2, 3, 4, 5, 6, 7, 8, 9, 10, 11] (by decide) rfl
        have hKc := hK.sub (tys' := (kx ca)) [0, 1, 2, 3, 4, 5, 6] rfl
        have hFc := va_free (wc := (cx q ca C L f w d st tg hi mi go)) hD hS hA [0, 1, 2, 3, 4, 5, 6, 7, 8, 9, 10, 11] rfl
        refine va_callr (va_runV (As := [.int (nI 3)]) (rest := []) ⟨hx, hb, hml, hown, hts⟩ (c_X_listNumbered l dC dI q ca C L f w d st tg hi mi go 3 H.size (by decide) (by decide) hf) (cwV 1 hts gX1_length_X1_listNumbered rfl rfl rfl (by decide +kernel) ⟨Nat.le_of_ble_eq_true rfl, Nat.le_of_ble_eq_true rfl⟩) ⟨fun a U g mk q => by obtain ⟨q0, q1, qP, qK, qD⟩ := q; exact ⟨q0, q1, qP, va_K.moved (u := U) (U := U.calling g mk a) (Vm.Alike.refl U.vm) qK, qD⟩, va_recv hKc hPc (ci := 1) (q0 := 0) rfl rfl, fun U hU hW => ⟨rfl, by rw [hU], by rw [hU]; exact hPc, va_K.moved hW.alike hKc, hDc.weaken (fun _ _ _ _ => trivial)⟩⟩ rfl rfl hl.1 rfl (lv_room (Nat.le_of_ble_eq_true rfl)) dX1_length_9 ⟨Nat.le_of_ble_eq_true rfl, Nat.le_of_ble_eq_true rfl⟩) hS (fun q _ h => hFc q h) hFc (fun u ra t H1 locs ht hvm hw hB hz1 hk1 hS => ?_)
        obtain ⟨era, f1, hf1, hP1, hK1, hD1⟩ := hB
        rw [ht] at hP1
        subst era
        obtain ⟨f_5, ef_5⟩ : ∃ z, z = f1 := ⟨_, rfl⟩
        rw [← ef_5] at hf1 hP1 hD1
        clear ef_5 f1
        have hfx_6 := hf1
        obtain ⟨hP, hD⟩ := va_join (wr := []) (w1 := (cx q ca C L f_5 w d st tg hi mi go)) hP hD [0, 1, 2, 3, 4, 5, 6, 7, 8, 9, 10, 11] [] rfl rfl (by decide) (by decide) hk1 hFc hP1 hD1
        generalize H1 = H at hP hS ⊢
        replace hP : va_P (dC, dI) vwCl (cx q ca C L f_5 w d st tg hi mi go) H := hP
        replace hD : va_D A (cx q ca C L f_5 w d st tg hi mi go) := hD
        have hPc := hP.sub (ws' := (cal (q 3) (q 7) (ca 3) ((L 3).length) (f_5 3))) [5, 6] rfl
        have hDc := hD.sub (ws' := (cal (q 3) (q 7) (ca 3) ((L 3).length) (f_5 3))) [5, 6] (by decide) rfl
        have hKc := hK.sub (tys' := (kal (ca 3))) [2] rfl
        have hFc := va_free (wc := (cal (q 3) (q 7) (ca 3) ((L 3).length) (f_5 3))) hD hS hA [5, 6] rfl
        refine va_calli (va_runV (As := []) (rest := []) ⟨hx, hb, hml, hown, hts⟩ (c_A_size l dC dI (q 3) (q 7) (ca 3) (L 3).length (f_5 3) H.size) (cwV 0 hts gX1_length_X0_size rfl rfl rfl (by decide +kernel) ⟨Nat.le_of_ble_eq_true rfl, Nat.le_of_ble_eq_true rfl⟩) ⟨fun a U g mk q => by obtain ⟨q0, q1, qP, qK, qD⟩ := q; exact ⟨q0, q1, qP, va_K.moved (u := U) (U := U.calling g mk a) (Vm.Alike.refl U.vm) qK, qD⟩, va_recv hKc hPc (ci := 0) (q0 := 0) rfl rfl, fun U hU hW => ⟨rfl, by rw [hU], by rw [hU]; exact hPc, va_K.moved hW.alike hKc, hDc.weaken (fun _ _ _ _ => trivial)⟩⟩ rfl rfl hl.1 rfl (lv_room (Nat.le_of_ble_eq_true rfl)) dX1_length_12 ⟨Nat.le_of_ble_eq_true rfl, Nat.le_of_ble_eq_true rfl⟩) hS (fun q _ h => hFc q h) hFc (fun r u t H1 locs ht hvm hw hB hz1 hk1 hS => ?_)
        obtain ⟨n1, f1⟩ := u
        obtain ⟨hP1, hK1, hD1⟩ := hB
        rw [ht] at hP1
        try dsimp only at hw hP1 hD1
        obtain ⟨hr9, hu⟩ := hw
        cases hu
        obtain ⟨hP, hD⟩ := va_join (wr := [(q 0, .inr (1, [.int (nI C), .ref (q 1), .ref (q 2), .ref (q 3), .ref (q 4), .ref (q 9), .ref (q 10), .ref (q 11), .int (nI tg), .int hi, .int mi, .int go])), (q 1, .inr (0, [.ref (q 5), .int (nI ((L 1).length))])), (q 5, .inl (ca 1, 64, .inl (f_5 1))), (q 2, .inr (0, [.ref (q 6), .int (nI ((L 2).length))])), (q 6, .inl (ca 2, 64, .inl (f_5 2))), (q 4, .inr (0, [.ref (q 8), .int (nI ((L 4).length))])), (q 8, .inl (ca 4, 64, .inl (f_5 4))), (q 9, .inl (ca 5, 64, .inl w)), (q 10, .inl (ca 6, 64, .inl d)), (q 11, .inl (ca 7, 64, .inl st))]) (w1 := (cal (q 3) (q 7) (ca 3) ((L 3).length) (f_5 3))) hP hD [5, 6] [0, 1, 2, 3, 4, 7, 8, 9, 10, 11] rfl rfl (by decide) (by decide) hk1 hFc hP1 hD1
        generalize H1 = H at hP hS ⊢
        replace hP := hP.sub (ws' := (cx q ca C L f_5 w d st tg hi mi go)) [0, 1, 2, 3, 4, 10, 11, 5, 6, 7, 8, 9] rfl
        replace hD := hD.sub (ws' := (cx q ca C L f_5 w d st tg hi mi go)) [0, 1, 2, 3, 4, 10, 11, 5, 6, 7, 8, 9] (by decide) rfl
        subst hr9
        refine lv_goto (tgt := 19) hx hb dX1_length_15 (by decide) ?_
        exact W.iret (v := nI ((L 3).length)) hx hb hr (fun t ht hW => ⟨⟨nI ((L 3).length), (L, w, d, st, tg, hi, mi, go), rfl, ⟨by unfold ap_len; rw [if_neg hyes9]; first | exact hr9 | rfl, rfl⟩, f_5, hfx_6, by rw [ht]; exact hP, va_K.moved hW.alike hK, hD⟩, hS.F ht⟩) hS.2.2 dX1_length_19
    · skip
      refine lv_if_eq (tgt := 18) hx hb dX1_length_4 (by decide) (fun c_4 => ?_) (fun c_4 => ?_)
      · skip
        replace c_4 : 1 = 0 := (nI_eq (a := 1) (b := 0) (by omega) (by omega)).mp c_4
        exact absurd c_4 (by omega)
      · skip
        replace c_4 : ¬ (1 = 0) := fun h9 => c_4 ((nI_eq (a := 1) (b := 0) (by omega) (by omega)).mpr h9)
        refine lv_aload_n hx hb dX1_length_7 rfl (lv_at hl 0 rfl) ?_
        refine lv_iload_n hx hb dX1_length_8 rfl (lv_at hl 1 rfl) ?_
        have hPc := hP.sub (ws' := (cx q ca C L f w d st tg hi mi go)) [0, 1, 2, 3, 4, 5, 6, 7, 8, 9, 10, 11] rfl
        have hDc := hD.sub (ws' := (cx q ca C L f w d st tg hi mi go)) [0, 1, 2, 3, 4, 5, 6, 7, 8, 9, 10, 11] (by decide) rfl
        have hKc := hK.sub (tys' := (kx ca)) [0, 1, 2, 3, 4, 5, 6] rfl
        have hFc := va_free (wc := (cx q ca C L f w d st tg hi mi go)) hD hS hA [0, 1, 2, 3, 4, 5, 6, 7, 8, 9, 10, 11] rfl
        refine va_callr (va_runV (As := [.int (nI 4)]) (rest := []) ⟨hx, hb, hml, hown, hts⟩ (c_X_listNumbered l dC dI q ca C L f w d st tg hi mi go 4 H.size (by decide) (by decide) hf) (cwV 1 hts gX1_length_X1_listNumbered rfl rfl rfl (by decide +kernel) ⟨Nat.le_of_ble_eq_true rfl, Nat.le_of_ble_eq_true rfl⟩) ⟨fun a U g mk q => by obtain ⟨q0, q1, qP, qK, qD⟩ := q; exact ⟨q0, q1, qP, va_K.moved (u := U) (U := U.calling g mk a) (Vm.Alike.refl U.vm) qK, qD⟩, va_recv hKc hPc (ci := 1) (q0 := 0) rfl rfl, fun U hU hW => ⟨rfl, by rw [hU], by rw [hU]; exact hPc, va_K.moved hW.alike hKc, hDc.weaken (fun _ _ _ _ => trivial)⟩⟩ rfl rfl hl.1 rfl (lv_room (Nat.le_of_ble_eq_true rfl)) dX1_length_9 ⟨Nat.le_of_ble_eq_true rfl, Nat.le_of_ble_eq_true rfl⟩) hS (fun q _ h => hFc q h) hFc (fun u ra t H1 locs ht hvm hw hB hz1 hk1 hS => ?_)
        obtain ⟨era, f1, hf1, hP1, hK1, hD1⟩ := hB
        rw [ht] at hP1
        subst era
        obtain ⟨f_7, ef_7⟩ : ∃ z, z = f1 := ⟨_, rfl⟩
        rw [← ef_7] at hf1 hP1 hD1
        clear ef_7 f1
        have hfx_8 := hf1
        obtain ⟨hP, hD⟩ := va_join (wr := []) (w1 := (cx q ca C L f_7 w d st tg hi mi go)) hP hD [0, 1, 2, 3, 4, 5, 6, 7, 8, 9, 10, 11] [] rfl rfl (by decide) (by decide) hk1 hFc hP1 hD1
        generalize H1 = H at hP hS ⊢
        replace hP : va_P (dC, dI) vwCl (cx q ca C L f_7 w d st tg hi mi go) H := hP
        replace hD : va_D A (cx q ca C L f_7 w d st tg hi mi go) := hD
        have hPc := hP.sub (ws' := (cal (q 4) (q 8) (ca 4) ((L 4).length) (f_7 4))) [7, 8] rfl
        have hDc := hD.sub (ws' := (cal (q 4) (q 8) (ca 4) ((L 4).length) (f_7 4))) [7, 8] (by decide) rfl
        have hKc := hK.sub (tys' := (kal (ca 4))) [3] rfl
        have hFc := va_free (wc := (cal (q 4) (q 8) (ca 4) ((L 4).length) (f_7 4))) hD hS hA [7, 8] rfl
        refine va_calli (va_runV (As := []) (rest := []) ⟨hx, hb, hml, hown, hts⟩ (c_A_size l dC dI (q 4) (q 8) (ca 4) (L 4).length (f_7 4) H.size) (cwV 0 hts gX1_length_X0_size rfl rfl rfl (by decide +kernel) ⟨Nat.le_of_ble_eq_true rfl, Nat.le_of_ble_eq_true rfl⟩) ⟨fun a U g mk q => by obtain ⟨q0, q1, qP, qK, qD⟩ := q; exact ⟨q0, q1, qP, va_K.moved (u := U) (U := U.calling g mk a) (Vm.Alike.refl U.vm) qK, qD⟩, va_recv hKc hPc (ci := 0) (q0 := 0) rfl rfl, fun U hU hW => ⟨rfl, by rw [hU], by rw [hU]; exact hPc, va_K.moved hW.alike hKc, hDc.weaken (fun _ _ _ _ => trivial)⟩⟩ rfl rfl hl.1 rfl (lv_room (Nat.le_of_ble_eq_true rfl)) dX1_length_12 ⟨Nat.le_of_ble_eq_true rfl, Nat.le_of_ble_eq_true rfl⟩) hS (fun q _ h => hFc q h) hFc (fun r u t H1 locs ht hvm hw hB hz1 hk1 hS => ?_)
        obtain ⟨n1, f1⟩ := u
        obtain ⟨hP1, hK1, hD1⟩ := hB
        rw [ht] at hP1
        try dsimp only at hw hP1 hD1
        obtain ⟨hr9, hu⟩ := hw
        cases hu
        obtain ⟨hP, hD⟩ := va_join (wr := [(q 0, .inr (1, [.int (nI C), .ref (q 1), .ref (q 2), .ref (q 3), .ref (q 4), .ref (q 9), .ref (q 10), .ref (q 11), .int (nI tg), .int hi, .int mi, .int go])), (q 1, .inr (0, [.ref (q 5), .int (nI ((L 1).length))])), (q 5, .inl (ca 1, 64, .inl (f_7 1))), (q 2, .inr (0, [.ref (q 6), .int (nI ((L 2).length))])), (q 6, .inl (ca 2, 64, .inl (f_7 2))), (q 3, .inr (0, [.ref (q 7), .int (nI ((L 3).length))])), (q 7, .inl (ca 3, 64, .inl (f_7 3))), (q 9, .inl (ca 5, 64, .inl w)), (q 10, .inl (ca 6, 64, .inl d)), (q 11, .inl (ca 7, 64, .inl st))]) (w1 := (cal (q 4) (q 8) (ca 4) ((L 4).length) (f_7 4))) hP hD [7, 8] [0, 1, 2, 3, 4, 5, 6, 9, 10, 11] rfl rfl (by decide) (by decide) hk1 hFc hP1 hD1
        generalize H1 = H at hP hS ⊢
        replace hP := hP.sub (ws' := (cx q ca C L f_7 w d st tg hi mi go)) [0, 1, 2, 3, 4, 5, 6, 10, 11, 7, 8, 9] rfl
        replace hD := hD.sub (ws' := (cx q ca C L f_7 w d st tg hi mi go)) [0, 1, 2, 3, 4, 5, 6, 10, 11, 7, 8, 9] (by decide) rfl
        subst hr9
        refine lv_goto (tgt := 19) hx hb dX1_length_15 (by decide) ?_
        exact W.iret (v := nI ((L 4).length)) hx hb hr (fun t ht hW => ⟨⟨nI ((L 4).length), (L, w, d, st, tg, hi, mi, go), rfl, ⟨by unfold ap_len; rw [if_neg hyes9]; first | exact hr9 | rfl, rfl⟩, f_7, hfx_8, by rw [ht]; exact hP, va_K.moved hW.alike hK, hD⟩, hS.F ht⟩) hS.2.2 dX1_length_19
set_option maxHeartbeats 4000000 in
set_option maxRecDepth 100000 in
theorem c_X_read (l : Launch) (dC : Nat → ClassId) (dI : Nat → Nat → Nat) (q : Nat → Nat) (ca : Nat → ClassId) (C : Nat) (L : Nat → List Int32) (f : Nat → Nat → Int32) (w d st : Nat → Int32) (tg : Nat) (hi mi go : Int32) (x : Int32) (sz : Nat) (hf : fx_ok f L) (hok : ap_ok C tg L) : Met l yX1_read wsX1_read ({ frames := 6, cells := 0, slots := 0, locals := 173 }) (va_Pc [.ref (q 0), .int x] (fun U => U.heap.size = sz ∧ va_P (dC, dI) vwCl (cx q ca C L f w d st tg hi mi go) U.heap ∧ va_K (dC, dI) vwCl (kx ca) U ∧ va_D (fun _ => True) (cx q ca C L f w d st tg hi mi go) ∧ va_Nw (.methodLinkNest RX0 23 yX1_isAddress "ArcCache") U)) (va_Qi (fun (r : Int32) (u : ap_U) => (r, u) = ap_rd C x (L, w, d, st, tg, hi, mi, go)) (at_X dC dI (va_A (cx q ca C L f w d st tg hi mi go) sz) q ca C) (va_A (cx q ca C L f w d st tg hi mi go) sz)) 0 0 (va_A (cx q ca C L f w d st tg hi mi go) sz) := by
  refine Met.ofW (cc := cX1_read) (maxL := 2) (ret := (some .int)) (by decide) rfl ?_
  intro p e s m args below meth c s₁ B hml hv
  obtain ⟨rfl, hsz, hP, hK, hD0, hN⟩ := hv
  have hx := B.exec
  have hb := B.bytes
  have hr := B.returns
  have hts := atoms_spec (ws := wsX1_read) B.pre
  have hown : s.vm.findClass RX1 = some m.cls := findClass_of_methodNamed B.named
  have hlocks := B.notSynchronized
  have hwX1 : ∀ w ∈ u_ws RX1 TX1 12, w ∈ wsX1_read := by decide +kernel
  subst hsz
  have hD := hD0.self (sz := s.heap.size)
  generalize hAe : va_A (cx q ca C L f w d st tg hi mi go) s.heap.size = A at hD ⊢
  have hA : ∀ q : Nat, s.heap.size ≤ q → A q := fun q h => by rw [← hAe]; exact Or.inr h
  have hS0 : ∀ H, s.heap = H → va_S A s.heap H [] := fun H h => by subst h; exact va_S.rf
  have hl := lv_entry ([.ref (q 0), .int x]) (n := 2) (Nat.le_of_ble_eq_true rfl)
  rw [lg_entry_eq]
  generalize (lg_sl ([.ref (q 0), .int x]) ++ List.replicate (2 - (lg_sl ([.ref (q 0), .int x])).length) Slot.unset).toArray = ls at hl ⊢
  have hl : lv_has ls 2 [(0, .ref (q 0)), (1, .int x)] := hl
  generalize hHe : s.heap = H at hP ⊢
  have hS := hS0 H hHe
  refine lv_iload_n hx hb dX1_read_0 rfl (lv_at hl 1 rfl) ?_
  have hPc := hP.sub (ws' := []) [] rfl
  have hDc := hD.sub (ws' := []) [] (by decide) rfl
  have hFc := va_free (wc := []) hD hS hA [] rfl
  refine va_calli (va_runS (As := [.int x]) (rest := []) ⟨hx, hb, hml, hown, hts⟩ (c_X_isAddress l dC dI x H.size) (va_cwS 1 hts gX1_read_X1_isAddress rfl rfl rfl (by decide +kernel) ⟨Nat.le_of_ble_eq_true rfl, Nat.le_of_ble_eq_true rfl⟩) ⟨fun a U g mk q => by obtain ⟨q0, q1⟩ := q; exact ⟨q0, q1⟩, fun U hU hW => ⟨rfl, by show U.heap.size = _; rw [hU]⟩⟩ rfl rfl hl.1 rfl (lv_room (Nat.le_of_ble_eq_true rfl)) dX1_read_1 ⟨Nat.le_of_ble_eq_true rfl, Nat.le_of_ble_eq_true rfl⟩) hS (fun q _ h => hFc q h) hFc (fun r u t H1 locs ht hvm hw hB hz1 hk1 hS => ?_)
  obtain ⟨hP, hD⟩ := va_join (wr := (cx q ca C L f w d st tg hi mi go)) (w1 := []) hP hD [] [0, 1, 2, 3, 4, 5, 6, 7, 8, 9, 10, 11] rfl rfl (by decide) (by decide) hk1 hFc (fun k q h => by simp at h) ⟨fun i j p q h => by simp at h, fun k q h => by simp at h⟩
  generalize H1 = H at hP hS ⊢
  replace hP : va_P (dC, dI) vwCl (cx q ca C L f w d st tg hi mi go) H := hP
  replace hD : va_D A (cx q ca C L f w d st tg hi mi go) := hD
  by_cases hyes9 : x < 0 ∨ nI 64 ≤ x
  · rw [if_pos hyes9] at hw
    subst hw
    refine lv_if_ne (tgt := 9) hx hb dX1_read_4 (by decide) (fun c_4 => ?_) (fun c_4 => ?_)
    · skip
      replace c_4 : ¬ (0 = 0) := fun h9 => c_4 ((nI_eq (a := 0) (b := 0) (by omega) (by omega)).mpr h9)
      exact absurd c_4 (by omega)
    · skip
      replace c_4 : 0 = 0 := (nI_eq (a := 0) (b := 0) (by omega) (by omega)).mp c_4
      refine lv_iconst (v := nI 0) hx hb dX1_read_7 (by decide) ?_
      exact W.iret (v := nI 0) hx hb hr (fun t ht hW => ⟨⟨nI 0, (L, w, d, st, tg, hi, mi, go), rfl, by unfold ap_rd; rw [if_pos hyes9]; rfl, f, hf, by rw [ht]; exact hP, va_K.moved hW.alike hK, hD⟩, hS.F ht⟩) hS.2.2 dX1_read_8
  · have hno9 := hyes9
    rw [if_neg hno9] at hw
    subst hw
    have hx64 : vp_in x 64 := vp_in_64.mpr hno9
    refine lv_if_ne (tgt := 9) hx hb dX1_read_4 (by decide) (fun c_4 => ?_) (fun c_4 => ?_)
    · skip
      replace c_4 : ¬ (1 = 0) := fun h9 => c_4 ((nI_eq (a := 1) (b := 0) (by omega) (by omega)).mpr h9)
      refine lv_aload_n hx hb dX1_read_9 rfl (lv_at hl 0 rfl) ?_
      refine lv_iload_n hx hb dX1_read_10 rfl (lv_at hl 1 rfl) ?_
      have hPc := hP.sub (ws' := (cx q ca C L f w d st tg hi mi go)) [0, 1, 2, 3, 4, 5, 6, 7, 8, 9, 10, 11] rfl
      have hDc := hD.sub (ws' := (cx q ca C L f w d st tg hi mi go)) [0, 1, 2, 3, 4, 5, 6, 7, 8, 9, 10, 11] (by decide) rfl
      have hKc := hK.sub (tys' := (kx ca)) [0, 1, 2, 3, 4, 5, 6] rfl
      have hFc := va_free (wc := (cx q ca C L f w d st tg hi mi go)) hD hS hA [0, 1, 2, 3, 4, 5, 6, 7, 8, 9, 10, 11] rfl
      refine va_callv (va_runV (As := [.int x]) (rest := []) ⟨hx, hb, hml, hown, hts⟩ (c_X_request l dC dI q ca C L f w d st tg hi mi go x H.size hf hok hx64) (cwV 1 hts gX1_read_X1_request rfl rfl rfl (by decide +kernel) ⟨Nat.le_of_ble_eq_true rfl, Nat.le_of_ble_eq_true rfl⟩) ⟨fun a U g mk q => by obtain ⟨q0, q1, qP, qK, qD, qN⟩ := q; exact ⟨q0, q1, qP, va_K.moved (u := U) (U := U.calling g mk a) (Vm.Alike.refl U.vm) qK, qD, va_tabs rfl (rfl : U.vm = (U.calling g mk a).vm) qN⟩, va_recv hKc hPc (ci := 1) (q0 := 0) rfl rfl, fun U hU hW => ⟨rfl, by rw [hU], by rw [hU]; exact hPc, va_K.moved hW.alike hKc, hDc.weaken (fun _ _ _ _ => trivial), va_Nw.warmM hW hN⟩⟩ rfl rfl hl.1 rfl (lv_room (Nat.le_of_ble_eq_true rfl)) dX1_read_11 ⟨Nat.le_of_ble_eq_true rfl, Nat.le_of_ble_eq_true rfl⟩) hS (fun q _ h => hFc q h) hFc (fun u t H1 locs ht hvm hw hB hz1 hk1 hS => ?_)
      obtain ⟨L1, w1, d1, st1, tg1, hi1, mi1, go1⟩ := u
      obtain ⟨f1, hf1, hP1, hK1, hD1⟩ := hB
      rw [ht] at hP1
      have hw9 := hw
      obtain ⟨hP, hD⟩ := va_join (wr := []) (w1 := (cx q ca C L1 f1 w1 d1 st1 tg1 hi1 mi1 go1)) hP hD [0, 1, 2, 3, 4, 5, 6, 7, 8, 9, 10, 11] [] rfl rfl (by decide) (by decide) hk1 hFc hP1 hD1
      generalize H1 = H at hP hS ⊢
      replace hP : va_P (dC, dI) vwCl (cx q ca C L1 f1 w1 d1 st1 tg1 hi1 mi1 go1) H := hP
      replace hD : va_D A (cx q ca C L1 f1 w1 d1 st1 tg1 hi1 mi1 go1) := hD
      refine lv_aload_n hx hb dX1_read_14 rfl (lv_at hl 0 rfl) ?_
      refine va_get (D := (dC, dI)) (ci := 1) (v := .ref (q 9)) (C := RX1) (T := TX1) (N := 12) hx hb hts hwX1 hown hK hP 0 rfl rfl 5 (by decide) (hts (.fieldLink RX1 25 "ArcCache" "pageWords" "[I") (by decide +kernel)) (fun _ h9 => h9) rfl dX1_read_15 ?_
      refine lv_iload_n hx hb dX1_read_18 rfl (lv_at hl 1 rfl) ?_
      refine va_iald hx hb hK hP 9 4 rfl rfl hx64 dX1_read_19 ?_
      exact W.iret (v := w1 x.toNatClampNeg) hx hb hr (fun t ht hW => ⟨⟨w1 x.toNatClampNeg, (L1, w1, d1, st1, tg1, hi1, mi1, go1), rfl, by unfold ap_rd; rw [if_neg hno9, ← hw9], f1, hf1, by rw [ht]; exact hP, va_K.moved hW.alike hK, hD⟩, hS.F ht⟩) hS.2.2 dX1_read_20
    · skip
      replace c_4 : 1 = 0 := (nI_eq (a := 1) (b := 0) (by omega) (by omega)).mp c_4
      exact absurd c_4 (by omega)
set_option maxHeartbeats 4000000 in
set_option maxRecDepth 100000 in
theorem c_X_write (l : Launch) (dC : Nat → ClassId) (dI : Nat → Nat → Nat) (q : Nat → Nat) (ca : Nat → ClassId) (C : Nat) (L : Nat → List Int32) (f : Nat → Nat → Int32) (w d st : Nat → Int32) (tg : Nat) (hi mi go : Int32) (x y : Int32) (sz : Nat) (hf : fx_ok f L) (hok : ap_ok C tg L) : Met l yX1_write wsX1_write ({ frames := 6, cells := 0, slots := 0, locals := 173 }) (va_Pc [.ref (q 0), .int x, .int y] (fun U => U.heap.size = sz ∧ va_P (dC, dI) vwCl (cx q ca C L f w d st tg hi mi go) U.heap ∧ va_K (dC, dI) vwCl (kx ca) U ∧ va_D (fun _ => True) (cx q ca C L f w d st tg hi mi go) ∧ va_Nw (.methodLinkNest RX0 23 yX1_isAddress "ArcCache") U)) (va_Qi (fun (r : Int32) (u : ap_U) => (r, u) = ap_wr C x y (L, w, d, st, tg, hi, mi, go)) (at_X dC dI (va_A (cx q ca C L f w d st tg hi mi go) sz) q ca C) (va_A (cx q ca C L f w d st tg hi mi go) sz)) 0 0 (va_A (cx q ca C L f w d st tg hi mi go) sz) := by
  refine Met.ofW (cc := cX1_write) (maxL := 3) (ret := (some .boolean)) (by decide) rfl ?_
  intro p e s m args below meth c s₁ B hml hv
  obtain ⟨rfl, hsz, hP, hK, hD0, hN⟩ := hv
  have hx := B.exec
  have hb := B.bytes
  have hr := B.returns
  have hts := atoms_spec (ws := wsX1_write) B.pre
  have hown : s.vm.findClass RX1 = some m.cls := findClass_of_methodNamed B.named
  have hlocks := B.notSynchronized
  have hwX1 : ∀ w ∈ u_ws RX1 TX1 12, w ∈ wsX1_write := by decide +kernel
  subst hsz
  have hD := hD0.self (sz := s.heap.size)
  generalize hAe : va_A (cx q ca C L f w d st tg hi mi go) s.heap.size = A at hD ⊢
  have hA : ∀ q : Nat, s.heap.size ≤ q → A q := fun q h => by rw [← hAe]; exact Or.inr h
  have hS0 : ∀ H, s.heap = H → va_S A s.heap H [] := fun H h => by subst h; exact va_S.rf
  have hl := lv_entry ([.ref (q 0), .int x, .int y]) (n := 3) (Nat.le_of_ble_eq_true rfl)
  rw [lg_entry_eq]
  generalize (lg_sl ([.ref (q 0), .int x, .int y]) ++ List.replicate (3 - (lg_sl ([.ref (q 0), .int x, .int y])).length) Slot.unset).toArray = ls at hl ⊢
  have hl : lv_has ls 3 [(0, .ref (q 0)), (1, .int x), (2, .int y)] := hl
  generalize hHe : s.heap = H at hP ⊢
  have hS := hS0 H hHe
  refine lv_iload_n hx hb dX1_write_0 rfl (lv_at hl 1 rfl) ?_
  have hPc := hP.sub (ws' := []) [] rfl
  have hDc := hD.sub (ws' := []) [] (by decide) rfl
  have hFc := va_free (wc := []) hD hS hA [] rfl
  refine va_calli (va_runS (As := [.int x]) (rest := []) ⟨hx, hb, hml, hown, hts⟩ (c_X_isAddress l dC dI x H.size) (va_cwS 1 hts gX1_write_X1_isAddress rfl rfl rfl (by decide +kernel) ⟨Nat.le_of_ble_eq_true rfl, Nat.le_of_ble_eq_true rfl⟩) ⟨fun a U g mk q => by obtain ⟨q0, q1⟩ := q; exact ⟨q0, q1⟩, fun U hU hW => ⟨rfl, by show U.heap.size = _; rw [hU]⟩⟩ rfl rfl hl.1 rfl (lv_room (Nat.le_of_ble_eq_true rfl)) dX1_write_1 ⟨Nat.le_of_ble_eq_true rfl, Nat.le_of_ble_eq_true rfl⟩) hS (fun q _ h => hFc q h) hFc (fun r u t H1 locs ht hvm hw hB hz1 hk1 hS => ?_)
  obtain ⟨hP, hD⟩ := va_join (wr := (cx q ca C L f w d st tg hi mi go)) (w1 := []) hP hD [] [0, 1, 2, 3, 4, 5, 6, 7, 8, 9, 10, 11] rfl rfl (by decide) (by decide) hk1 hFc (fun k q h => by simp at h) ⟨fun i j p q h => by simp at h, fun k q h => by simp at h⟩
  generalize H1 = H at hP hS ⊢
  replace hP : va_P (dC, dI) vwCl (cx q ca C L f w d st tg hi mi go) H := hP
  replace hD : va_D A (cx q ca C L f w d st tg hi mi go) := hD
  by_cases hyes9 : x < 0 ∨ nI 64 ≤ x
  · rw [if_pos hyes9] at hw
    subst hw
    refine lv_if_ne (tgt := 9) hx hb dX1_write_4 (by decide) (fun c_4 => ?_) (fun c_4 => ?_)
    · skip
      replace c_4 : ¬ (0 = 0) := fun h9 => c_4 ((nI_eq (a := 0) (b := 0) (by omega) (by omega)).mpr h9)
      exact absurd c_4 (by omega)
    · skip
      replace c_4 : 0 = 0 := (nI_eq (a := 0) (b := 0) (by omega) (by omega)).mp c_4
      refine lv_iconst (v := nI 0) hx hb dX1_write_7 (by decide) ?_
      exact W.zret (v := nI 0) (ty := .boolean) hx hb hr (by decide) (fun t ht hW => ⟨⟨nI 0, (L, w, d, st, tg, hi, mi, go), rfl, by unfold ap_wr; rw [if_pos hyes9]; rfl, f, hf, by rw [ht]; exact hP, va_K.moved hW.alike hK, hD⟩, hS.F ht⟩) hS.2.2 dX1_write_8
  · have hno9 := hyes9
    rw [if_neg hno9] at hw
    subst hw
    have hx64 : vp_in x 64 := vp_in_64.mpr hno9
    refine lv_if_ne (tgt := 9) hx hb dX1_write_4 (by decide) (fun c_4 => ?_) (fun c_4 => ?_)
    · skip
      replace c_4 : ¬ (1 = 0) := fun h9 => c_4 ((nI_eq (a := 1) (b := 0) (by omega) (by omega)).mpr h9)
      refine lv_aload_n hx hb dX1_write_9 rfl (lv_at hl 0 rfl) ?_
      refine lv_iload_n hx hb dX1_write_10 rfl (lv_at hl 1 rfl) ?_
      have hPc := hP.sub (ws' := (cx q ca C L f w d st tg hi mi go)) [0, 1, 2, 3, 4, 5, 6, 7, 8, 9, 10, 11] rfl
      have hDc := hD.sub (ws' := (cx q ca C L f w d st tg hi mi go)) [0, 1, 2, 3, 4, 5, 6, 7, 8, 9, 10, 11] (by decide) rfl
      have hKc := hK.sub (tys' := (kx ca)) [0, 1, 2, 3, 4, 5, 6] rfl
      have hFc := va_free (wc := (cx q ca C L f w d st tg hi mi go)) hD hS hA [0, 1, 2, 3, 4, 5, 6, 7, 8, 9, 10, 11] rfl
      refine va_callv (va_runV (As := [.int x]) (rest := []) ⟨hx, hb, hml, hown, hts⟩ (c_X_request l dC dI q ca C L f w d st tg hi mi go x H.size hf hok hx64) (cwV 1 hts gX1_write_X1_request rfl rfl rfl (by decide +kernel) ⟨Nat.le_of_ble_eq_true rfl, Nat.le_of_ble_eq_true rfl⟩) ⟨fun a U g mk q => by obtain ⟨q0, q1, qP, qK, qD, qN⟩ := q; exact ⟨q0, q1, qP, va_K.moved (u := U) (U := U.calling g mk a) (Vm.Alike.refl U.vm) qK, qD, va_tabs rfl (rfl : U.vm = (U.calling g mk a).vm) qN⟩, va_recv hKc hPc (ci := 1) (q0 := 0) rfl rfl, fun U hU hW => ⟨rfl, by rw [hU], by rw [hU]; exact hPc, va_K.moved hW.alike hKc, hDc.weaken (fun _ _ _ _ => trivial), va_Nw.warmM hW hN⟩⟩ rfl rfl hl.1 rfl (lv_room (Nat.le_of_ble_eq_true rfl)) dX1_write_11 ⟨Nat.le_of_ble_eq_true rfl, Nat.le_of_ble_eq_true rfl⟩) hS (fun q _ h => hFc q h) hFc (fun u t H1 locs ht hvm hw hB hz1 hk1 hS => ?_)
      obtain ⟨L1, w1, d1, st1, tg1, hi1, mi1, go1⟩ := u
      obtain ⟨f1, hf1, hP1, hK1, hD1⟩ := hB
      rw [ht] at hP1
      have hw9 := hw
      obtain ⟨hP, hD⟩ := va_join (wr := []) (w1 := (cx q ca C L1 f1 w1 d1 st1 tg1 hi1 mi1 go1)) hP hD [0, 1, 2, 3, 4, 5, 6, 7, 8, 9, 10, 11] [] rfl rfl (by decide) (by decide) hk1 hFc hP1 hD1
      generalize H1 = H at hP hS ⊢
      replace hP : va_P (dC, dI) vwCl (cx q ca C L1 f1 w1 d1 st1 tg1 hi1 mi1 go1) H := hP
      replace hD : va_D A (cx q ca C L1 f1 w1 d1 st1 tg1 hi1 mi1 go1) := hD
      refine lv_aload_n hx hb dX1_write_14 rfl (lv_at hl 0 rfl) ?_
      refine va_get (D := (dC, dI)) (ci := 1) (v := .ref (q 9)) (C := RX1) (T := TX1) (N := 12) hx hb hts hwX1 hown hK hP 0 rfl rfl 5 (by decide) (hts (.fieldLink RX1 25 "ArcCache" "pageWords" "[I") (by decide +kernel)) (fun _ h9 => h9) rfl dX1_write_15 ?_
      refine lv_iload_n hx hb dX1_write_18 rfl (lv_at hl 1 rfl) ?_
      refine lv_iload_n hx hb dX1_write_19 rfl (lv_at hl 2 rfl) ?_
      refine va_iast hx hb hK hP hD hS 9 4 rfl rfl hx64 dX1_write_20 (fun H locs hP hD hS => ?_)
      replace hP : va_P (dC, dI) vwCl (cx q ca C L1 f1 (upd w1 x.toNatClampNeg y) d1 st1 tg1 hi1 mi1 go1) H := hP
      replace hD : va_D A (cx q ca C L1 f1 (upd w1 x.toNatClampNeg y) d1 st1 tg1 hi1 mi1 go1) := hD
      refine lv_aload_n hx hb dX1_write_21 rfl (lv_at hl 0 rfl) ?_
      refine va_get (D := (dC, dI)) (ci := 1) (v := .ref (q 10)) (C := RX1) (T := TX1) (N := 12) hx hb hts hwX1 hown hK hP 0 rfl rfl 6 (by decide) (hts (.fieldLink RX1 29 "ArcCache" "dirtyPages" "[Z") (by decide +kernel)) (fun _ h9 => h9) rfl dX1_write_22 ?_
      refine lv_iload_n hx hb dX1_write_25 rfl (lv_at hl 1 rfl) ?_
      refine lv_iconst (v := nI 1) hx hb dX1_write_26 (by decide) ?_
      refine va_zast hx hb hK hP hD hS 10 5 rfl rfl hx64 dX1_write_27 (fun H locs hP hD hS => ?_)
      rw [ap_nar1] at hP hD
      replace hP : va_P (dC, dI) vwCl (cx q ca C L1 f1 (upd w1 x.toNatClampNeg y) (upd d1 x.toNatClampNeg 1) st1 tg1 hi1 mi1 go1) H := hP
      replace hD : va_D A (cx q ca C L1 f1 (upd w1 x.toNatClampNeg y) (upd d1 x.toNatClampNeg 1) st1 tg1 hi1 mi1 go1) := hD
      refine lv_iconst (v := nI 1) hx hb dX1_write_28 (by decide) ?_
      exact W.zret (v := nI 1) (ty := .boolean) hx hb hr (by decide) (fun t ht hW => ⟨⟨nI 1, (L1, upd w1 x.toNatClampNeg y, upd d1 x.toNatClampNeg 1, st1, tg1, hi1, mi1, go1), rfl, by unfold ap_wr; rw [if_neg hno9, ← hw9]; rfl, f1, hf1, by rw [ht]; exact hP, va_K.moved hW.alike hK, hD⟩, hS.F ht⟩) hS.2.2 dX1_write_29
    · skip
      replace c_4 : 1 = 0 := (nI_eq (a := 1) (b := 0) (by omega) (by omega)).mp c_4
      exact absurd c_4 (by omega)
set_option maxHeartbeats 4000000 in
set_option maxRecDepth 100000 in
theorem c_X_flush (l : Launch) (dC : Nat → ClassId) (dI : Nat → Nat → Nat) (q : Nat → Nat) (ca : Nat → ClassId) (C : Nat) (L : Nat → List Int32) (f : Nat → Nat → Int32) (w d st : Nat → Int32) (tg : Nat) (hi mi go : Int32)  (sz : Nat) (hf : fx_ok f L) : Met l yX1_flush wsX1_flush ({ frames := 1, cells := 0, slots := 0, locals := 21 }) (va_Pc [.ref (q 0)] (fun U => U.heap.size = sz ∧ va_P (dC, dI) vwCl (cx q ca C L f w d st tg hi mi go) U.heap ∧ va_K (dC, dI) vwCl (kx ca) U ∧ va_D (fun _ => True) (cx q ca C L f w d st tg hi mi go))) (va_Qi (fun (r : Int32) (u : ap_U) => r = (ap_fl w (d, st, nI 0) 64).2.2 ∧ u = (L, w, (ap_fl w (d, st, nI 0) 64).1, (ap_fl w (d, st, nI 0) 64).2.1, tg, hi, mi, go)) (at_X dC dI (va_A (cx q ca C L f w d st tg hi mi go) sz) q ca C) (va_A (cx q ca C L f w d st tg hi mi go) sz)) 0 0 (va_A (cx q ca C L f w d st tg hi mi go) sz) := by
  refine Met.ofW (cc := cX1_flush) (maxL := 3) (ret := (some .int)) (by decide) rfl ?_
  intro p e s m args below meth c s₁ B hml hv
  obtain ⟨rfl, hsz, hP, hK, hD0⟩ := hv
  have hx := B.exec
  have hb := B.bytes
  have hr := B.returns
  have hts := atoms_spec (ws := wsX1_flush) B.pre
  have hown : s.vm.findClass RX1 = some m.cls := findClass_of_methodNamed B.named
  have hlocks := B.notSynchronized
  have hwX1 : ∀ w ∈ u_ws RX1 TX1 12, w ∈ wsX1_flush := by decide +kernel
  subst hsz
  have hD := hD0.self (sz := s.heap.size)
  generalize hAe : va_A (cx q ca C L f w d st tg hi mi go) s.heap.size = A at hD ⊢
  have hA : ∀ q : Nat, s.heap.size ≤ q → A q := fun q h => by rw [← hAe]; exact Or.inr h
  have hS0 : ∀ H, s.heap = H → va_S A s.heap H [] := fun H h => by subst h; exact va_S.rf
  have hl := lv_entry ([.ref (q 0)]) (n := 3) (Nat.le_of_ble_eq_true rfl)
  rw [lg_entry_eq]
  generalize (lg_sl ([.ref (q 0)]) ++ List.replicate (3 - (lg_sl ([.ref (q 0)])).length) Slot.unset).toArray = ls at hl ⊢
  have hl : lv_has ls 3 [(0, .ref (q 0))] := hl
  generalize hHe : s.heap = H at hP ⊢
  have hS := hS0 H hHe
  refine lv_iconst (v := nI 0) hx hb dX1_flush_0 (by decide) ?_
  refine lv_istore_n (lv' := [(1, .int (nI 0)), (0, .ref (q 0))]) hx hb dX1_flush_1 rfl hl (by decide) rfl (fun ls hl => ?_)
  refine lv_iconst (v := nI 0) hx hb dX1_flush_2 (by decide) ?_
  refine lv_istore_n (lv' := [(2, .int (nI 0)), (1, .int (nI 0)), (0, .ref (q 0))]) hx hb dX1_flush_3 rfl hl (by decide) rfl (fun ls hl => ?_)
  have loop : ∀ (k : Nat) (i : Nat) (g : Nat → Nat → Int32) (ls : Array Slot) (H : Heap) (locs : List Loc), (i ≤ 64) → (fx_ok g L) → lv_has ls 3 [(0, .ref (q 0)), (1, .int ((ap_fl w (d, st, nI 0) i).2.2)), (2, .int (nI i))] → va_P (dC, dI) vwCl (cx q ca C L g w ((ap_fl w (d, st, nI 0) i).1) ((ap_fl w (d, st, nI 0) i).2.1) tg hi mi go) H → va_D A (cx q ca C L g w ((ap_fl w (d, st, nI 0) i).1) ((ap_fl w (d, st, nI 0) i).2.1) tg hi mi go) → va_S A s.heap H locs → 65 ≤ i + k → W p l e (headSpec wsX1_flush ({ frames := 1, cells := 0, slots := 0, locals := 21 })).room s m ([.ref (q 0)] : List Value).toArray below meth c H locs 0 0 (MQ below (va_Qi (fun (r : Int32) (u : ap_U) => r = (ap_fl w (d, st, nI 0) 64).2.2 ∧ u = (L, w, (ap_fl w (d, st, nI 0) 64).1, (ap_fl w (d, st, nI 0) 64).2.1, tg, hi, mi, go)) (at_X dC dI A q ca C) A) ([.ref (q 0)] : List Value).toArray s 0 0 A) (F0 m 4 ls []) := by
    intro k
    induction k with
    | zero => intro i g ls H locs hi64 hg hl hP hD hS hk; exact absurd hk (by omega)
    | succ k ih =>
      intro i g ls H locs hi64 hg hl hP hD hS hk
      refine lv_iload_n hx hb dX1_flush_4 rfl (lv_at hl 2 rfl) ?_
      refine lv_bipush (v := nI 64) hx hb dX1_flush_5 (by decide) ?_
      refine lv_icmp_ge (tgt := 33) hx hb dX1_flush_7 (by decide) (fun c_7 => ?_) (fun c_7 => ?_)
      · skip
        replace c_7 : 64 ≤ i := (nI_leI (a := 64) (b := i) (by omega) (by omega)).mp c_7
        have e64 : i = 64 := by omega
        subst e64
        refine lv_iload_n hx hb dX1_flush_33 rfl (lv_at hl 1 rfl) ?_
        exact W.iret (v := (ap_fl w (d, st, nI 0) 64).2.2) hx hb hr (fun t ht hW => ⟨⟨(ap_fl w (d, st, nI 0) 64).2.2, (L, w, (ap_fl w (d, st, nI 0) 64).1, (ap_fl w (d, st, nI 0) 64).2.1, tg, hi, mi, go), rfl, ⟨rfl, rfl⟩, g, hg, by rw [ht]; exact hP, va_K.moved hW.alike hK, hD⟩, hS.F ht⟩) hS.2.2 dX1_flush_34
      · skip
        replace c_7 : ¬ (64 ≤ i) := fun h9 => c_7 ((nI_leI (a := 64) (b := i) (by omega) (by omega)).mpr h9)
        refine lv_aload_n hx hb dX1_flush_10 rfl (lv_at hl 0 rfl) ?_
        refine va_get (D := (dC, dI)) (ci := 1) (v := .ref (q 10)) (C := RX1) (T := TX1) (N := 12) hx hb hts hwX1 hown hK hP 0 rfl rfl 6 (by decide) (hts (.fieldLink RX1 29 "ArcCache" "dirtyPages" "[Z") (by decide +kernel)) (fun _ h9 => h9) rfl dX1_flush_11 ?_
        refine lv_iload_n hx hb dX1_flush_14 rfl (lv_at hl 2 rfl) ?_
        refine va_zald hx hb hK hP 10 5 rfl rfl (vp_in_nI (show i < 64 by omega) (by decide)) dX1_flush_15 ?_
        refine lv_topi (fun x_2 e_x_2 => ?_)
        have e_x_2 : x_2 = ((ap_fl w (d, st, nI 0) i).1) i := by rw [e_x_2]; rw [nI_clamp (by omega)]
        subst e_x_2
        refine lv_if_eq (tgt := 27) hx hb dX1_flush_16 (by decide) (fun c_16 => ?_) (fun c_16 => ?_)
        · skip
          refine lv_iinc (v := nI (i + 1)) (lv' := [(2, .int (nI (i + 1))), (0, .ref (q 0)), (1, .int ((ap_fl w (d, st, nI 0) i).2.2))]) hx hb dX1_flush_27 hl (k := 2) rfl (nI_add _ _) (by decide) rfl (fun ls hl => ?_)
          refine lv_goto (tgt := 4) hx hb dX1_flush_30 (by decide) ?_
          have eF9 : (ap_fl w (d, st, nI 0) (i + 1)) = (ap_fl w (d, st, nI 0) i) := ap_f1_0 (by omega) c_16
          replace hP : va_P (dC, dI) vwCl (cx q ca C L g w ((ap_fl w (d, st, nI 0) (i + 1)).1) ((ap_fl w (d, st, nI 0) (i + 1)).2.1) tg hi mi go) H := by rw [eF9]; exact hP
          replace hD : va_D A (cx q ca C L g w ((ap_fl w (d, st, nI 0) (i + 1)).1) ((ap_fl w (d, st, nI 0) (i + 1)).2.1) tg hi mi go) := by rw [eF9]; exact hD
          replace hl : lv_has ls 3 [(2, .int (nI (i + 1))), (0, .ref (q 0)), (1, .int ((ap_fl w (d, st, nI 0) (i + 1)).2.2))] := by rw [eF9]; exact hl
          exact ih (i + 1) g _ _ _ (by omega) hg (lv_sub hl [1, 2, 0] rfl) hP hD hS (by omega)
        · skip
          refine lv_aload_n hx hb dX1_flush_19 rfl (lv_at hl 0 rfl) ?_
          refine lv_iload_n hx hb dX1_flush_20 rfl (lv_at hl 2 rfl) ?_
          have hPc := hP.sub (ws' := (cx q ca C L g w ((ap_fl w (d, st, nI 0) i).1) ((ap_fl w (d, st, nI 0) i).2.1) tg hi mi go)) [0, 1, 2, 3, 4, 5, 6, 7, 8, 9, 10, 11] rfl
          have hDc := hD.sub (ws' := (cx q ca C L g w ((ap_fl w (d, st, nI 0) i).1) ((ap_fl w (d, st, nI 0) i).2.1) tg hi mi go)) [0, 1, 2, 3, 4, 5, 6, 7, 8, 9, 10, 11] (by decide) rfl
          have hKc := hK.sub (tys' := (kx ca)) [0, 1, 2, 3, 4, 5, 6] rfl
          have hFc := va_free (wc := (cx q ca C L g w ((ap_fl w (d, st, nI 0) i).1) ((ap_fl w (d, st, nI 0) i).2.1) tg hi mi go)) hD hS hA [0, 1, 2, 3, 4, 5, 6, 7, 8, 9, 10, 11] rfl
          refine va_callv (va_runV (As := [.int (nI i)]) (rest := []) ⟨hx, hb, hml, hown, hts⟩ (c_X_writeBack l dC dI q ca C L g w ((ap_fl w (d, st, nI 0) i).1) ((ap_fl w (d, st, nI 0) i).2.1) tg hi mi go (nI i) H.size hg (vp_in_nI (show i < 64 by omega) (by decide))) (cwV 1 hts gX1_flush_X1_writeBack rfl rfl rfl (by decide +kernel) ⟨Nat.le_of_ble_eq_true rfl, Nat.le_of_ble_eq_true rfl⟩) ⟨fun a U g mk q => by obtain ⟨q0, q1, qP, qK, qD⟩ := q; exact ⟨q0, q1, qP, va_K.moved (u := U) (U := U.calling g mk a) (Vm.Alike.refl U.vm) qK, qD⟩, va_recv hKc hPc (ci := 1) (q0 := 0) rfl rfl, fun U hU hW => ⟨rfl, by rw [hU], by rw [hU]; exact hPc, va_K.moved hW.alike hKc, hDc.weaken (fun _ _ _ _ => trivial)⟩⟩ rfl rfl hl.1 rfl (lv_room (Nat.le_of_ble_eq_true rfl)) dX1_flush_21 ⟨Nat.le_of_ble_eq_true rfl, Nat.le_of_ble_eq_true rfl⟩) hS (fun q _ h => hFc q h) hFc (fun u t H1 locs ht hvm hw hB hz1 hk1 hS => ?_)
          obtain ⟨L1, w1, d1, st1, tg1, hi1, mi1, go1⟩ := u
          obtain ⟨f1, hf1, hP1, hK1, hD1⟩ := hB
          rw [ht] at hP1
          cases hw
          obtain ⟨f_3, ef_3⟩ : ∃ z, z = f1 := ⟨_, rfl⟩
          rw [← ef_3] at hf1 hP1 hD1
          clear ef_3 f1
          have hfx_4 := hf1
          obtain ⟨hP, hD⟩ := va_join (wr := []) (w1 := (cx q ca C L f_3 w (upd (ap_fl w (d, st, nI 0) i).1 (nI i).toNatClampNeg 0) (upd (ap_fl w (d, st, nI 0) i).2.1 (nI i).toNatClampNeg (w (nI i).toNatClampNeg)) tg hi mi go)) hP hD [0, 1, 2, 3, 4, 5, 6, 7, 8, 9, 10, 11] [] rfl rfl (by decide) (by decide) hk1 hFc hP1 hD1
          generalize H1 = H at hP hS ⊢
          replace hP : va_P (dC, dI) vwCl (cx q ca C L f_3 w (upd (ap_fl w (d, st, nI 0) i).1 (nI i).toNatClampNeg 0) (upd (ap_fl w (d, st, nI 0) i).2.1 (nI i).toNatClampNeg (w (nI i).toNatClampNeg)) tg hi mi go) H := hP
          replace hD : va_D A (cx q ca C L f_3 w (upd (ap_fl w (d, st, nI 0) i).1 (nI i).toNatClampNeg 0) (upd (ap_fl w (d, st, nI 0) i).2.1 (nI i).toNatClampNeg (w (nI i).toNatClampNeg)) tg hi mi go) := hD
          refine lv_iinc (v := (ap_fl w (d, st, nI 0) i).2.2 + 1) (lv' := [(1, .int ((ap_fl w (d, st, nI 0) i).2.2 + 1)), (0, .ref (q 0)), (2, .int (nI i))]) hx hb dX1_flush_24 hl (k := 1) rfl (rfl) (by decide) rfl (fun ls hl => ?_)
          refine lv_iinc (v := nI (i + 1)) (lv' := [(2, .int (nI (i + 1))), (1, .int ((ap_fl w (d, st, nI 0) i).2.2 + 1)), (0, .ref (q 0))]) hx hb dX1_flush_27 hl (k := 2) rfl (nI_add _ _) (by decide) rfl (fun ls hl => ?_)
          refine lv_goto (tgt := 4) hx hb dX1_flush_30 (by decide) ?_
          have eF9 : (ap_fl w (d, st, nI 0) (i + 1)) = (upd (ap_fl w (d, st, nI 0) i).1 i 0, upd (ap_fl w (d, st, nI 0) i).2.1 i (w i), (ap_fl w (d, st, nI 0) i).2.2 + 1) := ap_f1_1 (by omega) c_16
          rw [nI_clamp (show i < 2 ^ 31 by omega)] at hP hD
          replace hP : va_P (dC, dI) vwCl (cx q ca C L f_3 w ((ap_fl w (d, st, nI 0) (i + 1)).1) ((ap_fl w (d, st, nI 0) (i + 1)).2.1) tg hi mi go) H := by rw [eF9]; exact hP
          replace hD : va_D A (cx q ca C L f_3 w ((ap_fl w (d, st, nI 0) (i + 1)).1) ((ap_fl w (d, st, nI 0) (i + 1)).2.1) tg hi mi go) := by rw [eF9]; exact hD
          replace hl : lv_has ls 3 [(2, .int (nI (i + 1))), (1, .int ((ap_fl w (d, st, nI 0) (i + 1)).2.2)), (0, .ref (q 0))] := by rw [eF9]; exact hl
          exact ih (i + 1) f_3 _ _ _ (by omega) hfx_4 (lv_sub hl [2, 1, 0] rfl) hP hD hS (by omega)
  exact loop 65 0 f ls H _ (Nat.zero_le _) hf (lv_sub hl [2, 1, 0] rfl) hP hD hS (by omega)
set_option maxHeartbeats 4000000 in
set_option maxRecDepth 100000 in
theorem c_J_fill (l : Launch) (dC : Nat → ClassId) (dI : Nat → Nat → Nat) (a : Nat) (cA : ClassId) (f : Nat → Int32) (sz : Nat)  : Met l yJ7_fill_53178 wsJ7_fill_53178 ({ frames := 0, cells := 0, slots := 0, locals := 0 }) (va_Pc [.ref a, .int (nI 0)] (fun U => U.heap.size = sz ∧ va_P (dC, dI) vwCl (cfa a cA f) U.heap ∧ va_K (dC, dI) vwCl (kal cA) U ∧ va_D (fun _ => True) (cfa a cA f))) (va_Qv (fun (u : Nat → Int32) => u = ap_z 64 f) (fun (u : Nat → Int32) (t9 : State) => va_P (dC, dI) vwCl (cfa a cA u) t9.heap ∧ va_K (dC, dI) vwCl (kal cA) t9 ∧ va_D (va_A (cfa a cA f) sz) (cfa a cA u)) (va_A (cfa a cA f) sz)) 0 0 (va_A (cfa a cA f) sz) := by
  refine Met.ofW (cc := cJ7_fill_53178) (maxL := 4) (ret := none) (by decide) rfl ?_
  intro p e s m args below meth c s₁ B hml hv
  obtain ⟨rfl, hsz, hP, hK, hD0⟩ := hv
  have hx := B.exec
  have hb := B.bytes
  have hr := B.returns
  have hts := atoms_spec (ws := wsJ7_fill_53178) B.pre
  have hown : s.vm.findClass RJ7 = some m.cls := findClass_of_methodNamed B.named
  have hlocks := B.notSynchronized
  subst hsz
  have hD := hD0.self (sz := s.heap.size)
  generalize hAe : va_A (cfa a cA f) s.heap.size = A at hD ⊢
  have hA : ∀ q : Nat, s.heap.size ≤ q → A q := fun q h => by rw [← hAe]; exact Or.inr h
  have hS0 : ∀ H, s.heap = H → va_S A s.heap H [] := fun H h => by subst h; exact va_S.rf
  have hl := lv_entry ([.ref a, .int (nI 0)]) (n := 4) (Nat.le_of_ble_eq_true rfl)
  rw [lg_entry_eq]
  generalize (lg_sl ([.ref a, .int (nI 0)]) ++ List.replicate (4 - (lg_sl ([.ref a, .int (nI 0)])).length) Slot.unset).toArray = ls at hl ⊢
  have hl : lv_has ls 4 [(0, .ref a), (1, .int (nI 0))] := hl
  generalize hHe : s.heap = H at hP ⊢
  have hS := hS0 H hHe
  refine lv_iconst (v := nI 0) hx hb dJ7_fill_53178_0 (by decide) ?_
  refine lv_istore_n (lv' := [(2, .int (nI 0)), (0, .ref a), (1, .int (nI 0))]) hx hb dJ7_fill_53178_1 rfl hl (by decide) rfl (fun ls hl => ?_)
  refine lv_aload_n hx hb dJ7_fill_53178_2 rfl (lv_at hl 1 rfl) ?_
  refine va_alen (v := nI 64) hx hb hK hP 0 0 rfl rfl rfl dJ7_fill_53178_3 ?_
  refine lv_istore_n (lv' := [(3, .int (nI 64)), (2, .int (nI 0)), (0, .ref a), (1, .int (nI 0))]) hx hb dJ7_fill_53178_4 rfl hl (by decide) rfl (fun ls hl => ?_)
  rw [← ap_z_0 (f := f)] at hP hD
  have loop : ∀ (k : Nat) (i : Nat) (ls : Array Slot) (H : Heap) (locs : List Loc), (i ≤ 64) → lv_has ls 4 [(0, .ref a), (1, .int (nI 0)), (2, .int (nI i)), (3, .int (nI 64))] → va_P (dC, dI) vwCl (cfa a cA (ap_z i f)) H → va_D A (cfa a cA (ap_z i f)) → va_S A s.heap H locs → 65 ≤ i + k → W p l e (headSpec wsJ7_fill_53178 ({ frames := 0, cells := 0, slots := 0, locals := 0 })).room s m ([.ref a, .int (nI 0)] : List Value).toArray below meth c H locs 0 0 (MQ below (va_Qv (fun (u : Nat → Int32) => u = ap_z 64 f) (fun (u : Nat → Int32) (t9 : State) => va_P (dC, dI) vwCl (cfa a cA u) t9.heap ∧ va_K (dC, dI) vwCl (kal cA) t9 ∧ va_D A (cfa a cA u)) A) ([.ref a, .int (nI 0)] : List Value).toArray s 0 0 A) (F0 m 5 ls []) := by
    intro k
    induction k with
    | zero => intro i ls H locs hi64 hl hP hD hS hk; exact absurd hk (by omega)
    | succ k ih =>
      intro i ls H locs hi64 hl hP hD hS hk
      refine lv_iload_n hx hb dJ7_fill_53178_5 rfl (lv_at hl 2 rfl) ?_
      refine lv_iload_n hx hb dJ7_fill_53178_6 rfl (lv_at hl 3 rfl) ?_
      refine lv_icmp_ge (tgt := 20) hx hb dJ7_fill_53178_7 (by decide) (fun c_7 => ?_) (fun c_7 => ?_)
      · skip
        replace c_7 : 64 ≤ i := (nI_leI (a := 64) (b := i) (by omega) (by omega)).mp c_7
        have e64 : i = 64 := by omega
        subst e64
        exact W.vret hx hb hr (fun t ht hW => ⟨⟨ap_z 64 f, rfl, rfl, by rw [ht]; exact hP, va_K.moved hW.alike hK, hD⟩, hS.F ht⟩) hS.2.2 dJ7_fill_53178_20
      · skip
        replace c_7 : ¬ (64 ≤ i) := fun h9 => c_7 ((nI_leI (a := 64) (b := i) (by omega) (by omega)).mpr h9)
        refine lv_aload_n hx hb dJ7_fill_53178_10 rfl (lv_at hl 0 rfl) ?_
        refine lv_iload_n hx hb dJ7_fill_53178_11 rfl (lv_at hl 2 rfl) ?_
        refine lv_iload_n hx hb dJ7_fill_53178_12 rfl (lv_at hl 1 rfl) ?_
        refine va_iast hx hb hK hP hD hS 0 0 rfl rfl (vp_in_nI (show i < 64 by omega) (by decide)) dJ7_fill_53178_13 (fun H locs hP hD hS => ?_)
        rw [nI_clamp (show i < 2 ^ 31 by omega)] at hP hD
        replace hP : va_P (dC, dI) vwCl (cfa a cA (upd (ap_z i f) i (nI 0))) H := hP
        replace hD : va_D A (cfa a cA (upd (ap_z i f) i (nI 0))) := hD
        refine lv_iinc (v := nI (i + 1)) (lv' := [(2, .int (nI (i + 1))), (0, .ref a), (1, .int (nI 0)), (3, .int (nI 64))]) hx hb dJ7_fill_53178_14 hl (k := 2) rfl (nI_add _ _) (by decide) rfl (fun ls hl => ?_)
        refine lv_goto (tgt := 5) hx hb dJ7_fill_53178_17 (by decide) ?_
        replace hP : va_P (dC, dI) vwCl (cfa a cA (ap_z (i + 1) f)) H := by rw [← ap_z_s]; exact hP
        replace hD : va_D A (cfa a cA (ap_z (i + 1) f)) := by rw [← ap_z_s]; exact hD
        exact ih (i + 1) _ _ _ (by omega) (lv_sub hl [1, 2, 0, 3] rfl) hP hD hS (by omega)
  exact loop 65 0 ls H _ (Nat.zero_le _) (lv_sub hl [2, 3, 1, 0] rfl) hP hD hS (by omega)
end
section
-- THE CLASS, init (laid by wip/gen/xx6.py)
set_option maxHeartbeats 4000000 in
set_option maxRecDepth 100000 in
theorem c_X_init_ (l : Launch) (dC : Nat → ClassId) (dI : Nat → Nat → Nat) (q : Nat → Nat) (ca : Nat → ClassId) (C : Nat) (L : Nat → List Int32) (f : Nat → Nat → Int32) (w d st : Nat → Int32) (tg : Nat) (hi mi go : Int32)  (sz : Nat) (hf : fx_ok f L) : Met l yX1_init_ wsX1_init_ ({ frames := 1, cells := 0, slots := 0, locals := 23 }) (va_Pc [.ref (q 0)] (fun U => U.heap.size = sz ∧ va_P (dC, dI) vwCl (cx q ca C L f w d st tg hi mi go) U.heap ∧ va_K (dC, dI) vwCl (kx ca) U ∧ va_D (fun _ => True) (cx q ca C L f w d st tg hi mi go))) (va_Qv (fun (u : ap_U) => u = (fun _ => [], ap_z 64 w, ap_z 64 d, ap_z 64 st, 0, 0, 0, 0)) (at_X dC dI (va_A (cx q ca C L f w d st tg hi mi go) sz) q ca C) (va_A (cx q ca C L f w d st tg hi mi go) sz)) 0 0 (va_A (cx q ca C L f w d st tg hi mi go) sz) := by
  refine Met.ofW (cc := cX1_init_) (maxL := 2) (ret := none) (by decide) rfl ?_
  intro p e s m args below meth c s₁ B hml hv
  obtain ⟨rfl, hsz, hP, hK, hD0⟩ := hv
  have hx := B.exec
  have hb := B.bytes
  have hr := B.returns
  have hts := atoms_spec (ws := wsX1_init_) B.pre
  have hown : s.vm.findClass RX1 = some m.cls := findClass_of_methodNamed B.named
  have hlocks := B.notSynchronized
  have hwX1 : ∀ w ∈ u_ws RX1 TX1 12, w ∈ wsX1_init_ := by decide +kernel
  subst hsz
  have hD := hD0.self (sz := s.heap.size)
  generalize hAe : va_A (cx q ca C L f w d st tg hi mi go) s.heap.size = A at hD ⊢
  have hA : ∀ q : Nat, s.heap.size ≤ q → A q := fun q h => by rw [← hAe]; exact Or.inr h
  have hS0 : ∀ H, s.heap = H → va_S A s.heap H [] := fun H h => by subst h; exact va_S.rf
  have hl := lv_entry ([.ref (q 0)]) (n := 2) (Nat.le_of_ble_eq_true rfl)
  rw [lg_entry_eq]
  generalize (lg_sl ([.ref (q 0)]) ++ List.replicate (2 - (lg_sl ([.ref (q 0)])).length) Slot.unset).toArray = ls at hl ⊢
  have hl : lv_has ls 2 [(0, .ref (q 0))] := hl
  generalize hHe : s.heap = H at hP ⊢
  have hS := hS0 H hHe
  refine lv_aload_n hx hb dX1_init__0 rfl (lv_at hl 0 rfl) ?_
  refine va_get (D := (dC, dI)) (ci := 1) (v := .ref (q 1)) (C := RX1) (T := TX1) (N := 12) hx hb hts hwX1 hown hK hP 0 rfl rfl 1 (by decide) (hts (.fieldLink RX1 10 "ArcCache" "cameOnce" "LArcCache$AddressList;") (by decide +kernel)) (fun _ h9 => h9) rfl dX1_init__1 ?_
  have hPc := hP.sub (ws' := (cal (q 1) (q 5) (ca 1) ((L 1).length) (f 1))) [1, 2] rfl
  have hDc := hD.sub (ws' := (cal (q 1) (q 5) (ca 1) ((L 1).length) (f 1))) [1, 2] (by decide) rfl
  have hKc := hK.sub (tys' := (kal (ca 1))) [0] rfl
  have hFc := va_free (wc := (cal (q 1) (q 5) (ca 1) ((L 1).length) (f 1))) hD hS hA [1, 2] rfl
  refine va_callv (va_runV (As := []) (rest := []) ⟨hx, hb, hml, hown, hts⟩ (c_A_empty l dC dI (q 1) (q 5) (ca 1) (L 1).length (f 1) H.size) (cwV 0 hts gX1_init__X0_empty rfl rfl rfl (by decide +kernel) ⟨Nat.le_of_ble_eq_true rfl, Nat.le_of_ble_eq_true rfl⟩) ⟨fun a U g mk q => by obtain ⟨q0, q1, qP, qK, qD⟩ := q; exact ⟨q0, q1, qP, va_K.moved (u := U) (U := U.calling g mk a) (Vm.Alike.refl U.vm) qK, qD⟩, va_recv hKc hPc (ci := 0) (q0 := 0) rfl rfl, fun U hU hW => ⟨rfl, by rw [hU], by rw [hU]; exact hPc, va_K.moved hW.alike hKc, hDc.weaken (fun _ _ _ _ => trivial)⟩⟩ rfl rfl hl.1 rfl (lv_room (Nat.le_of_ble_eq_true rfl)) dX1_init__4 ⟨Nat.le_of_ble_eq_true rfl, Nat.le_of_ble_eq_true rfl⟩) hS (fun q _ h => hFc q h) hFc (fun u t H1 locs ht hvm hw hB hz1 hk1 hS => ?_)
  obtain ⟨n1, f1⟩ := u
  obtain ⟨hP1, hK1, hD1⟩ := hB
  rw [ht] at hP1
  try dsimp only at hw hP1 hD1
  cases hw
  obtain ⟨hP, hD⟩ := va_join (wr := [(q 0, .inr (1, [.int (nI C), .ref (q 1), .ref (q 2), .ref (q 3), .ref (q 4), .ref (q 9), .ref (q 10), .ref (q 11), .int (nI tg), .int hi, .int mi, .int go])), (q 2, .inr (0, [.ref (q 6), .int (nI ((L 2).length))])), (q 6, .inl (ca 2, 64, .inl (f 2))), (q 3, .inr (0, [.ref (q 7), .int (nI ((L 3).length))])), (q 7, .inl (ca 3, 64, .inl (f 3))), (q 4, .inr (0, [.ref (q 8), .int (nI ((L 4).length))])), (q 8, .inl (ca 4, 64, .inl (f 4))), (q 9, .inl (ca 5, 64, .inl w)), (q 10, .inl (ca 6, 64, .inl d)), (q 11, .inl (ca 7, 64, .inl st))]) (w1 := (cal (q 1) (q 5) (ca 1) 0 (f 1))) hP hD [1, 2] [0, 3, 4, 5, 6, 7, 8, 9, 10, 11] rfl rfl (by decide) (by decide) hk1 hFc hP1 hD1
  generalize H1 = H at hP hS ⊢
  replace hP := hP.sub (ws' := (cx q ca C (va_up L 1 []) f w d st tg hi mi go)) [0, 10, 11, 1, 2, 3, 4, 5, 6, 7, 8, 9] rfl
  replace hD := hD.sub (ws' := (cx q ca C (va_up L 1 []) f w d st tg hi mi go)) [0, 10, 11, 1, 2, 3, 4, 5, 6, 7, 8, 9] (by decide) rfl
  refine lv_aload_n hx hb dX1_init__7 rfl (lv_at hl 0 rfl) ?_
  refine va_get (D := (dC, dI)) (ci := 1) (v := .ref (q 2)) (C := RX1) (T := TX1) (N := 12) hx hb hts hwX1 hown hK hP 0 rfl rfl 2 (by decide) (hts (.fieldLink RX1 16 "ArcCache" "cameAgain" "LArcCache$AddressList;") (by decide +kernel)) (fun _ h9 => h9) rfl dX1_init__8 ?_
  have hPc := hP.sub (ws' := (cal (q 2) (q 6) (ca 2) (((va_up L 1 []) 2).length) (f 2))) [3, 4] rfl
  have hDc := hD.sub (ws' := (cal (q 2) (q 6) (ca 2) (((va_up L 1 []) 2).length) (f 2))) [3, 4] (by decide) rfl
  have hKc := hK.sub (tys' := (kal (ca 2))) [1] rfl
  have hFc := va_free (wc := (cal (q 2) (q 6) (ca 2) (((va_up L 1 []) 2).length) (f 2))) hD hS hA [3, 4] rfl
  refine va_callv (va_runV (As := []) (rest := []) ⟨hx, hb, hml, hown, hts⟩ (c_A_empty l dC dI (q 2) (q 6) (ca 2) ((va_up L 1 []) 2).length (f 2) H.size) (cwV 0 hts gX1_init__X0_empty rfl rfl rfl (by decide +kernel) ⟨Nat.le_of_ble_eq_true rfl, Nat.le_of_ble_eq_true rfl⟩) ⟨fun a U g mk q => by obtain ⟨q0, q1, qP, qK, qD⟩ := q; exact ⟨q0, q1, qP, va_K.moved (u := U) (U := U.calling g mk a) (Vm.Alike.refl U.vm) qK, qD⟩, va_recv hKc hPc (ci := 0) (q0 := 0) rfl rfl, fun U hU hW => ⟨rfl, by rw [hU], by rw [hU]; exact hPc, va_K.moved hW.alike hKc, hDc.weaken (fun _ _ _ _ => trivial)⟩⟩ rfl rfl hl.1 rfl (lv_room (Nat.le_of_ble_eq_true rfl)) dX1_init__11 ⟨Nat.le_of_ble_eq_true rfl, Nat.le_of_ble_eq_true rfl⟩) hS (fun q _ h => hFc q h) hFc (fun u t H1 locs ht hvm hw hB hz1 hk1 hS => ?_)
  obtain ⟨n1, f1⟩ := u
  obtain ⟨hP1, hK1, hD1⟩ := hB
  rw [ht] at hP1
  try dsimp only at hw hP1 hD1
  cases hw
  obtain ⟨hP, hD⟩ := va_join (wr := [(q 0, .inr (1, [.int (nI C), .ref (q 1), .ref (q 2), .ref (q 3), .ref (q 4), .ref (q 9), .ref (q 10), .ref (q 11), .int (nI tg), .int hi, .int mi, .int go])), (q 1, .inr (0, [.ref (q 5), .int (nI (((va_up L 1 []) 1).length))])), (q 5, .inl (ca 1, 64, .inl (f 1))), (q 3, .inr (0, [.ref (q 7), .int (nI (((va_up L 1 []) 3).length))])), (q 7, .inl (ca 3, 64, .inl (f 3))), (q 4, .inr (0, [.ref (q 8), .int (nI (((va_up L 1 []) 4).length))])), (q 8, .inl (ca 4, 64, .inl (f 4))), (q 9, .inl (ca 5, 64, .inl w)), (q 10, .inl (ca 6, 64, .inl d)), (q 11, .inl (ca 7, 64, .inl st))]) (w1 := (cal (q 2) (q 6) (ca 2) 0 (f 2))) hP hD [3, 4] [0, 1, 2, 5, 6, 7, 8, 9, 10, 11] rfl rfl (by decide) (by decide) hk1 hFc hP1 hD1
  generalize H1 = H at hP hS ⊢
  replace hP := hP.sub (ws' := (cx q ca C (va_up (va_up L 1 []) 2 []) f w d st tg hi mi go)) [0, 1, 2, 10, 11, 3, 4, 5, 6, 7, 8, 9] rfl
  replace hD := hD.sub (ws' := (cx q ca C (va_up (va_up L 1 []) 2 []) f w d st tg hi mi go)) [0, 1, 2, 10, 11, 3, 4, 5, 6, 7, 8, 9] (by decide) rfl
  refine lv_aload_n hx hb dX1_init__14 rfl (lv_at hl 0 rfl) ?_
  refine va_get (D := (dC, dI)) (ci := 1) (v := .ref (q 3)) (C := RX1) (T := TX1) (N := 12) hx hb hts hwX1 hown hK hP 0 rfl rfl 3 (by decide) (hts (.fieldLink RX1 19 "ArcCache" "wentOnce" "LArcCache$AddressList;") (by decide +kernel)) (fun _ h9 => h9) rfl dX1_init__15 ?_
  have hPc := hP.sub (ws' := (cal (q 3) (q 7) (ca 3) (((va_up (va_up L 1 []) 2 []) 3).length) (f 3))) [5, 6] rfl
  have hDc := hD.sub (ws' := (cal (q 3) (q 7) (ca 3) (((va_up (va_up L 1 []) 2 []) 3).length) (f 3))) [5, 6] (by decide) rfl
  have hKc := hK.sub (tys' := (kal (ca 3))) [2] rfl
  have hFc := va_free (wc := (cal (q 3) (q 7) (ca 3) (((va_up (va_up L 1 []) 2 []) 3).length) (f 3))) hD hS hA [5, 6] rfl
  refine va_callv (va_runV (As := []) (rest := []) ⟨hx, hb, hml, hown, hts⟩ (c_A_empty l dC dI (q 3) (q 7) (ca 3) ((va_up (va_up L 1 []) 2 []) 3).length (f 3) H.size) (cwV 0 hts gX1_init__X0_empty rfl rfl rfl (by decide +kernel) ⟨Nat.le_of_ble_eq_true rfl, Nat.le_of_ble_eq_true rfl⟩) ⟨fun a U g mk q => by obtain ⟨q0, q1, qP, qK, qD⟩ := q; exact ⟨q0, q1, qP, va_K.moved (u := U) (U := U.calling g mk a) (Vm.Alike.refl U.vm) qK, qD⟩, va_recv hKc hPc (ci := 0) (q0 := 0) rfl rfl, fun U hU hW => ⟨rfl, by rw [hU], by rw [hU]; exact hPc, va_K.moved hW.alike hKc, hDc.weaken (fun _ _ _ _ => trivial)⟩⟩ rfl rfl hl.1 rfl (lv_room (Nat.le_of_ble_eq_true rfl)) dX1_init__18 ⟨Nat.le_of_ble_eq_true rfl, Nat.le_of_ble_eq_true rfl⟩) hS (fun q _ h => hFc q h) hFc (fun u t H1 locs ht hvm hw hB hz1 hk1 hS => ?_)
  obtain ⟨n1, f1⟩ := u
  obtain ⟨hP1, hK1, hD1⟩ := hB
  rw [ht] at hP1
  try dsimp only at hw hP1 hD1
  cases hw
  obtain ⟨hP, hD⟩ := va_join (wr := [(q 0, .inr (1, [.int (nI C), .ref (q 1), .ref (q 2), .ref (q 3), .ref (q 4), .ref (q 9), .ref (q 10), .ref (q 11), .int (nI tg), .int hi, .int mi, .int go])), (q 1, .inr (0, [.ref (q 5), .int (nI (((va_up (va_up L 1 []) 2 []) 1).length))])), (q 5, .inl (ca 1, 64, .inl (f 1))), (q 2, .inr (0, [.ref (q 6), .int (nI (((va_up (va_up L 1 []) 2 []) 2).length))])), (q 6, .inl (ca 2, 64, .inl (f 2))), (q 4, .inr (0, [.ref (q 8), .int (nI (((va_up (va_up L 1 []) 2 []) 4).length))])), (q 8, .inl (ca 4, 64, .inl (f 4))), (q 9, .inl (ca 5, 64, .inl w)), (q 10, .inl (ca 6, 64, .inl d)), (q 11, .inl (ca 7, 64, .inl st))]) (w1 := (cal (q 3) (q 7) (ca 3) 0 (f 3))) hP hD [5, 6] [0, 1, 2, 3, 4, 7, 8, 9, 10, 11] rfl rfl (by decide) (by decide) hk1 hFc hP1 hD1
  generalize H1 = H at hP hS ⊢
  replace hP := hP.sub (ws' := (cx q ca C (va_up (va_up (va_up L 1 []) 2 []) 3 []) f w d st tg hi mi go)) [0, 1, 2, 3, 4, 10, 11, 5, 6, 7, 8, 9] rfl
  replace hD := hD.sub (ws' := (cx q ca C (va_up (va_up (va_up L 1 []) 2 []) 3 []) f w d st tg hi mi go)) [0, 1, 2, 3, 4, 10, 11, 5, 6, 7, 8, 9] (by decide) rfl
  refine lv_aload_n hx hb dX1_init__21 rfl (lv_at hl 0 rfl) ?_
  refine va_get (D := (dC, dI)) (ci := 1) (v := .ref (q 4)) (C := RX1) (T := TX1) (N := 12) hx hb hts hwX1 hown hK hP 0 rfl rfl 4 (by decide) (hts (.fieldLink RX1 22 "ArcCache" "wentAgain" "LArcCache$AddressList;") (by decide +kernel)) (fun _ h9 => h9) rfl dX1_init__22 ?_
  have hPc := hP.sub (ws' := (cal (q 4) (q 8) (ca 4) (((va_up (va_up (va_up L 1 []) 2 []) 3 []) 4).length) (f 4))) [7, 8] rfl
  have hDc := hD.sub (ws' := (cal (q 4) (q 8) (ca 4) (((va_up (va_up (va_up L 1 []) 2 []) 3 []) 4).length) (f 4))) [7, 8] (by decide) rfl
  have hKc := hK.sub (tys' := (kal (ca 4))) [3] rfl
  have hFc := va_free (wc := (cal (q 4) (q 8) (ca 4) (((va_up (va_up (va_up L 1 []) 2 []) 3 []) 4).length) (f 4))) hD hS hA [7, 8] rfl
  refine va_callv (va_runV (As := []) (rest := []) ⟨hx, hb, hml, hown, hts⟩ (c_A_empty l dC dI (q 4) (q 8) (ca 4) ((va_up (va_up (va_up L 1 []) 2 []) 3 []) 4).length (f 4) H.size) (cwV 0 hts gX1_init__X0_empty rfl rfl rfl (by decide +kernel) ⟨Nat.le_of_ble_eq_true rfl, Nat.le_of_ble_eq_true rfl⟩) ⟨fun a U g mk q => by obtain ⟨q0, q1, qP, qK, qD⟩ := q; exact ⟨q0, q1, qP, va_K.moved (u := U) (U := U.calling g mk a) (Vm.Alike.refl U.vm) qK, qD⟩, va_recv hKc hPc (ci := 0) (q0 := 0) rfl rfl, fun U hU hW => ⟨rfl, by rw [hU], by rw [hU]; exact hPc, va_K.moved hW.alike hKc, hDc.weaken (fun _ _ _ _ => trivial)⟩⟩ rfl rfl hl.1 rfl (lv_room (Nat.le_of_ble_eq_true rfl)) dX1_init__25 ⟨Nat.le_of_ble_eq_true rfl, Nat.le_of_ble_eq_true rfl⟩) hS (fun q _ h => hFc q h) hFc (fun u t H1 locs ht hvm hw hB hz1 hk1 hS => ?_)
  obtain ⟨n1, f1⟩ := u
  obtain ⟨hP1, hK1, hD1⟩ := hB
  rw [ht] at hP1
  try dsimp only at hw hP1 hD1
  cases hw
  obtain ⟨hP, hD⟩ := va_join (wr := [(q 0, .inr (1, [.int (nI C), .ref (q 1), .ref (q 2), .ref (q 3), .ref (q 4), .ref (q 9), .ref (q 10), .ref (q 11), .int (nI tg), .int hi, .int mi, .int go])), (q 1, .inr (0, [.ref (q 5), .int (nI (((va_up (va_up (va_up L 1 []) 2 []) 3 []) 1).length))])), (q 5, .inl (ca 1, 64, .inl (f 1))), (q 2, .inr (0, [.ref (q 6), .int (nI (((va_up (va_up (va_up L 1 []) 2 []) 3 []) 2).length))])), (q 6, .inl (ca 2, 64, .inl (f 2))), (q 3, .inr (0, [.ref (q 7), .int (nI (((va_up (va_up (va_up L 1 []) 2 []) 3 []) 3).length))])), (q 7, .inl (ca 3, 64, .inl (f 3))), (q 9, .inl (ca 5, 64, .inl w)), (q 10, .inl (ca 6, 64, .inl d)), (q 11, .inl (ca 7, 64, .inl st))]) (w1 := (cal (q 4) (q 8) (ca 4) 0 (f 4))) hP hD [7, 8] [0, 1, 2, 3, 4, 5, 6, 9, 10, 11] rfl rfl (by decide) (by decide) hk1 hFc hP1 hD1
  generalize H1 = H at hP hS ⊢
  replace hP := hP.sub (ws' := (cx q ca C (va_up (va_up (va_up (va_up L 1 []) 2 []) 3 []) 4 []) f w d st tg hi mi go)) [0, 1, 2, 3, 4, 5, 6, 10, 11, 7, 8, 9] rfl
  replace hD := hD.sub (ws' := (cx q ca C (va_up (va_up (va_up (va_up L 1 []) 2 []) 3 []) 4 []) f w d st tg hi mi go)) [0, 1, 2, 3, 4, 5, 6, 10, 11, 7, 8, 9] (by decide) rfl
  replace hP : va_P (dC, dI) vwCl (cx q ca C (fun _ => []) f w d st tg hi mi go) H := hP
  replace hD : va_D A (cx q ca C (fun _ => []) f w d st tg hi mi go) := hD
  have hfe9 : fx_ok f (fun _ => []) := fun _ _ _ => ar_nil
  refine lv_aload_n hx hb dX1_init__28 rfl (lv_at hl 0 rfl) ?_
  refine va_get (D := (dC, dI)) (ci := 1) (v := .ref (q 9)) (C := RX1) (T := TX1) (N := 12) hx hb hts hwX1 hown hK hP 0 rfl rfl 5 (by decide) (hts (.fieldLink RX1 25 "ArcCache" "pageWords" "[I") (by decide +kernel)) (fun _ h9 => h9) rfl dX1_init__29 ?_
  refine lv_iconst (v := nI 0) hx hb dX1_init__32 (by decide) ?_
  have hPc := hP.sub (ws' := (cfa (q 9) (ca 5) w)) [9] rfl
  have hDc := hD.sub (ws' := (cfa (q 9) (ca 5) w)) [9] (by decide) rfl
  have hKc := hK.sub (tys' := (kal (ca 5))) [4] rfl
  have hFc := va_free (wc := (cfa (q 9) (ca 5) w)) hD hS hA [9] rfl
  refine va_callv (va_runS (As := [.ref (q 9), .int (nI 0)]) (rest := []) ⟨hx, hb, hml, hown, hts⟩ (c_J_fill l dC dI (q 9) (ca 5) w H.size) (va_cwS 2 hts gX1_init__J7_fill_53178 rfl rfl rfl (by decide +kernel) ⟨Nat.le_of_ble_eq_true rfl, Nat.le_of_ble_eq_true rfl⟩) ⟨fun a U g mk q => by obtain ⟨q0, q1, qP, qK, qD⟩ := q; exact ⟨q0, q1, qP, va_K.moved (u := U) (U := U.calling g mk a) (Vm.Alike.refl U.vm) qK, qD⟩, fun U hU hW => ⟨rfl, by rw [hU], by rw [hU]; exact hPc, va_K.moved hW.alike hKc, hDc.weaken (fun _ _ _ _ => trivial)⟩⟩ rfl rfl hl.1 rfl (lv_room (Nat.le_of_ble_eq_true rfl)) dX1_init__33 ⟨Nat.le_of_ble_eq_true rfl, Nat.le_of_ble_eq_true rfl⟩) hS (fun q _ h => hFc q h) hFc (fun u t H1 locs ht hvm hw hB hz1 hk1 hS => ?_)
  obtain ⟨hP1, hK1, hD1⟩ := hB
  rw [ht] at hP1
  subst hw
  obtain ⟨hP, hD⟩ := va_join (wr := [(q 0, .inr (1, [.int (nI C), .ref (q 1), .ref (q 2), .ref (q 3), .ref (q 4), .ref (q 9), .ref (q 10), .ref (q 11), .int (nI tg), .int hi, .int mi, .int go])), (q 1, .inr (0, [.ref (q 5), .int (nI (((fun _ => []) 1).length))])), (q 5, .inl (ca 1, 64, .inl (f 1))), (q 2, .inr (0, [.ref (q 6), .int (nI (((fun _ => []) 2).length))])), (q 6, .inl (ca 2, 64, .inl (f 2))), (q 3, .inr (0, [.ref (q 7), .int (nI (((fun _ => []) 3).length))])), (q 7, .inl (ca 3, 64, .inl (f 3))), (q 4, .inr (0, [.ref (q 8), .int (nI (((fun _ => []) 4).length))])), (q 8, .inl (ca 4, 64, .inl (f 4))), (q 10, .inl (ca 6, 64, .inl d)), (q 11, .inl (ca 7, 64, .inl st))]) (w1 := (cfa (q 9) (ca 5) (ap_z 64 w))) hP hD [9] [0, 1, 2, 3, 4, 5, 6, 7, 8, 10, 11] rfl rfl (by decide) (by decide) hk1 hFc hP1 hD1
  generalize H1 = H at hP hS ⊢
  replace hP := hP.sub (ws' := (cx q ca C (fun _ => []) f (ap_z 64 w) d st tg hi mi go)) [0, 1, 2, 3, 4, 5, 6, 7, 8, 11, 9, 10] rfl
  replace hD := hD.sub (ws' := (cx q ca C (fun _ => []) f (ap_z 64 w) d st tg hi mi go)) [0, 1, 2, 3, 4, 5, 6, 7, 8, 11, 9, 10] (by decide) rfl
  refine lv_aload_n hx hb dX1_init__36 rfl (lv_at hl 0 rfl) ?_
  refine va_get (D := (dC, dI)) (ci := 1) (v := .ref (q 11)) (C := RX1) (T := TX1) (N := 12) hx hb hts hwX1 hown hK hP 0 rfl rfl 7 (by decide) (hts (.fieldLink RX1 33 "ArcCache" "storeWords" "[I") (by decide +kernel)) (fun _ h9 => h9) rfl dX1_init__37 ?_
  refine lv_iconst (v := nI 0) hx hb dX1_init__40 (by decide) ?_
  have hPc := hP.sub (ws' := (cfa (q 11) (ca 7) st)) [11] rfl
  have hDc := hD.sub (ws' := (cfa (q 11) (ca 7) st)) [11] (by decide) rfl
  have hKc := hK.sub (tys' := (kal (ca 7))) [6] rfl
  have hFc := va_free (wc := (cfa (q 11) (ca 7) st)) hD hS hA [11] rfl
  refine va_callv (va_runS (As := [.ref (q 11), .int (nI 0)]) (rest := []) ⟨hx, hb, hml, hown, hts⟩ (c_J_fill l dC dI (q 11) (ca 7) st H.size) (va_cwS 2 hts gX1_init__J7_fill_53178 rfl rfl rfl (by decide +kernel) ⟨Nat.le_of_ble_eq_true rfl, Nat.le_of_ble_eq_true rfl⟩) ⟨fun a U g mk q => by obtain ⟨q0, q1, qP, qK, qD⟩ := q; exact ⟨q0, q1, qP, va_K.moved (u := U) (U := U.calling g mk a) (Vm.Alike.refl U.vm) qK, qD⟩, fun U hU hW => ⟨rfl, by rw [hU], by rw [hU]; exact hPc, va_K.moved hW.alike hKc, hDc.weaken (fun _ _ _ _ => trivial)⟩⟩ rfl rfl hl.1 rfl (lv_room (Nat.le_of_ble_eq_true rfl)) dX1_init__41 ⟨Nat.le_of_ble_eq_true rfl, Nat.le_of_ble_eq_true rfl⟩) hS (fun q _ h => hFc q h) hFc (fun u t H1 locs ht hvm hw hB hz1 hk1 hS => ?_)
  obtain ⟨hP1, hK1, hD1⟩ := hB
  rw [ht] at hP1
  subst hw
  obtain ⟨hP, hD⟩ := va_join (wr := [(q 0, .inr (1, [.int (nI C), .ref (q 1), .ref (q 2), .ref (q 3), .ref (q 4), .ref (q 9), .ref (q 10), .ref (q 11), .int (nI tg), .int hi, .int mi, .int go])), (q 1, .inr (0, [.ref (q 5), .int (nI (((fun _ => []) 1).length))])), (q 5, .inl (ca 1, 64, .inl (f 1))), (q 2, .inr (0, [.ref (q 6), .int (nI (((fun _ => []) 2).length))])), (q 6, .inl (ca 2, 64, .inl (f 2))), (q 3, .inr (0, [.ref (q 7), .int (nI (((fun _ => []) 3).length))])), (q 7, .inl (ca 3, 64, .inl (f 3))), (q 4, .inr (0, [.ref (q 8), .int (nI (((fun _ => []) 4).length))])), (q 8, .inl (ca 4, 64, .inl (f 4))), (q 9, .inl (ca 5, 64, .inl (ap_z 64 w))), (q 10, .inl (ca 6, 64, .inl d))]) (w1 := (cfa (q 11) (ca 7) (ap_z 64 st))) hP hD [11] [0, 1, 2, 3, 4, 5, 6, 7, 8, 9, 10] rfl rfl (by decide) (by decide) hk1 hFc hP1 hD1
  generalize H1 = H at hP hS ⊢
  replace hP := hP.sub (ws' := (cx q ca C (fun _ => []) f (ap_z 64 w) d (ap_z 64 st) tg hi mi go)) [0, 1, 2, 3, 4, 5, 6, 7, 8, 9, 10, 11] rfl
  replace hD := hD.sub (ws' := (cx q ca C (fun _ => []) f (ap_z 64 w) d (ap_z 64 st) tg hi mi go)) [0, 1, 2, 3, 4, 5, 6, 7, 8, 9, 10, 11] (by decide) rfl
  refine lv_iconst (v := nI 0) hx hb dX1_init__44 (by decide) ?_
  refine lv_istore_n (lv' := [(1, .int (nI 0)), (0, .ref (q 0))]) hx hb dX1_init__45 rfl hl (by decide) rfl (fun ls hl => ?_)
  rw [← ap_z_0 (f := d)] at hP hD
  have loop : ∀ (k : Nat) (i : Nat) (ls : Array Slot) (H : Heap) (locs : List Loc), (i ≤ 64) → lv_has ls 2 [(0, .ref (q 0)), (1, .int (nI i))] → va_P (dC, dI) vwCl (cx q ca C (fun _ => []) f (ap_z 64 w) (ap_z i d) (ap_z 64 st) tg hi mi go) H → va_D A (cx q ca C (fun _ => []) f (ap_z 64 w) (ap_z i d) (ap_z 64 st) tg hi mi go) → va_S A s.heap H locs → 65 ≤ i + k → W p l e (headSpec wsX1_init_ ({ frames := 1, cells := 0, slots := 0, locals := 23 })).room s m ([.ref (q 0)] : List Value).toArray below meth c H locs 0 0 (MQ below (va_Qv (fun (u : ap_U) => u = (fun _ => [], ap_z 64 w, ap_z 64 d, ap_z 64 st, 0, 0, 0, 0)) (at_X dC dI A q ca C) A) ([.ref (q 0)] : List Value).toArray s 0 0 A) (F0 m 46 ls []) := by
    intro k
    induction k with
    | zero => intro i ls H locs hi64 hl hP hD hS hk; exact absurd hk (by omega)
    | succ k ih =>
      intro i ls H locs hi64 hl hP hD hS hk
      refine lv_iload_n hx hb dX1_init__46 rfl (lv_at hl 1 rfl) ?_
      refine lv_bipush (v := nI 64) hx hb dX1_init__47 (by decide) ?_
      refine lv_icmp_ge (tgt := 65) hx hb dX1_init__49 (by decide) (fun c_49 => ?_) (fun c_49 => ?_)
      · skip
        replace c_49 : 64 ≤ i := (nI_leI (a := 64) (b := i) (by omega) (by omega)).mp c_49
        have e64 : i = 64 := by omega
        subst e64
        refine lv_aload_n hx hb dX1_init__65 rfl (lv_at hl 0 rfl) ?_
        refine lv_iconst (v := nI 0) hx hb dX1_init__66 (by decide) ?_
        refine va_put (D := (dC, dI)) (ci := 1) (v := .int (nI 0)) (ty := .int) (C := RX1) (T := TX1) (N := 12) hx hb hts hwX1 tyX1 tyX1_ok nmX1 hown hK hP hD hS 0 rfl rfl 8 (by decide) (hts (.fieldLink RX1 55 "ArcCache" "targetCount" "I") (by decide +kernel)) (fun _ h9 => h9) rfl (by decide +kernel) rfl rfl (Nat.le_of_ble_eq_true rfl) dX1_init__67 (fun H locs hP hD hS => ?_)
        replace hP : va_P (dC, dI) vwCl (cx q ca C (fun _ => []) f (ap_z 64 w) (ap_z 64 d) (ap_z 64 st) 0 hi mi go) H := hP
        replace hD : va_D A (cx q ca C (fun _ => []) f (ap_z 64 w) (ap_z 64 d) (ap_z 64 st) 0 hi mi go) := hD
        refine lv_aload_n hx hb dX1_init__70 rfl (lv_at hl 0 rfl) ?_
        refine lv_iconst (v := nI 0) hx hb dX1_init__71 (by decide) ?_
        refine va_put (D := (dC, dI)) (ci := 1) (v := .int (nI 0)) (ty := .int) (C := RX1) (T := TX1) (N := 12) hx hb hts hwX1 tyX1 tyX1_ok nmX1 hown hK hP hD hS 0 rfl rfl 9 (by decide) (hts (.fieldLink RX1 58 "ArcCache" "hitCount" "I") (by decide +kernel)) (fun _ h9 => h9) rfl (by decide +kernel) rfl rfl (Nat.le_of_ble_eq_true rfl) dX1_init__72 (fun H locs hP hD hS => ?_)
        replace hP : va_P (dC, dI) vwCl (cx q ca C (fun _ => []) f (ap_z 64 w) (ap_z 64 d) (ap_z 64 st) 0 (nI 0) mi go) H := hP
        replace hD : va_D A (cx q ca C (fun _ => []) f (ap_z 64 w) (ap_z 64 d) (ap_z 64 st) 0 (nI 0) mi go) := hD
        refine lv_aload_n hx hb dX1_init__75 rfl (lv_at hl 0 rfl) ?_
        refine lv_iconst (v := nI 0) hx hb dX1_init__76 (by decide) ?_
        refine va_put (D := (dC, dI)) (ci := 1) (v := .int (nI 0)) (ty := .int) (C := RX1) (T := TX1) (N := 12) hx hb hts hwX1 tyX1 tyX1_ok nmX1 hown hK hP hD hS 0 rfl rfl 10 (by decide) (hts (.fieldLink RX1 61 "ArcCache" "missCount" "I") (by decide +kernel)) (fun _ h9 => h9) rfl (by decide +kernel) rfl rfl (Nat.le_of_ble_eq_true rfl) dX1_init__77 (fun H locs hP hD hS => ?_)
        replace hP : va_P (dC, dI) vwCl (cx q ca C (fun _ => []) f (ap_z 64 w) (ap_z 64 d) (ap_z 64 st) 0 (nI 0) (nI 0) go) H := hP
        replace hD : va_D A (cx q ca C (fun _ => []) f (ap_z 64 w) (ap_z 64 d) (ap_z 64 st) 0 (nI 0) (nI 0) go) := hD
        refine lv_aload_n hx hb dX1_init__80 rfl (lv_at hl 0 rfl) ?_
        refine lv_iconst (v := nI 0) hx hb dX1_init__81 (by decide) ?_
        refine va_put (D := (dC, dI)) (ci := 1) (v := .int (nI 0)) (ty := .int) (C := RX1) (T := TX1) (N := 12) hx hb hts hwX1 tyX1 tyX1_ok nmX1 hown hK hP hD hS 0 rfl rfl 11 (by decide) (hts (.fieldLink RX1 64 "ArcCache" "goneCount" "I") (by decide +kernel)) (fun _ h9 => h9) rfl (by decide +kernel) rfl rfl (Nat.le_of_ble_eq_true rfl) dX1_init__82 (fun H locs hP hD hS => ?_)
        replace hP : va_P (dC, dI) vwCl (cx q ca C (fun _ => []) f (ap_z 64 w) (ap_z 64 d) (ap_z 64 st) 0 (nI 0) (nI 0) (nI 0)) H := hP
        replace hD : va_D A (cx q ca C (fun _ => []) f (ap_z 64 w) (ap_z 64 d) (ap_z 64 st) 0 (nI 0) (nI 0) (nI 0)) := hD
        exact W.vret hx hb hr (fun t ht hW => ⟨⟨(fun _ => [], ap_z 64 w, ap_z 64 d, ap_z 64 st, 0, 0, 0, 0), rfl, rfl, f, hfe9, by rw [ht]; exact hP, va_K.moved hW.alike hK, hD⟩, hS.F ht⟩) hS.2.2 dX1_init__85
      · skip
        replace c_49 : ¬ (64 ≤ i) := fun h9 => c_49 ((nI_leI (a := 64) (b := i) (by omega) (by omega)).mpr h9)
        refine lv_aload_n hx hb dX1_init__52 rfl (lv_at hl 0 rfl) ?_
        refine va_get (D := (dC, dI)) (ci := 1) (v := .ref (q 10)) (C := RX1) (T := TX1) (N := 12) hx hb hts hwX1 hown hK hP 0 rfl rfl 6 (by decide) (hts (.fieldLink RX1 29 "ArcCache" "dirtyPages" "[Z") (by decide +kernel)) (fun _ h9 => h9) rfl dX1_init__53 ?_
        refine lv_iload_n hx hb dX1_init__56 rfl (lv_at hl 1 rfl) ?_
        refine lv_iconst (v := nI 0) hx hb dX1_init__57 (by decide) ?_
        refine va_zast hx hb hK hP hD hS 10 5 rfl rfl (vp_in_nI (show i < 64 by omega) (by decide)) dX1_init__58 (fun H locs hP hD hS => ?_)
        rw [ap_nar0, nI_clamp (show i < 2 ^ 31 by omega)] at hP hD
        replace hP : va_P (dC, dI) vwCl (cx q ca C (fun _ => []) f (ap_z 64 w) (upd (ap_z i d) i 0) (ap_z 64 st) tg hi mi go) H := hP
        replace hD : va_D A (cx q ca C (fun _ => []) f (ap_z 64 w) (upd (ap_z i d) i 0) (ap_z 64 st) tg hi mi go) := hD
        refine lv_iinc (v := nI (i + 1)) (lv' := [(1, .int (nI (i + 1))), (0, .ref (q 0))]) hx hb dX1_init__59 hl (k := 1) rfl (nI_add _ _) (by decide) rfl (fun ls hl => ?_)
        refine lv_goto (tgt := 46) hx hb dX1_init__62 (by decide) ?_
        replace hP : va_P (dC, dI) vwCl (cx q ca C (fun _ => []) f (ap_z 64 w) (ap_z (i + 1) d) (ap_z 64 st) tg hi mi go) H := by rw [← ap_z_s (f := d) (i := i)]; exact hP
        replace hD : va_D A (cx q ca C (fun _ => []) f (ap_z 64 w) (ap_z (i + 1) d) (ap_z 64 st) tg hi mi go) := by rw [← ap_z_s (f := d) (i := i)]; exact hD
        exact ih (i + 1) _ _ _ (by omega) (lv_sub hl [1, 0] rfl) hP hD hS (by omega)
  exact loop 65 0 ls H _ (Nat.zero_le _) (lv_sub hl [1, 0] rfl) hP hD hS (by omega)
end
section
-- THE REFERENCE, first part (laid by wip/gen/mm.py)
def ap_leave (L : Nat → List Int32) (x : Int32) : Nat → List Int32 := if ap_wl L x = 0 then L else va_up L (ap_wl L x) (ap_rm x (L (ap_wl L x)))
theorem ap_leave_0 {L : Nat → List Int32} {x : Int32} (h : ap_wl L x = 0) : ap_leave L x = L := by
  unfold ap_leave
  rw [if_pos h]
theorem ap_leave_1 {L : Nat → List Int32} {x : Int32} {k : Nat} (h : ap_wl L x = k) (hk : 1 ≤ k) : ap_leave L x = va_up L k (ap_rm x (L k)) := by
  unfold ap_leave
  rw [if_neg (by omega), h]
theorem ap_inv_leave {L : Nat → List Int32} (hI : ap_inv L) (x : Int32) : ap_inv (ap_leave L x) := by
  unfold ap_leave
  split
  · exact hI
  · exact ap_inv_rm hI _ _
theorem ap_leave_none {L : Nat → List Int32} (hI : ap_inv L) (x : Int32) : ∀ j, x ∉ ap_leave L x j := by
  by_cases h : ap_wl L x = 0
  · rw [ap_leave_0 h]
    exact ap_wl_zero hI h
  · have hm := ap_wl_mem h
    unfold ap_leave
    rw [if_neg h]
    exact ap_rm_none hI hm
theorem ap_leave_len {L : Nat → List Int32} (x : Int32) (i : Nat) : (ap_leave L x i).length ≤ (L i).length := by
  unfold ap_leave
  split
  · exact Nat.le_refl _
  · by_cases e : i = ap_wl L x
    · rw [e, va_up_self]
      exact ap_rm_le
    · rw [va_up_ne _ _ e]
      exact Nat.le_refl _
/-- the list that holds x, list after list -/
theorem ap_wl_chain {L : Nat → List Int32} {x : Int32} (hI : ap_inv L) {v1 v2 v3 v4 : Nat} (h1 : (v1 = 1 ∧ x ∈ L 1) ∨ (v1 = 0 ∧ x ∉ L 1)) (h2 : (v2 = 2 ∧ x ∈ L 2) ∨ (v2 = v1 ∧ x ∉ L 2)) (h3 : (v3 = 3 ∧ x ∈ L 3) ∨ (v3 = v2 ∧ x ∉ L 3)) (h4 : (v4 = 4 ∧ x ∈ L 4) ∨ (v4 = v3 ∧ x ∉ L 4)) : v4 = ap_wl L x := by
  rcases h4 with ⟨e4, m4⟩ | ⟨e4, m4⟩
  · rw [e4, ap_wl_of hI m4]
  · rcases h3 with ⟨e3, m3⟩ | ⟨e3, m3⟩
    · rw [e4, e3, ap_wl_of hI m3]
    · rcases h2 with ⟨e2, m2⟩ | ⟨e2, m2⟩
      · rw [e4, e3, e2, ap_wl_of hI m2]
      · rcases h1 with ⟨e1, m1⟩ | ⟨e1, m1⟩
        · rw [e4, e3, e2, e1, ap_wl_of hI m1]
        · rw [e4, e3, e2, e1]
          unfold ap_wl
          rw [if_neg m1, if_neg m2, if_neg m3, if_neg m4]
theorem am_not {f : Nat → Int32} {l : List Int32} {x : Int32} {k : Nat} (hf : ar_is (fun i => f (64 * k + i)) l) (h : ∀ j, j < l.length → f (64 * k + j) ≠ x) : x ∉ l := fun hm => by
  obtain ⟨j, hj, e⟩ := ar_of hf hm
  exact h j hj e
theorem am_mem {f : Nat → Int32} {l : List Int32} {x : Int32} {k j : Nat} (hf : ar_is (fun i => f (64 * k + i)) l) (hj : j < l.length) (h : f (64 * k + j) = x) : x ∈ l := by
  have h9 : f (64 * k + j) ∈ l := ar_mem hf hj
  rw [h] at h9
  exact h9
/-- the places lo .. hi - 1 hold what stood one further on -/
def ap_sh (f : Nat → Int32) (lo hi : Nat) : Nat → Int32 := fun m => if lo ≤ m ∧ m < hi then f (m + 1) else f m
theorem ap_sh_0 {f : Nat → Int32} {lo : Nat} : ap_sh f lo lo = f := by
  funext m
  unfold ap_sh
  rw [if_neg (by omega)]
theorem ap_sh_s {f : Nat → Int32} {lo hi : Nat} (h : lo ≤ hi) : upd (ap_sh f lo hi) hi (ap_sh f lo hi (hi + 1)) = ap_sh f lo (hi + 1) := by
  funext m
  by_cases e : m = hi
  · subst e
    rw [pk_us]
    unfold ap_sh
    rw [if_neg (by omega), if_pos (by omega)]
  · rw [pk_un e]
    unfold ap_sh
    by_cases h2 : lo ≤ m ∧ m < hi
    · rw [if_pos h2, if_pos (by omega)]
    · rw [if_neg h2, if_neg (by omega)]
/-- the places i + 1 .. hi hold what stood one before -/
def ap_sd (f : Nat → Int32) (i hi : Nat) : Nat → Int32 := fun m => if i < m ∧ m ≤ hi then f (m - 1) else f m
theorem ap_sd_0 {f : Nat → Int32} {hi : Nat} : ap_sd f hi hi = f := by
  funext m
  unfold ap_sd
  rw [if_neg (by omega)]
theorem ap_sd_s {f : Nat → Int32} {i hi : Nat} (h0 : 0 < i) (h : i ≤ hi) : upd (ap_sd f i hi) i (ap_sd f i hi (i - 1)) = ap_sd f (i - 1) hi := by
  funext m
  by_cases e : m = i
  · subst e
    rw [pk_us]
    unfold ap_sd
    rw [if_neg (by omega), if_pos (by omega)]
  · rw [pk_un e]
    unfold ap_sd
    by_cases h2 : i < m ∧ m ≤ hi
    · rw [if_pos h2, if_pos (by omega)]
    · rw [if_neg h2, if_neg (by omega)]
theorem fm_rm {f n : Nat → Int32} {L : Nat → List Int32} {x : Int32} {k j : Nat} (h : fm_ok f n L) (hI : ap_inv L) (hz : ∀ i, 1 ≤ i → i ≤ 4 → (L i).length ≤ 48) (hka : 1 ≤ k) (hkb : k ≤ 4) (hj : j < (L k).length) (hx : f (64 * k + j) = x) : fm_ok (ap_sh f (64 * k + j) (64 * k + ((L k).length - 1))) (upd n k (nI ((L k).length - 1))) (va_up L k (ap_rm x (L k))) := by
  have hL := hz k hka hkb
  have hk := h k hka hkb
  have e : ap_rm x (L k) = (L k).eraseIdx j := ap_rm_idx _ _ (hI.1 k) (by rw [hk.2 j hj]; exact congrArg some hx)
  intro i h1 h4
  by_cases ei : i = k
  · subst ei
    rw [va_up_self, pk_us, e, List.length_eraseIdx, if_pos hj]
    refine ⟨rfl, ar_del hk.2 hj (fun m hm => ?_) (fun m hm hm2 => ?_)⟩
    · show ap_sh _ _ _ _ = _
      unfold ap_sh
      rw [if_neg (by omega)]
    · show ap_sh _ _ _ _ = _
      unfold ap_sh
      rw [if_pos (by omega)]
      rfl
  · rw [va_up_ne _ _ ei, pk_un ei]
    have hi := h i h1 h4
    have hLi := hz i h1 h4
    refine ⟨hi.1, ar_cong hi.2 (fun m hm => ?_)⟩
    show ap_sh _ _ _ _ = _
    unfold ap_sh
    rw [if_neg (by omega)]
theorem fm_add {f n : Nat → Int32} {L : Nat → List Int32} {x : Int32} {k : Nat} (h : fm_ok f n L) (hz : ∀ i, 1 ≤ i → i ≤ 4 → (L i).length ≤ 48) (hka : 1 ≤ k) (hkb : k ≤ 4) : fm_ok (upd (ap_sd f (64 * k) (64 * k + (L k).length)) (64 * k) x) (upd n k (nI ((L k).length + 1))) (va_up L k (x :: L k)) := by
  have hL := hz k hka hkb
  have hk := h k hka hkb
  intro i h1 h4
  by_cases ei : i = k
  · subst ei
    rw [va_up_self, pk_us]
    refine ⟨rfl, ar_cons hk.2 ?_ (fun m hm => ?_)⟩
    · show upd _ _ _ (64 * i + 0) = _
      rw [Nat.add_zero, pk_us]
    · show upd _ _ _ (64 * i + (m + 1)) = _
      rw [pk_un (by omega)]
      unfold ap_sd
      rw [if_pos (by omega)]
      rfl
  · rw [va_up_ne _ _ ei, pk_un ei]
    have hi := h i h1 h4
    have hLi := hz i h1 h4
    refine ⟨hi.1, ar_cong hi.2 (fun m hm => ?_)⟩
    show upd _ _ _ (64 * i + m) = _
    rw [pk_un (by omega)]
    unfold ap_sd
    rw [if_neg (by omega)]
theorem ap_z_all {L : Nat → List Int32} (hz : ap_tot L ≤ 48) : ∀ i, 1 ≤ i → i ≤ 4 → (L i).length ≤ 48 := by
  intro i h1 h4
  unfold ap_tot at hz
  have : i = 1 ∨ i = 2 ∨ i = 3 ∨ i = 4 := by omega
  rcases this with rfl | rfl | rfl | rfl <;> omega
set_option maxHeartbeats 4000000 in
set_option maxRecDepth 100000 in
theorem c_M_isAddress (l : Launch) (dC : Nat → ClassId) (dI : Nat → Nat → Nat) (x : Int32) (sz : Nat)  : Met l yX2_isAddress wsX2_isAddress ({ frames := 0, cells := 0, slots := 0, locals := 0 }) (va_Pc [.int x] (fun U => U.heap.size = sz)) (va_Qi (fun (r : Int32) (_ : Unit) => r = (if x < 0 ∨ nI 64 ≤ x then nI 0 else nI 1)) (fun _ _ => True) (va_A [] sz)) 0 0 (va_A [] sz) := by
  refine Met.ofW (cc := cX2_isAddress) (maxL := 1) (ret := (some .boolean)) (by decide) rfl ?_
  intro p e s m args below meth c s₁ B hml hv
  obtain ⟨rfl, hsz⟩ := hv
  have hx := B.exec
  have hb := B.bytes
  have hr := B.returns
  have hts := atoms_spec (ws := wsX2_isAddress) B.pre
  have hown : s.vm.findClass RX2 = some m.cls := findClass_of_methodNamed B.named
  have hlocks := B.notSynchronized
  subst hsz
  have hP : va_P (dC, dI) vwCl [] s.heap := fun k q h => by simp at h
  have hD : va_D (va_A [] s.heap.size) [] := ⟨fun i j p q h => by simp at h, fun k q h => by simp at h⟩
  generalize hAe : va_A [] s.heap.size = A at hD ⊢
  have hA : ∀ q : Nat, s.heap.size ≤ q → A q := fun q h => by rw [← hAe]; exact Or.inr h
  have hS0 : ∀ H, s.heap = H → va_S A s.heap H [] := fun H h => by subst h; exact va_S.rf
  have hl := lv_entry ([.int x]) (n := 1) (Nat.le_of_ble_eq_true rfl)
  rw [lg_entry_eq]
  generalize (lg_sl ([.int x]) ++ List.replicate (1 - (lg_sl ([.int x])).length) Slot.unset).toArray = ls at hl ⊢
  have hl : lv_has ls 1 [(0, .int x)] := hl
  generalize hHe : s.heap = H at hP ⊢
  have hS := hS0 H hHe
  refine lv_iload_n hx hb dX2_isAddress_0 rfl (lv_at hl 0 rfl) ?_
  refine lv_if_lt (tgt := 14) hx hb dX2_isAddress_1 (by decide) (fun c_1 => ?_) (fun c_1 => ?_)
  · skip
    refine lv_iconst (v := nI 0) hx hb dX2_isAddress_14 (by decide) ?_
    exact W.zret (v := nI 0) (ty := .boolean) hx hb hr (by decide) (fun t ht hW => ⟨⟨nI 0, (), rfl, (if_pos (by first | exact Or.inl c_1 | exact Or.inr c_7)).symm, trivial⟩, hS.F ht⟩) hS.2.2 dX2_isAddress_15
  · skip
    refine lv_iload_n hx hb dX2_isAddress_4 rfl (lv_at hl 0 rfl) ?_
    refine lv_bipush (v := nI 64) hx hb dX2_isAddress_5 (by decide) ?_
    refine lv_icmp_ge (tgt := 14) hx hb dX2_isAddress_7 (by decide) (fun c_7 => ?_) (fun c_7 => ?_)
    · skip
      refine lv_iconst (v := nI 0) hx hb dX2_isAddress_14 (by decide) ?_
      exact W.zret (v := nI 0) (ty := .boolean) hx hb hr (by decide) (fun t ht hW => ⟨⟨nI 0, (), rfl, (if_pos (by first | exact Or.inl c_1 | exact Or.inr c_7)).symm, trivial⟩, hS.F ht⟩) hS.2.2 dX2_isAddress_15
    · skip
      refine lv_iconst (v := nI 1) hx hb dX2_isAddress_10 (by decide) ?_
      refine lv_goto (tgt := 15) hx hb dX2_isAddress_11 (by decide) ?_
      exact W.zret (v := nI 1) (ty := .boolean) hx hb hr (by decide) (fun t ht hW => ⟨⟨nI 1, (), rfl, (if_neg (fun h9 => h9.elim c_1 c_7)).symm, trivial⟩, hS.F ht⟩) hS.2.2 dX2_isAddress_15
set_option maxHeartbeats 4000000 in
set_option maxRecDepth 100000 in
theorem c_M_whichList (l : Launch) (dC : Nat → ClassId) (dI : Nat → Nat → Nat) (q : Nat → Nat) (ca : Nat → ClassId) (C : Nat) (f n w d st : Nat → Int32) (tg : Nat) (hi mi go : Int32) (L : Nat → List Int32) (x : Int32) (sz : Nat) (hfm : fm_ok f n L) (hI : ap_inv L) (hz : ap_tot L ≤ 48) : Met l yX2_whichList wsX2_whichList ({ frames := 0, cells := 0, slots := 0, locals := 0 }) (va_Pc [.ref (q 0), .int x] (fun U => U.heap.size = sz ∧ va_P (dC, dI) vwCl (cm q ca C f n w d st tg hi mi go) U.heap ∧ va_K (dC, dI) vwCl (km ca) U ∧ va_D (fun _ => True) (cm q ca C f n w d st tg hi mi go))) (va_Qi (fun (r : Int32) (u : ap_U) => r = nI (ap_wl L x) ∧ u = (L, w, d, st, tg, hi, mi, go)) (at_M dC dI (va_A (cm q ca C f n w d st tg hi mi go) sz) q ca C) (va_A (cm q ca C f n w d st tg hi mi go) sz)) 0 0 (va_A (cm q ca C f n w d st tg hi mi go) sz) := by
  refine Met.ofW (cc := cX2_whichList) (maxL := 5) (ret := (some .int)) (by decide) rfl ?_
  intro p e s m args below meth c s₁ B hml hv
  obtain ⟨rfl, hsz, hP, hK, hD0⟩ := hv
  have hx := B.exec
  have hb := B.bytes
  have hr := B.returns
  have hts := atoms_spec (ws := wsX2_whichList) B.pre
  have hown : s.vm.findClass RX2 = some m.cls := findClass_of_methodNamed B.named
  have hlocks := B.notSynchronized
  have hwX2 : ∀ w ∈ u_ws RX2 TX2 10, w ∈ wsX2_whichList := by decide +kernel
  subst hsz
  have hD := hD0.self (sz := s.heap.size)
  generalize hAe : va_A (cm q ca C f n w d st tg hi mi go) s.heap.size = A at hD ⊢
  have hA : ∀ q : Nat, s.heap.size ≤ q → A q := fun q h => by rw [← hAe]; exact Or.inr h
  have hS0 : ∀ H, s.heap = H → va_S A s.heap H [] := fun H h => by subst h; exact va_S.rf
  have hl := lv_entry ([.ref (q 0), .int x]) (n := 5) (Nat.le_of_ble_eq_true rfl)
  rw [lg_entry_eq]
  generalize (lg_sl ([.ref (q 0), .int x]) ++ List.replicate (5 - (lg_sl ([.ref (q 0), .int x])).length) Slot.unset).toArray = ls at hl ⊢
  have hl : lv_has ls 5 [(0, .ref (q 0)), (1, .int x)] := hl
  generalize hHe : s.heap = H at hP ⊢
  have hS := hS0 H hHe
  have z1 : (L 1).length ≤ 48 := by unfold ap_tot at hz; omega
  have z2 : (L 2).length ≤ 48 := by unfold ap_tot at hz; omega
  have z3 : (L 3).length ≤ 48 := by unfold ap_tot at hz; omega
  have z4 : (L 4).length ≤ 48 := by unfold ap_tot at hz; omega
  refine lv_iconst (v := nI 0) hx hb dX2_whichList_0 (by decide) ?_
  refine lv_istore_n (lv' := [(2, .int (nI 0)), (0, .ref (q 0)), (1, .int x)]) hx hb dX2_whichList_1 rfl hl (by decide) rfl (fun ls hl => ?_)
  refine lv_iconst (v := nI 1) hx hb dX2_whichList_2 (by decide) ?_
  refine lv_istore_n (lv' := [(3, .int (nI 1)), (2, .int (nI 0)), (0, .ref (q 0)), (1, .int x)]) hx hb dX2_whichList_3 rfl hl (by decide) rfl (fun ls hl => ?_)
  refine lv_iload_n hx hb dX2_whichList_4 rfl (lv_at hl 0 rfl) ?_
  refine lv_iconst (v := nI 5) hx hb dX2_whichList_5 (by decide) ?_
  refine lv_icmp_ge (tgt := 57) hx hb dX2_whichList_6 (by decide) (fun c_6 => ?_) (fun c_6 => ?_)
  · skip
    replace c_6 : 5 ≤ 1 := (nI_leI (a := 5) (b := 1) (by omega) (by omega)).mp c_6
    exact absurd c_6 (by omega)
  · skip
    replace c_6 : ¬ (5 ≤ 1) := fun h9 => c_6 ((nI_leI (a := 5) (b := 1) (by omega) (by omega)).mpr h9)
    refine lv_iconst (v := nI 0) hx hb dX2_whichList_9 (by decide) ?_
    refine lv_istore (lv' := [(4, .int (nI 0)), (3, .int (nI 1)), (2, .int (nI 0)), (0, .ref (q 0)), (1, .int x)]) hx hb dX2_whichList_10 hl (by decide) rfl (fun ls hl => ?_)
    have loop1 : ∀ (k : Nat) (i1 : Nat) (v1 : Nat) (ls : Array Slot) (H : Heap) (locs : List Loc), (i1 ≤ (L 1).length) → ((v1 = 1 ∧ x ∈ L 1) ∨ (v1 = 0 ∧ ∀ j, j < i1 → f (64 * 1 + j) ≠ x)) → lv_has ls 5 [(0, .ref (q 0)), (1, .int x), (2, .int (nI v1)), (3, .int (nI 1)), (4, .int (nI i1))] → va_P (dC, dI) vwCl (cm q ca C f n w d st tg hi mi go) H → va_D A (cm q ca C f n w d st tg hi mi go) → va_S A s.heap H locs → (L 1).length + 1 ≤ i1 + k → W p l e (headSpec wsX2_whichList ({ frames := 0, cells := 0, slots := 0, locals := 0 })).room s m ([.ref (q 0), .int x] : List Value).toArray below meth c H locs 0 0 (MQ below (va_Qi (fun (r : Int32) (u : ap_U) => r = nI (ap_wl L x) ∧ u = (L, w, d, st, tg, hi, mi, go)) (at_M dC dI A q ca C) A) ([.ref (q 0), .int x] : List Value).toArray s 0 0 A) (F0 m 12 ls []) := by
      intro k
      induction k with
      | zero => intro i1 v1 ls H locs hle1 ha1 hl hP hD hS hk; exact absurd hk (by omega)
      | succ k ih =>
        intro i1 v1 ls H locs hle1 ha1 hl hP hD hS hk
        refine lv_iload hx hb dX2_whichList_12 (lv_at hl 4 rfl) ?_
        refine lv_aload_n hx hb dX2_whichList_14 rfl (lv_at hl 0 rfl) ?_
        refine va_get (D := (dC, dI)) (ci := 2) (v := .ref (q 2)) (C := RX2) (T := TX2) (N := 10) hx hb hts hwX2 hown hK hP 0 rfl rfl 2 (by decide) (hts (.fieldLink RX2 13 "ArcCacheModel" "many" "[I") (by decide +kernel)) (fun _ h9 => h9) rfl dX2_whichList_15 ?_
        refine lv_iload_n hx hb dX2_whichList_18 rfl (lv_at hl 3 rfl) ?_
        refine va_iald hx hb hK hP 2 1 rfl rfl (vp_in_nI (show 1 < 5 by omega) (by decide)) dX2_whichList_19 ?_
        refine lv_topi (fun x_2 e_x_2 => ?_)
        have e_x_2 : x_2 = n 1 := by rw [e_x_2]; rw [nI_clamp (by omega)]
        subst e_x_2
        refine lv_topi (fun x_3 e_x_3 => ?_)
        have e_x_3 : x_3 = nI ((L 1).length) := by rw [e_x_3]; exact (hfm 1 (by decide) (by decide)).1
        subst e_x_3
        refine lv_icmp_ge (tgt := 51) hx hb dX2_whichList_20 (by decide) (fun c_20 => ?_) (fun c_20 => ?_)
        · skip
          replace c_20 : ((L 1).length) ≤ i1 := (nI_leI (a := (L 1).length) (b := i1) (by omega) (by omega)).mp c_20
          have hv1 : (v1 = 1 ∧ x ∈ L 1) ∨ (v1 = 0 ∧ x ∉ L 1) := ha1.elim Or.inl (fun h9 => Or.inr ⟨h9.1, am_not (hfm 1 (by decide) (by decide)).2 (fun j hj => h9.2 j (by omega))⟩)
          refine lv_iinc (v := nI 2) (lv' := [(3, .int (nI 2)), (0, .ref (q 0)), (1, .int x), (2, .int (nI v1)), (4, .int (nI i1))]) hx hb dX2_whichList_51 hl (k := 3) rfl (by decide) (by decide) rfl (fun ls hl => ?_)
          refine lv_goto (tgt := 4) hx hb dX2_whichList_54 (by decide) ?_
          refine lv_iload_n hx hb dX2_whichList_4 rfl (lv_at hl 0 rfl) ?_
          refine lv_iconst (v := nI 5) hx hb dX2_whichList_5 (by decide) ?_
          refine lv_icmp_ge (tgt := 57) hx hb dX2_whichList_6 (by decide) (fun c_6 => ?_) (fun c_6 => ?_)
          · skip
            replace c_6 : 5 ≤ 2 := (nI_leI (a := 5) (b := 2) (by omega) (by omega)).mp c_6
            exact absurd c_6 (by omega)
          · skip
            replace c_6 : ¬ (5 ≤ 2) := fun h9 => c_6 ((nI_leI (a := 5) (b := 2) (by omega) (by omega)).mpr h9)
            refine lv_iconst (v := nI 0) hx hb dX2_whichList_9 (by decide) ?_
            refine lv_istore (lv' := [(4, .int (nI 0)), (3, .int (nI 2)), (0, .ref (q 0)), (1, .int x), (2, .int (nI v1))]) hx hb dX2_whichList_10 hl (by decide) rfl (fun ls hl => ?_)
            have loop2 : ∀ (k : Nat) (i2 : Nat) (v2 : Nat) (ls : Array Slot) (H : Heap) (locs : List Loc), (i2 ≤ (L 2).length) → ((v2 = 2 ∧ x ∈ L 2) ∨ (v2 = v1 ∧ ∀ j, j < i2 → f (64 * 2 + j) ≠ x)) → lv_has ls 5 [(0, .ref (q 0)), (1, .int x), (2, .int (nI v2)), (3, .int (nI 2)), (4, .int (nI i2))] → va_P (dC, dI) vwCl (cm q ca C f n w d st tg hi mi go) H → va_D A (cm q ca C f n w d st tg hi mi go) → va_S A s.heap H locs → (L 2).length + 1 ≤ i2 + k → W p l e (headSpec wsX2_whichList ({ frames := 0, cells := 0, slots := 0, locals := 0 })).room s m ([.ref (q 0), .int x] : List Value).toArray below meth c H locs 0 0 (MQ below (va_Qi (fun (r : Int32) (u : ap_U) => r = nI (ap_wl L x) ∧ u = (L, w, d, st, tg, hi, mi, go)) (at_M dC dI A q ca C) A) ([.ref (q 0), .int x] : List Value).toArray s 0 0 A) (F0 m 12 ls []) := by
              intro k
              induction k with
              | zero => intro i2 v2 ls H locs hle2 ha2 hl hP hD hS hk; exact absurd hk (by omega)
              | succ k ih =>
                intro i2 v2 ls H locs hle2 ha2 hl hP hD hS hk
                refine lv_iload hx hb dX2_whichList_12 (lv_at hl 4 rfl) ?_
                refine lv_aload_n hx hb dX2_whichList_14 rfl (lv_at hl 0 rfl) ?_
                refine va_get (D := (dC, dI)) (ci := 2) (v := .ref (q 2)) (C := RX2) (T := TX2) (N := 10) hx hb hts hwX2 hown hK hP 0 rfl rfl 2 (by decide) (hts (.fieldLink RX2 13 "ArcCacheModel" "many" "[I") (by decide +kernel)) (fun _ h9 => h9) rfl dX2_whichList_15 ?_
                refine lv_iload_n hx hb dX2_whichList_18 rfl (lv_at hl 3 rfl) ?_
                refine va_iald hx hb hK hP 2 1 rfl rfl (vp_in_nI (show 2 < 5 by omega) (by decide)) dX2_whichList_19 ?_
                refine lv_topi (fun x_5 e_x_5 => ?_)
                have e_x_5 : x_5 = n 2 := by rw [e_x_5]; rw [nI_clamp (by omega)]
                subst e_x_5
                refine lv_topi (fun x_6 e_x_6 => ?_)
                have e_x_6 : x_6 = nI ((L 2).length) := by rw [e_x_6]; exact (hfm 2 (by decide) (by decide)).1
                subst e_x_6
                refine lv_icmp_ge (tgt := 51) hx hb dX2_whichList_20 (by decide) (fun c_20 => ?_) (fun c_20 => ?_)
                · skip
                  replace c_20 : ((L 2).length) ≤ i2 := (nI_leI (a := (L 2).length) (b := i2) (by omega) (by omega)).mp c_20
                  have hv2 : (v2 = 2 ∧ x ∈ L 2) ∨ (v2 = v1 ∧ x ∉ L 2) := ha2.elim Or.inl (fun h9 => Or.inr ⟨h9.1, am_not (hfm 2 (by decide) (by decide)).2 (fun j hj => h9.2 j (by omega))⟩)
                  refine lv_iinc (v := nI 3) (lv' := [(3, .int (nI 3)), (0, .ref (q 0)), (1, .int x), (2, .int (nI v2)), (4, .int (nI i2))]) hx hb dX2_whichList_51 hl (k := 3) rfl (by decide) (by decide) rfl (fun ls hl => ?_)
                  refine lv_goto (tgt := 4) hx hb dX2_whichList_54 (by decide) ?_
                  refine lv_iload_n hx hb dX2_whichList_4 rfl (lv_at hl 0 rfl) ?_
                  refine lv_iconst (v := nI 5) hx hb dX2_whichList_5 (by decide) ?_
                  refine lv_icmp_ge (tgt := 57) hx hb dX2_whichList_6 (by decide) (fun c_6 => ?_) (fun c_6 => ?_)
                  · skip
                    replace c_6 : 5 ≤ 3 := (nI_leI (a := 5) (b := 3) (by omega) (by omega)).mp c_6
                    exact absurd c_6 (by omega)
                  · skip
                    replace c_6 : ¬ (5 ≤ 3) := fun h9 => c_6 ((nI_leI (a := 5) (b := 3) (by omega) (by omega)).mpr h9)
                    refine lv_iconst (v := nI 0) hx hb dX2_whichList_9 (by decide) ?_
                    refine lv_istore (lv' := [(4, .int (nI 0)), (3, .int (nI 3)), (0, .ref (q 0)), (1, .int x), (2, .int (nI v2))]) hx hb dX2_whichList_10 hl (by decide) rfl (fun ls hl => ?_)
                    have loop3 : ∀ (k : Nat) (i3 : Nat) (v3 : Nat) (ls : Array Slot) (H : Heap) (locs : List Loc), (i3 ≤ (L 3).length) → ((v3 = 3 ∧ x ∈ L 3) ∨ (v3 = v2 ∧ ∀ j, j < i3 → f (64 * 3 + j) ≠ x)) → lv_has ls 5 [(0, .ref (q 0)), (1, .int x), (2, .int (nI v3)), (3, .int (nI 3)), (4, .int (nI i3))] → va_P (dC, dI) vwCl (cm q ca C f n w d st tg hi mi go) H → va_D A (cm q ca C f n w d st tg hi mi go) → va_S A s.heap H locs → (L 3).length + 1 ≤ i3 + k → W p l e (headSpec wsX2_whichList ({ frames := 0, cells := 0, slots := 0, locals := 0 })).room s m ([.ref (q 0), .int x] : List Value).toArray below meth c H locs 0 0 (MQ below (va_Qi (fun (r : Int32) (u : ap_U) => r = nI (ap_wl L x) ∧ u = (L, w, d, st, tg, hi, mi, go)) (at_M dC dI A q ca C) A) ([.ref (q 0), .int x] : List Value).toArray s 0 0 A) (F0 m 12 ls []) := by
                      intro k
                      induction k with
                      | zero => intro i3 v3 ls H locs hle3 ha3 hl hP hD hS hk; exact absurd hk (by omega)
                      | succ k ih =>
                        intro i3 v3 ls H locs hle3 ha3 hl hP hD hS hk
                        refine lv_iload hx hb dX2_whichList_12 (lv_at hl 4 rfl) ?_
                        refine lv_aload_n hx hb dX2_whichList_14 rfl (lv_at hl 0 rfl) ?_
                        refine va_get (D := (dC, dI)) (ci := 2) (v := .ref (q 2)) (C := RX2) (T := TX2) (N := 10) hx hb hts hwX2 hown hK hP 0 rfl rfl 2 (by decide) (hts (.fieldLink RX2 13 "ArcCacheModel" "many" "[I") (by decide +kernel)) (fun _ h9 => h9) rfl dX2_whichList_15 ?_
                        refine lv_iload_n hx hb dX2_whichList_18 rfl (lv_at hl 3 rfl) ?_
                        refine va_iald hx hb hK hP 2 1 rfl rfl (vp_in_nI (show 3 < 5 by omega) (by decide)) dX2_whichList_19 ?_
                        refine lv_topi (fun x_8 e_x_8 => ?_)
                        have e_x_8 : x_8 = n 3 := by rw [e_x_8]; rw [nI_clamp (by omega)]
                        subst e_x_8
                        refine lv_topi (fun x_9 e_x_9 => ?_)
                        have e_x_9 : x_9 = nI ((L 3).length) := by rw [e_x_9]; exact (hfm 3 (by decide) (by decide)).1
                        subst e_x_9
                        refine lv_icmp_ge (tgt := 51) hx hb dX2_whichList_20 (by decide) (fun c_20 => ?_) (fun c_20 => ?_)
                        · skip
                          replace c_20 : ((L 3).length) ≤ i3 := (nI_leI (a := (L 3).length) (b := i3) (by omega) (by omega)).mp c_20
                          have hv3 : (v3 = 3 ∧ x ∈ L 3) ∨ (v3 = v2 ∧ x ∉ L 3) := ha3.elim Or.inl (fun h9 => Or.inr ⟨h9.1, am_not (hfm 3 (by decide) (by decide)).2 (fun j hj => h9.2 j (by omega))⟩)
                          refine lv_iinc (v := nI 4) (lv' := [(3, .int (nI 4)), (0, .ref (q 0)), (1, .int x), (2, .int (nI v3)), (4, .int (nI i3))]) hx hb dX2_whichList_51 hl (k := 3) rfl (by decide) (by decide) rfl (fun ls hl => ?_)
                          refine lv_goto (tgt := 4) hx hb dX2_whichList_54 (by decide) ?_
                          refine lv_iload_n hx hb dX2_whichList_4 rfl (lv_at hl 0 rfl) ?_
                          refine lv_iconst (v := nI 5) hx hb dX2_whichList_5 (by decide) ?_
                          refine lv_icmp_ge (tgt := 57) hx hb dX2_whichList_6 (by decide) (fun c_6 => ?_) (fun c_6 => ?_)
                          · skip
                            replace c_6 : 5 ≤ 4 := (nI_leI (a := 5) (b := 4) (by omega) (by omega)).mp c_6
                            exact absurd c_6 (by omega)
                          · skip
                            replace c_6 : ¬ (5 ≤ 4) := fun h9 => c_6 ((nI_leI (a := 5) (b := 4) (by omega) (by omega)).mpr h9)
                            refine lv_iconst (v := nI 0) hx hb dX2_whichList_9 (by decide) ?_
                            refine lv_istore (lv' := [(4, .int (nI 0)), (3, .int (nI 4)), (0, .ref (q 0)), (1, .int x), (2, .int (nI v3))]) hx hb dX2_whichList_10 hl (by decide) rfl (fun ls hl => ?_)
                            have loop4 : ∀ (k : Nat) (i4 : Nat) (v4 : Nat) (ls : Array Slot) (H : Heap) (locs : List Loc), (i4 ≤ (L 4).length) → ((v4 = 4 ∧ x ∈ L 4) ∨ (v4 = v3 ∧ ∀ j, j < i4 → f (64 * 4 + j) ≠ x)) → lv_has ls 5 [(0, .ref (q 0)), (1, .int x), (2, .int (nI v4)), (3, .int (nI 4)), (4, .int (nI i4))] → va_P (dC, dI) vwCl (cm q ca C f n w d st tg hi mi go) H → va_D A (cm q ca C f n w d st tg hi mi go) → va_S A s.heap H locs → (L 4).length + 1 ≤ i4 + k → W p l e (headSpec wsX2_whichList ({ frames := 0, cells := 0, slots := 0, locals := 0 })).room s m ([.ref (q 0), .int x] : List Value).toArray below meth c H locs 0 0 (MQ below (va_Qi (fun (r : Int32) (u : ap_U) => r = nI (ap_wl L x) ∧ u = (L, w, d, st, tg, hi, mi, go)) (at_M dC dI A q ca C) A) ([.ref (q 0), .int x] : List Value).toArray s 0 0 A) (F0 m 12 ls []) := by
                              intro k
                              induction k with
                              | zero => intro i4 v4 ls H locs hle4 ha4 hl hP hD hS hk; exact absurd hk (by omega)
                              | succ k ih =>
                                intro i4 v4 ls H locs hle4 ha4 hl hP hD hS hk
                                refine lv_iload hx hb dX2_whichList_12 (lv_at hl 4 rfl) ?_
                                refine lv_aload_n hx hb dX2_whichList_14 rfl (lv_at hl 0 rfl) ?_
                                refine va_get (D := (dC, dI)) (ci := 2) (v := .ref (q 2)) (C := RX2) (T := TX2) (N := 10) hx hb hts hwX2 hown hK hP 0 rfl rfl 2 (by decide) (hts (.fieldLink RX2 13 "ArcCacheModel" "many" "[I") (by decide +kernel)) (fun _ h9 => h9) rfl dX2_whichList_15 ?_
                                refine lv_iload_n hx hb dX2_whichList_18 rfl (lv_at hl 3 rfl) ?_
                                refine va_iald hx hb hK hP 2 1 rfl rfl (vp_in_nI (show 4 < 5 by omega) (by decide)) dX2_whichList_19 ?_
                                refine lv_topi (fun x_11 e_x_11 => ?_)
                                have e_x_11 : x_11 = n 4 := by rw [e_x_11]; rw [nI_clamp (by omega)]
                                subst e_x_11
                                refine lv_topi (fun x_12 e_x_12 => ?_)
                                have e_x_12 : x_12 = nI ((L 4).length) := by rw [e_x_12]; exact (hfm 4 (by decide) (by decide)).1
                                subst e_x_12
                                refine lv_icmp_ge (tgt := 51) hx hb dX2_whichList_20 (by decide) (fun c_20 => ?_) (fun c_20 => ?_)
                                · skip
                                  replace c_20 : ((L 4).length) ≤ i4 := (nI_leI (a := (L 4).length) (b := i4) (by omega) (by omega)).mp c_20
                                  have hv4 : (v4 = 4 ∧ x ∈ L 4) ∨ (v4 = v3 ∧ x ∉ L 4) := ha4.elim Or.inl (fun h9 => Or.inr ⟨h9.1, am_not (hfm 4 (by decide) (by decide)).2 (fun j hj => h9.2 j (by omega))⟩)
                                  refine lv_iinc (v := nI 5) (lv' := [(3, .int (nI 5)), (0, .ref (q 0)), (1, .int x), (2, .int (nI v4)), (4, .int (nI i4))]) hx hb dX2_whichList_51 hl (k := 3) rfl (by decide) (by decide) rfl (fun ls hl => ?_)
                                  refine lv_goto (tgt := 4) hx hb dX2_whichList_54 (by decide) ?_
                                  refine lv_iload_n hx hb dX2_whichList_4 rfl (lv_at hl 0 rfl) ?_
                                  refine lv_iconst (v := nI 5) hx hb dX2_whichList_5 (by decide) ?_
                                  refine lv_icmp_ge (tgt := 57) hx hb dX2_whichList_6 (by decide) (fun c_6 => ?_) (fun c_6 => ?_)
                                  · skip
                                    replace c_6 : 5 ≤ 5 := (nI_leI (a := 5) (b := 5) (by omega) (by omega)).mp c_6
                                    refine lv_iload_n hx hb dX2_whichList_57 rfl (lv_at hl 3 rfl) ?_
                                    exact W.iret (v := nI v4) hx hb hr (fun t ht hW => ⟨⟨nI v4, (L, w, d, st, tg, hi, mi, go), rfl, ⟨congrArg nI (ap_wl_chain hI hv1 hv2 hv3 hv4), rfl⟩, f, n, hfm, by rw [ht]; exact hP, va_K.moved hW.alike hK, hD⟩, hS.F ht⟩) hS.2.2 dX2_whichList_58
                                  · skip
                                    replace c_6 : ¬ (5 ≤ 5) := fun h9 => c_6 ((nI_leI (a := 5) (b := 5) (by omega) (by omega)).mpr h9)
                                    exact absurd c_6 (by omega)
                                · skip
                                  replace c_20 : ¬ (((L 4).length) ≤ i4) := fun h9 => c_20 ((nI_leI (a := (L 4).length) (b := i4) (by omega) (by omega)).mpr h9)
                                  refine lv_aload_n hx hb dX2_whichList_23 rfl (lv_at hl 0 rfl) ?_
                                  refine va_get (D := (dC, dI)) (ci := 2) (v := .ref (q 1)) (C := RX2) (T := TX2) (N := 10) hx hb hts hwX2 hown hK hP 0 rfl rfl 1 (by decide) (hts (.fieldLink RX2 7 "ArcCacheModel" "lists" "[I") (by decide +kernel)) (fun _ h9 => h9) rfl dX2_whichList_24 ?_
                                  refine lv_bipush (v := nI 64) hx hb dX2_whichList_27 (by decide) ?_
                                  refine lv_iload_n hx hb dX2_whichList_29 rfl (lv_at hl 3 rfl) ?_
                                  refine lv_imul hx hb dX2_whichList_30 ?_
                                  refine lv_topi (fun x_13 e_x_13 => ?_)
                                  have e_x_13 : x_13 = nI (64 * 4) := by rw [e_x_13]; exact pk_mul _ _
                                  subst e_x_13
                                  refine lv_iload hx hb dX2_whichList_31 (lv_at hl 4 rfl) ?_
                                  refine lv_iadd hx hb dX2_whichList_33 ?_
                                  refine lv_topi (fun x_14 e_x_14 => ?_)
                                  have e_x_14 : x_14 = nI ((64 * 4) + i4) := by rw [e_x_14]; exact nI_add _ _
                                  subst e_x_14
                                  refine va_iald hx hb hK hP 1 0 rfl rfl (vp_in_nI (show (64 * 4) + i4 < 320 by omega) (by decide)) dX2_whichList_34 ?_
                                  refine lv_topi (fun x_16 e_x_16 => ?_)
                                  have e_x_16 : x_16 = f ((64 * 4) + i4) := by rw [e_x_16]; rw [nI_clamp (by omega)]
                                  subst e_x_16
                                  refine lv_iload_n hx hb dX2_whichList_35 rfl (lv_at hl 1 rfl) ?_
                                  refine lv_icmp_ne (tgt := 43) hx hb dX2_whichList_36 (by decide) (fun c_36 => ?_) (fun c_36 => ?_)
                                  · skip
                                    refine lv_iload_n hx hb dX2_whichList_43 rfl (lv_at hl 2 rfl) ?_
                                    refine lv_istore_n (lv' := [(2, .int (nI v4)), (0, .ref (q 0)), (1, .int x), (3, .int (nI 4)), (4, .int (nI i4))]) hx hb dX2_whichList_44 rfl hl (by decide) rfl (fun ls hl => ?_)
                                    refine lv_iinc (v := nI (i4 + 1)) (lv' := [(4, .int (nI (i4 + 1))), (2, .int (nI v4)), (0, .ref (q 0)), (1, .int x), (3, .int (nI 4))]) hx hb dX2_whichList_45 hl (k := 4) rfl (nI_add _ _) (by decide) rfl (fun ls hl => ?_)
                                    refine lv_goto (tgt := 12) hx hb dX2_whichList_48 (by decide) ?_
                                    exact ih (i4 + 1) v4 _ _ _ (by omega) (ha4.elim Or.inl (fun h9 => Or.inr ⟨h9.1, lt_s (p := fun j => f (64 * 4 + j) ≠ x) h9.2 c_36⟩)) (lv_sub hl [2, 3, 1, 4, 0] rfl) hP hD hS (by omega)
                                  · skip
                                    refine lv_iload_n hx hb dX2_whichList_39 rfl (lv_at hl 3 rfl) ?_
                                    refine lv_goto (tgt := 44) hx hb dX2_whichList_40 (by decide) ?_
                                    refine lv_istore_n (lv' := [(2, .int (nI 4)), (0, .ref (q 0)), (1, .int x), (3, .int (nI 4)), (4, .int (nI i4))]) hx hb dX2_whichList_44 rfl hl (by decide) rfl (fun ls hl => ?_)
                                    refine lv_iinc (v := nI (i4 + 1)) (lv' := [(4, .int (nI (i4 + 1))), (2, .int (nI 4)), (0, .ref (q 0)), (1, .int x), (3, .int (nI 4))]) hx hb dX2_whichList_45 hl (k := 4) rfl (nI_add _ _) (by decide) rfl (fun ls hl => ?_)
                                    refine lv_goto (tgt := 12) hx hb dX2_whichList_48 (by decide) ?_
                                    exact ih (i4 + 1) 4 _ _ _ (by omega) (Or.inl ⟨rfl, am_mem (hfm 4 (by decide) (by decide)).2 (by omega) c_36⟩) (lv_sub hl [2, 3, 1, 4, 0] rfl) hP hD hS (by omega)
                            exact loop4 ((L 4).length + 1) 0 v3 ls H _ (Nat.zero_le _) (Or.inr ⟨rfl, fun j hj => absurd hj (Nat.not_lt_zero j)⟩) (lv_sub hl [2, 3, 4, 1, 0] rfl) hP hD hS (by omega)
                        · skip
                          replace c_20 : ¬ (((L 3).length) ≤ i3) := fun h9 => c_20 ((nI_leI (a := (L 3).length) (b := i3) (by omega) (by omega)).mpr h9)
                          refine lv_aload_n hx hb dX2_whichList_23 rfl (lv_at hl 0 rfl) ?_
                          refine va_get (D := (dC, dI)) (ci := 2) (v := .ref (q 1)) (C := RX2) (T := TX2) (N := 10) hx hb hts hwX2 hown hK hP 0 rfl rfl 1 (by decide) (hts (.fieldLink RX2 7 "ArcCacheModel" "lists" "[I") (by decide +kernel)) (fun _ h9 => h9) rfl dX2_whichList_24 ?_
                          refine lv_bipush (v := nI 64) hx hb dX2_whichList_27 (by decide) ?_
                          refine lv_iload_n hx hb dX2_whichList_29 rfl (lv_at hl 3 rfl) ?_
                          refine lv_imul hx hb dX2_whichList_30 ?_
                          refine lv_topi (fun x_17 e_x_17 => ?_)
                          have e_x_17 : x_17 = nI (64 * 3) := by rw [e_x_17]; exact pk_mul _ _
                          subst e_x_17
                          refine lv_iload hx hb dX2_whichList_31 (lv_at hl 4 rfl) ?_
                          refine lv_iadd hx hb dX2_whichList_33 ?_
                          refine lv_topi (fun x_18 e_x_18 => ?_)
                          have e_x_18 : x_18 = nI ((64 * 3) + i3) := by rw [e_x_18]; exact nI_add _ _
                          subst e_x_18
                          refine va_iald hx hb hK hP 1 0 rfl rfl (vp_in_nI (show (64 * 3) + i3 < 320 by omega) (by decide)) dX2_whichList_34 ?_
                          refine lv_topi (fun x_20 e_x_20 => ?_)
                          have e_x_20 : x_20 = f ((64 * 3) + i3) := by rw [e_x_20]; rw [nI_clamp (by omega)]
                          subst e_x_20
                          refine lv_iload_n hx hb dX2_whichList_35 rfl (lv_at hl 1 rfl) ?_
                          refine lv_icmp_ne (tgt := 43) hx hb dX2_whichList_36 (by decide) (fun c_36 => ?_) (fun c_36 => ?_)
                          · skip
                            refine lv_iload_n hx hb dX2_whichList_43 rfl (lv_at hl 2 rfl) ?_
                            refine lv_istore_n (lv' := [(2, .int (nI v3)), (0, .ref (q 0)), (1, .int x), (3, .int (nI 3)), (4, .int (nI i3))]) hx hb dX2_whichList_44 rfl hl (by decide) rfl (fun ls hl => ?_)
                            refine lv_iinc (v := nI (i3 + 1)) (lv' := [(4, .int (nI (i3 + 1))), (2, .int (nI v3)), (0, .ref (q 0)), (1, .int x), (3, .int (nI 3))]) hx hb dX2_whichList_45 hl (k := 4) rfl (nI_add _ _) (by decide) rfl (fun ls hl => ?_)
                            refine lv_goto (tgt := 12) hx hb dX2_whichList_48 (by decide) ?_
                            exact ih (i3 + 1) v3 _ _ _ (by omega) (ha3.elim Or.inl (fun h9 => Or.inr ⟨h9.1, lt_s (p := fun j => f (64 * 3 + j) ≠ x) h9.2 c_36⟩)) (lv_sub hl [2, 3, 1, 4, 0] rfl) hP hD hS (by omega)
                          · skip
                            refine lv_iload_n hx hb dX2_whichList_39 rfl (lv_at hl 3 rfl) ?_
                            refine lv_goto (tgt := 44) hx hb dX2_whichList_40 (by decide) ?_
                            refine lv_istore_n (lv' := [(2, .int (nI 3)), (0, .ref (q 0)), (1, .int x), (3, .int (nI 3)), (4, .int (nI i3))]) hx hb dX2_whichList_44 rfl hl (by decide) rfl (fun ls hl => ?_)
                            refine lv_iinc (v := nI (i3 + 1)) (lv' := [(4, .int (nI (i3 + 1))), (2, .int (nI 3)), (0, .ref (q 0)), (1, .int x), (3, .int (nI 3))]) hx hb dX2_whichList_45 hl (k := 4) rfl (nI_add _ _) (by decide) rfl (fun ls hl => ?_)
                            refine lv_goto (tgt := 12) hx hb dX2_whichList_48 (by decide) ?_
                            exact ih (i3 + 1) 3 _ _ _ (by omega) (Or.inl ⟨rfl, am_mem (hfm 3 (by decide) (by decide)).2 (by omega) c_36⟩) (lv_sub hl [2, 3, 1, 4, 0] rfl) hP hD hS (by omega)
                    exact loop3 ((L 3).length + 1) 0 v2 ls H _ (Nat.zero_le _) (Or.inr ⟨rfl, fun j hj => absurd hj (Nat.not_lt_zero j)⟩) (lv_sub hl [2, 3, 4, 1, 0] rfl) hP hD hS (by omega)
                · skip
                  replace c_20 : ¬ (((L 2).length) ≤ i2) := fun h9 => c_20 ((nI_leI (a := (L 2).length) (b := i2) (by omega) (by omega)).mpr h9)
                  refine lv_aload_n hx hb dX2_whichList_23 rfl (lv_at hl 0 rfl) ?_
                  refine va_get (D := (dC, dI)) (ci := 2) (v := .ref (q 1)) (C := RX2) (T := TX2) (N := 10) hx hb hts hwX2 hown hK hP 0 rfl rfl 1 (by decide) (hts (.fieldLink RX2 7 "ArcCacheModel" "lists" "[I") (by decide +kernel)) (fun _ h9 => h9) rfl dX2_whichList_24 ?_
                  refine lv_bipush (v := nI 64) hx hb dX2_whichList_27 (by decide) ?_
                  refine lv_iload_n hx hb dX2_whichList_29 rfl (lv_at hl 3 rfl) ?_
                  refine lv_imul hx hb dX2_whichList_30 ?_
                  refine lv_topi (fun x_21 e_x_21 => ?_)
                  have e_x_21 : x_21 = nI (64 * 2) := by rw [e_x_21]; exact pk_mul _ _
                  subst e_x_21
                  refine lv_iload hx hb dX2_whichList_31 (lv_at hl 4 rfl) ?_
                  refine lv_iadd hx hb dX2_whichList_33 ?_
                  refine lv_topi (fun x_22 e_x_22 => ?_)
                  have e_x_22 : x_22 = nI ((64 * 2) + i2) := by rw [e_x_22]; exact nI_add _ _
                  subst e_x_22
                  refine va_iald hx hb hK hP 1 0 rfl rfl (vp_in_nI (show (64 * 2) + i2 < 320 by omega) (by decide)) dX2_whichList_34 ?_
                  refine lv_topi (fun x_24 e_x_24 => ?_)
                  have e_x_24 : x_24 = f ((64 * 2) + i2) := by rw [e_x_24]; rw [nI_clamp (by omega)]
                  subst e_x_24
                  refine lv_iload_n hx hb dX2_whichList_35 rfl (lv_at hl 1 rfl) ?_
                  refine lv_icmp_ne (tgt := 43) hx hb dX2_whichList_36 (by decide) (fun c_36 => ?_) (fun c_36 => ?_)
                  · skip
                    refine lv_iload_n hx hb dX2_whichList_43 rfl (lv_at hl 2 rfl) ?_
                    refine lv_istore_n (lv' := [(2, .int (nI v2)), (0, .ref (q 0)), (1, .int x), (3, .int (nI 2)), (4, .int (nI i2))]) hx hb dX2_whichList_44 rfl hl (by decide) rfl (fun ls hl => ?_)
                    refine lv_iinc (v := nI (i2 + 1)) (lv' := [(4, .int (nI (i2 + 1))), (2, .int (nI v2)), (0, .ref (q 0)), (1, .int x), (3, .int (nI 2))]) hx hb dX2_whichList_45 hl (k := 4) rfl (nI_add _ _) (by decide) rfl (fun ls hl => ?_)
                    refine lv_goto (tgt := 12) hx hb dX2_whichList_48 (by decide) ?_
                    exact ih (i2 + 1) v2 _ _ _ (by omega) (ha2.elim Or.inl (fun h9 => Or.inr ⟨h9.1, lt_s (p := fun j => f (64 * 2 + j) ≠ x) h9.2 c_36⟩)) (lv_sub hl [2, 3, 1, 4, 0] rfl) hP hD hS (by omega)
                  · skip
                    refine lv_iload_n hx hb dX2_whichList_39 rfl (lv_at hl 3 rfl) ?_
                    refine lv_goto (tgt := 44) hx hb dX2_whichList_40 (by decide) ?_
                    refine lv_istore_n (lv' := [(2, .int (nI 2)), (0, .ref (q 0)), (1, .int x), (3, .int (nI 2)), (4, .int (nI i2))]) hx hb dX2_whichList_44 rfl hl (by decide) rfl (fun ls hl => ?_)
                    refine lv_iinc (v := nI (i2 + 1)) (lv' := [(4, .int (nI (i2 + 1))), (2, .int (nI 2)), (0, .ref (q 0)), (1, .int x), (3, .int (nI 2))]) hx hb dX2_whichList_45 hl (k := 4) rfl (nI_add _ _) (by decide) rfl (fun ls hl => ?_)
                    refine lv_goto (tgt := 12) hx hb dX2_whichList_48 (by decide) ?_
                    exact ih (i2 + 1) 2 _ _ _ (by omega) (Or.inl ⟨rfl, am_mem (hfm 2 (by decide) (by decide)).2 (by omega) c_36⟩) (lv_sub hl [2, 3, 1, 4, 0] rfl) hP hD hS (by omega)
            exact loop2 ((L 2).length + 1) 0 v1 ls H _ (Nat.zero_le _) (Or.inr ⟨rfl, fun j hj => absurd hj (Nat.not_lt_zero j)⟩) (lv_sub hl [2, 3, 4, 1, 0] rfl) hP hD hS (by omega)
        · skip
          replace c_20 : ¬ (((L 1).length) ≤ i1) := fun h9 => c_20 ((nI_leI (a := (L 1).length) (b := i1) (by omega) (by omega)).mpr h9)
          refine lv_aload_n hx hb dX2_whichList_23 rfl (lv_at hl 0 rfl) ?_
          refine va_get (D := (dC, dI)) (ci := 2) (v := .ref (q 1)) (C := RX2) (T := TX2) (N := 10) hx hb hts hwX2 hown hK hP 0 rfl rfl 1 (by decide) (hts (.fieldLink RX2 7 "ArcCacheModel" "lists" "[I") (by decide +kernel)) (fun _ h9 => h9) rfl dX2_whichList_24 ?_
          refine lv_bipush (v := nI 64) hx hb dX2_whichList_27 (by decide) ?_
          refine lv_iload_n hx hb dX2_whichList_29 rfl (lv_at hl 3 rfl) ?_
          refine lv_imul hx hb dX2_whichList_30 ?_
          refine lv_topi (fun x_25 e_x_25 => ?_)
          have e_x_25 : x_25 = nI (64 * 1) := by rw [e_x_25]; exact pk_mul _ _
          subst e_x_25
          refine lv_iload hx hb dX2_whichList_31 (lv_at hl 4 rfl) ?_
          refine lv_iadd hx hb dX2_whichList_33 ?_
          refine lv_topi (fun x_26 e_x_26 => ?_)
          have e_x_26 : x_26 = nI ((64 * 1) + i1) := by rw [e_x_26]; exact nI_add _ _
          subst e_x_26
          refine va_iald hx hb hK hP 1 0 rfl rfl (vp_in_nI (show (64 * 1) + i1 < 320 by omega) (by decide)) dX2_whichList_34 ?_
          refine lv_topi (fun x_28 e_x_28 => ?_)
          have e_x_28 : x_28 = f ((64 * 1) + i1) := by rw [e_x_28]; rw [nI_clamp (by omega)]
          subst e_x_28
          refine lv_iload_n hx hb dX2_whichList_35 rfl (lv_at hl 1 rfl) ?_
          refine lv_icmp_ne (tgt := 43) hx hb dX2_whichList_36 (by decide) (fun c_36 => ?_) (fun c_36 => ?_)
          · skip
            refine lv_iload_n hx hb dX2_whichList_43 rfl (lv_at hl 2 rfl) ?_
            refine lv_istore_n (lv' := [(2, .int (nI v1)), (0, .ref (q 0)), (1, .int x), (3, .int (nI 1)), (4, .int (nI i1))]) hx hb dX2_whichList_44 rfl hl (by decide) rfl (fun ls hl => ?_)
            refine lv_iinc (v := nI (i1 + 1)) (lv' := [(4, .int (nI (i1 + 1))), (2, .int (nI v1)), (0, .ref (q 0)), (1, .int x), (3, .int (nI 1))]) hx hb dX2_whichList_45 hl (k := 4) rfl (nI_add _ _) (by decide) rfl (fun ls hl => ?_)
            refine lv_goto (tgt := 12) hx hb dX2_whichList_48 (by decide) ?_
            exact ih (i1 + 1) v1 _ _ _ (by omega) (ha1.elim Or.inl (fun h9 => Or.inr ⟨h9.1, lt_s (p := fun j => f (64 * 1 + j) ≠ x) h9.2 c_36⟩)) (lv_sub hl [2, 3, 1, 4, 0] rfl) hP hD hS (by omega)
          · skip
            refine lv_iload_n hx hb dX2_whichList_39 rfl (lv_at hl 3 rfl) ?_
            refine lv_goto (tgt := 44) hx hb dX2_whichList_40 (by decide) ?_
            refine lv_istore_n (lv' := [(2, .int (nI 1)), (0, .ref (q 0)), (1, .int x), (3, .int (nI 1)), (4, .int (nI i1))]) hx hb dX2_whichList_44 rfl hl (by decide) rfl (fun ls hl => ?_)
            refine lv_iinc (v := nI (i1 + 1)) (lv' := [(4, .int (nI (i1 + 1))), (2, .int (nI 1)), (0, .ref (q 0)), (1, .int x), (3, .int (nI 1))]) hx hb dX2_whichList_45 hl (k := 4) rfl (nI_add _ _) (by decide) rfl (fun ls hl => ?_)
            refine lv_goto (tgt := 12) hx hb dX2_whichList_48 (by decide) ?_
            exact ih (i1 + 1) 1 _ _ _ (by omega) (Or.inl ⟨rfl, am_mem (hfm 1 (by decide) (by decide)).2 (by omega) c_36⟩) (lv_sub hl [2, 3, 1, 4, 0] rfl) hP hD hS (by omega)
    exact loop1 ((L 1).length + 1) 0 0 ls H _ (Nat.zero_le _) (Or.inr ⟨rfl, fun j hj => absurd hj (Nat.not_lt_zero j)⟩) (lv_sub hl [3, 4, 2, 1, 0] rfl) hP hD hS (by omega)
end
section
-- THE REFERENCE, second part (laid by wip/gen/mm2.py)
set_option maxHeartbeats 4000000 in
set_option maxRecDepth 100000 in
theorem c_M_old (l : Launch) (dC : Nat → ClassId) (dI : Nat → Nat → Nat) (q : Nat → Nat) (ca : Nat → ClassId) (C : Nat) (f n w d st : Nat → Int32) (tg : Nat) (hi mi go : Int32) (L : Nat → List Int32) (k : Nat) (sz : Nat) (hfm : fm_ok f n L) (hI : ap_inv L) (hz : ap_tot L ≤ 48) (hka : 1 ≤ k) (hkb : k ≤ 4) (hne : L k ≠ []) : Met l yX2_old wsX2_old ({ frames := 0, cells := 0, slots := 0, locals := 0 }) (va_Pc [.ref (q 0), .int (nI k)] (fun U => U.heap.size = sz ∧ va_P (dC, dI) vwCl (cm q ca C f n w d st tg hi mi go) U.heap ∧ va_K (dC, dI) vwCl (km ca) U ∧ va_D (fun _ => True) (cm q ca C f n w d st tg hi mi go))) (va_Qi (fun (r : Int32) (u : ap_U) => r = ap_old (L k) ∧ u = (L, w, d, st, tg, hi, mi, go)) (at_M dC dI (va_A (cm q ca C f n w d st tg hi mi go) sz) q ca C) (va_A (cm q ca C f n w d st tg hi mi go) sz)) 0 0 (va_A (cm q ca C f n w d st tg hi mi go) sz) := by
  refine Met.ofW (cc := cX2_old) (maxL := 2) (ret := (some .int)) (by decide) rfl ?_
  intro p e s m args below meth c s₁ B hml hv
  obtain ⟨rfl, hsz, hP, hK, hD0⟩ := hv
  have hx := B.exec
  have hb := B.bytes
  have hr := B.returns
  have hts := atoms_spec (ws := wsX2_old) B.pre
  have hown : s.vm.findClass RX2 = some m.cls := findClass_of_methodNamed B.named
  have hlocks := B.notSynchronized
  have hwX2 : ∀ w ∈ u_ws RX2 TX2 10, w ∈ wsX2_old := by decide +kernel
  subst hsz
  have hD := hD0.self (sz := s.heap.size)
  generalize hAe : va_A (cm q ca C f n w d st tg hi mi go) s.heap.size = A at hD ⊢
  have hA : ∀ q : Nat, s.heap.size ≤ q → A q := fun q h => by rw [← hAe]; exact Or.inr h
  have hS0 : ∀ H, s.heap = H → va_S A s.heap H [] := fun H h => by subst h; exact va_S.rf
  have hl := lv_entry ([.ref (q 0), .int (nI k)]) (n := 2) (Nat.le_of_ble_eq_true rfl)
  rw [lg_entry_eq]
  generalize (lg_sl ([.ref (q 0), .int (nI k)]) ++ List.replicate (2 - (lg_sl ([.ref (q 0), .int (nI k)])).length) Slot.unset).toArray = ls at hl ⊢
  have hl : lv_has ls 2 [(0, .ref (q 0)), (1, .int (nI k))] := hl
  generalize hHe : s.heap = H at hP ⊢
  have hS := hS0 H hHe
  have hza := ap_z_all hz
  have hzk := hza k hka hkb
  have hpos : 0 < (L k).length := List.length_pos_iff.mpr hne
  have hold9 : f (64 * k + (L k).length - 1) = ap_old (L k) := by
    have h9 := (hfm k hka hkb).2 ((L k).length - 1) (by omega)
    rw [ap_old_at hne] at h9
    have e9 : 64 * k + (L k).length - 1 = 64 * k + ((L k).length - 1) := by omega
    rw [e9]
    exact (Option.some.inj h9).symm
  refine lv_aload_n hx hb dX2_old_0 rfl (lv_at hl 0 rfl) ?_
  refine va_get (D := (dC, dI)) (ci := 2) (v := .ref (q 1)) (C := RX2) (T := TX2) (N := 10) hx hb hts hwX2 hown hK hP 0 rfl rfl 1 (by decide) (hts (.fieldLink RX2 7 "ArcCacheModel" "lists" "[I") (by decide +kernel)) (fun _ h9 => h9) rfl dX2_old_1 ?_
  refine lv_bipush (v := nI 64) hx hb dX2_old_4 (by decide) ?_
  refine lv_iload_n hx hb dX2_old_6 rfl (lv_at hl 1 rfl) ?_
  refine lv_imul hx hb dX2_old_7 ?_
  refine lv_topi (fun x_1 e_x_1 => ?_)
  have e_x_1 : x_1 = nI (64 * k) := by rw [e_x_1]; exact pk_mul _ _
  subst e_x_1
  refine lv_aload_n hx hb dX2_old_8 rfl (lv_at hl 0 rfl) ?_
  refine va_get (D := (dC, dI)) (ci := 2) (v := .ref (q 2)) (C := RX2) (T := TX2) (N := 10) hx hb hts hwX2 hown hK hP 0 rfl rfl 2 (by decide) (hts (.fieldLink RX2 13 "ArcCacheModel" "many" "[I") (by decide +kernel)) (fun _ h9 => h9) rfl dX2_old_9 ?_
  refine lv_iload_n hx hb dX2_old_12 rfl (lv_at hl 1 rfl) ?_
  refine va_iald hx hb hK hP 2 1 rfl rfl (vp_in_nI (show k < 5 by omega) (by decide)) dX2_old_13 ?_
  refine lv_topi (fun x_3 e_x_3 => ?_)
  have e_x_3 : x_3 = n k := by rw [e_x_3]; rw [nI_clamp (by omega)]
  subst e_x_3
  refine lv_topi (fun x_4 e_x_4 => ?_)
  have e_x_4 : x_4 = nI ((L k).length) := by rw [e_x_4]; exact (hfm k hka hkb).1
  subst e_x_4
  refine lv_iadd hx hb dX2_old_14 ?_
  refine lv_topi (fun x_5 e_x_5 => ?_)
  have e_x_5 : x_5 = nI ((64 * k) + ((L k).length)) := by rw [e_x_5]; exact nI_add _ _
  subst e_x_5
  refine lv_iconst (v := nI 1) hx hb dX2_old_15 (by decide) ?_
  refine lv_isub hx hb dX2_old_16 ?_
  refine lv_topi (fun x_6 e_x_6 => ?_)
  have e_x_6 : x_6 = nI (((64 * k) + ((L k).length)) - 1) := by rw [e_x_6]; exact pk_sub (by omega)
  subst e_x_6
  refine va_iald hx hb hK hP 1 0 rfl rfl (vp_in_nI (show ((64 * k) + ((L k).length)) - 1 < 320 by omega) (by decide)) dX2_old_17 ?_
  refine lv_topi (fun x_8 e_x_8 => ?_)
  have e_x_8 : x_8 = f (((64 * k) + ((L k).length)) - 1) := by rw [e_x_8]; rw [nI_clamp (by omega)]
  subst e_x_8
  exact W.iret (v := f (((64 * k) + ((L k).length)) - 1)) hx hb hr (fun t ht hW => ⟨⟨f (((64 * k) + ((L k).length)) - 1), (L, w, d, st, tg, hi, mi, go), rfl, ⟨hold9, rfl⟩, f, n, hfm, by rw [ht]; exact hP, va_K.moved hW.alike hK, hD⟩, hS.F ht⟩) hS.2.2 dX2_old_18
set_option maxHeartbeats 4000000 in
set_option maxRecDepth 100000 in
theorem c_M_clean (l : Launch) (dC : Nat → ClassId) (dI : Nat → Nat → Nat) (q : Nat → Nat) (ca : Nat → ClassId) (C : Nat) (f n w d st : Nat → Int32) (tg : Nat) (hi mi go : Int32) (L : Nat → List Int32) (x : Int32) (sz : Nat) (hfm : fm_ok f n L) (hx64 : vp_in x 64) : Met l yX2_clean wsX2_clean ({ frames := 0, cells := 0, slots := 0, locals := 0 }) (va_Pc [.ref (q 0), .int x] (fun U => U.heap.size = sz ∧ va_P (dC, dI) vwCl (cm q ca C f n w d st tg hi mi go) U.heap ∧ va_K (dC, dI) vwCl (km ca) U ∧ va_D (fun _ => True) (cm q ca C f n w d st tg hi mi go))) (va_Qv (fun (u : ap_U) => u = (L, w, ap_cd d x, ap_cs w d st x, tg, hi, mi, go)) (at_M dC dI (va_A (cm q ca C f n w d st tg hi mi go) sz) q ca C) (va_A (cm q ca C f n w d st tg hi mi go) sz)) 0 0 (va_A (cm q ca C f n w d st tg hi mi go) sz) := by
  refine Met.ofW (cc := cX2_clean) (maxL := 2) (ret := none) (by decide) rfl ?_
  intro p e s m args below meth c s₁ B hml hv
  obtain ⟨rfl, hsz, hP, hK, hD0⟩ := hv
  have hx := B.exec
  have hb := B.bytes
  have hr := B.returns
  have hts := atoms_spec (ws := wsX2_clean) B.pre
  have hown : s.vm.findClass RX2 = some m.cls := findClass_of_methodNamed B.named
  have hlocks := B.notSynchronized
  have hwX2 : ∀ w ∈ u_ws RX2 TX2 10, w ∈ wsX2_clean := by decide +kernel
  subst hsz
  have hD := hD0.self (sz := s.heap.size)
  generalize hAe : va_A (cm q ca C f n w d st tg hi mi go) s.heap.size = A at hD ⊢
  have hA : ∀ q : Nat, s.heap.size ≤ q → A q := fun q h => by rw [← hAe]; exact Or.inr h
  have hS0 : ∀ H, s.heap = H → va_S A s.heap H [] := fun H h => by subst h; exact va_S.rf
  have hl := lv_entry ([.ref (q 0), .int x]) (n := 2) (Nat.le_of_ble_eq_true rfl)
  rw [lg_entry_eq]
  generalize (lg_sl ([.ref (q 0), .int x]) ++ List.replicate (2 - (lg_sl ([.ref (q 0), .int x])).length) Slot.unset).toArray = ls at hl ⊢
  have hl : lv_has ls 2 [(0, .ref (q 0)), (1, .int x)] := hl
  generalize hHe : s.heap = H at hP ⊢
  have hS := hS0 H hHe
  refine lv_aload_n hx hb dX2_clean_0 rfl (lv_at hl 0 rfl) ?_
  refine va_get (D := (dC, dI)) (ci := 2) (v := .ref (q 3)) (C := RX2) (T := TX2) (N := 10) hx hb hts hwX2 hown hK hP 0 rfl rfl 3 (by decide) (hts (.fieldLink RX2 16 "ArcCacheModel" "store" "[I") (by decide +kernel)) (fun _ h9 => h9) rfl dX2_clean_1 ?_
  refine lv_iload_n hx hb dX2_clean_4 rfl (lv_at hl 1 rfl) ?_
  refine lv_aload_n hx hb dX2_clean_5 rfl (lv_at hl 0 rfl) ?_
  refine va_get (D := (dC, dI)) (ci := 2) (v := .ref (q 5)) (C := RX2) (T := TX2) (N := 10) hx hb hts hwX2 hown hK hP 0 rfl rfl 5 (by decide) (hts (.fieldLink RX2 22 "ArcCacheModel" "dirty" "[Z") (by decide +kernel)) (fun _ h9 => h9) rfl dX2_clean_6 ?_
  refine lv_iload_n hx hb dX2_clean_9 rfl (lv_at hl 1 rfl) ?_
  refine va_zald hx hb hK hP 5 4 rfl rfl hx64 dX2_clean_10 ?_
  refine lv_if_eq (tgt := 23) hx hb dX2_clean_11 (by decide) (fun c_11 => ?_) (fun c_11 => ?_)
  · skip
    refine lv_aload_n hx hb dX2_clean_23 rfl (lv_at hl 0 rfl) ?_
    refine va_get (D := (dC, dI)) (ci := 2) (v := .ref (q 3)) (C := RX2) (T := TX2) (N := 10) hx hb hts hwX2 hown hK hP 0 rfl rfl 3 (by decide) (hts (.fieldLink RX2 16 "ArcCacheModel" "store" "[I") (by decide +kernel)) (fun _ h9 => h9) rfl dX2_clean_24 ?_
    refine lv_iload_n hx hb dX2_clean_27 rfl (lv_at hl 1 rfl) ?_
    refine va_iald hx hb hK hP 3 2 rfl rfl hx64 dX2_clean_28 ?_
    refine va_iast hx hb hK hP hD hS 3 2 rfl rfl hx64 dX2_clean_29 (fun H locs hP hD hS => ?_)
    replace hP : va_P (dC, dI) vwCl (cm q ca C f n w d (upd st x.toNatClampNeg (st x.toNatClampNeg)) tg hi mi go) H := hP
    replace hD : va_D A (cm q ca C f n w d (upd st x.toNatClampNeg (st x.toNatClampNeg)) tg hi mi go) := hD
    refine lv_aload_n hx hb dX2_clean_30 rfl (lv_at hl 0 rfl) ?_
    refine va_get (D := (dC, dI)) (ci := 2) (v := .ref (q 5)) (C := RX2) (T := TX2) (N := 10) hx hb hts hwX2 hown hK hP 0 rfl rfl 5 (by decide) (hts (.fieldLink RX2 22 "ArcCacheModel" "dirty" "[Z") (by decide +kernel)) (fun _ h9 => h9) rfl dX2_clean_31 ?_
    refine lv_iload_n hx hb dX2_clean_34 rfl (lv_at hl 1 rfl) ?_
    refine lv_iconst (v := nI 0) hx hb dX2_clean_35 (by decide) ?_
    refine va_zast hx hb hK hP hD hS 5 4 rfl rfl hx64 dX2_clean_36 (fun H locs hP hD hS => ?_)
    rw [ap_nar0] at hP hD
    replace hP : va_P (dC, dI) vwCl (cm q ca C f n w (upd d x.toNatClampNeg 0) (upd st x.toNatClampNeg (st x.toNatClampNeg)) tg hi mi go) H := hP
    replace hD : va_D A (cm q ca C f n w (upd d x.toNatClampNeg 0) (upd st x.toNatClampNeg (st x.toNatClampNeg)) tg hi mi go) := hD
    exact W.vret hx hb hr (fun t ht hW => ⟨⟨(L, w, upd d x.toNatClampNeg 0, upd st x.toNatClampNeg (st x.toNatClampNeg), tg, hi, mi, go), rfl, by unfold ap_cd ap_cs; first | rw [if_pos c_11] | rw [if_neg c_11], f, n, hfm, by rw [ht]; exact hP, va_K.moved hW.alike hK, hD⟩, hS.F ht⟩) hS.2.2 dX2_clean_37
  · skip
    refine lv_aload_n hx hb dX2_clean_14 rfl (lv_at hl 0 rfl) ?_
    refine va_get (D := (dC, dI)) (ci := 2) (v := .ref (q 4)) (C := RX2) (T := TX2) (N := 10) hx hb hts hwX2 hown hK hP 0 rfl rfl 4 (by decide) (hts (.fieldLink RX2 19 "ArcCacheModel" "words" "[I") (by decide +kernel)) (fun _ h9 => h9) rfl dX2_clean_15 ?_
    refine lv_iload_n hx hb dX2_clean_18 rfl (lv_at hl 1 rfl) ?_
    refine va_iald hx hb hK hP 4 3 rfl rfl hx64 dX2_clean_19 ?_
    refine lv_goto (tgt := 29) hx hb dX2_clean_20 (by decide) ?_
    refine va_iast hx hb hK hP hD hS 3 2 rfl rfl hx64 dX2_clean_29 (fun H locs hP hD hS => ?_)
    replace hP : va_P (dC, dI) vwCl (cm q ca C f n w d (upd st x.toNatClampNeg (w x.toNatClampNeg)) tg hi mi go) H := hP
    replace hD : va_D A (cm q ca C f n w d (upd st x.toNatClampNeg (w x.toNatClampNeg)) tg hi mi go) := hD
    refine lv_aload_n hx hb dX2_clean_30 rfl (lv_at hl 0 rfl) ?_
    refine va_get (D := (dC, dI)) (ci := 2) (v := .ref (q 5)) (C := RX2) (T := TX2) (N := 10) hx hb hts hwX2 hown hK hP 0 rfl rfl 5 (by decide) (hts (.fieldLink RX2 22 "ArcCacheModel" "dirty" "[Z") (by decide +kernel)) (fun _ h9 => h9) rfl dX2_clean_31 ?_
    refine lv_iload_n hx hb dX2_clean_34 rfl (lv_at hl 1 rfl) ?_
    refine lv_iconst (v := nI 0) hx hb dX2_clean_35 (by decide) ?_
    refine va_zast hx hb hK hP hD hS 5 4 rfl rfl hx64 dX2_clean_36 (fun H locs hP hD hS => ?_)
    rw [ap_nar0] at hP hD
    replace hP : va_P (dC, dI) vwCl (cm q ca C f n w (upd d x.toNatClampNeg 0) (upd st x.toNatClampNeg (w x.toNatClampNeg)) tg hi mi go) H := hP
    replace hD : va_D A (cm q ca C f n w (upd d x.toNatClampNeg 0) (upd st x.toNatClampNeg (w x.toNatClampNeg)) tg hi mi go) := hD
    exact W.vret hx hb hr (fun t ht hW => ⟨⟨(L, w, upd d x.toNatClampNeg 0, upd st x.toNatClampNeg (w x.toNatClampNeg), tg, hi, mi, go), rfl, by unfold ap_cd ap_cs; first | rw [if_pos c_11] | rw [if_neg c_11], f, n, hfm, by rw [ht]; exact hP, va_K.moved hW.alike hK, hD⟩, hS.F ht⟩) hS.2.2 dX2_clean_37
set_option maxHeartbeats 4000000 in
set_option maxRecDepth 100000 in
theorem c_M_go (l : Launch) (dC : Nat → ClassId) (dI : Nat → Nat → Nat) (q : Nat → Nat) (ca : Nat → ClassId) (C : Nat) (f n w d st : Nat → Int32) (tg : Nat) (hi mi go : Int32) (L : Nat → List Int32) (x : Int32) (sz : Nat) (hfm : fm_ok f n L) (hx64 : vp_in x 64) : Met l yX2_go wsX2_go ({ frames := 1, cells := 0, slots := 0, locals := 21 }) (va_Pc [.ref (q 0), .int x] (fun U => U.heap.size = sz ∧ va_P (dC, dI) vwCl (cm q ca C f n w d st tg hi mi go) U.heap ∧ va_K (dC, dI) vwCl (km ca) U ∧ va_D (fun _ => True) (cm q ca C f n w d st tg hi mi go))) (va_Qv (fun (u : ap_U) => u = (L, w, ap_cd d x, ap_cs w d st x, tg, hi, mi, go + 1)) (at_M dC dI (va_A (cm q ca C f n w d st tg hi mi go) sz) q ca C) (va_A (cm q ca C f n w d st tg hi mi go) sz)) 0 0 (va_A (cm q ca C f n w d st tg hi mi go) sz) := by
  refine Met.ofW (cc := cX2_go) (maxL := 2) (ret := none) (by decide) rfl ?_
  intro p e s m args below meth c s₁ B hml hv
  obtain ⟨rfl, hsz, hP, hK, hD0⟩ := hv
  have hx := B.exec
  have hb := B.bytes
  have hr := B.returns
  have hts := atoms_spec (ws := wsX2_go) B.pre
  have hown : s.vm.findClass RX2 = some m.cls := findClass_of_methodNamed B.named
  have hlocks := B.notSynchronized
  have hwX2 : ∀ w ∈ u_ws RX2 TX2 10, w ∈ wsX2_go := by decide +kernel
  subst hsz
  have hD := hD0.self (sz := s.heap.size)
  generalize hAe : va_A (cm q ca C f n w d st tg hi mi go) s.heap.size = A at hD ⊢
  have hA : ∀ q : Nat, s.heap.size ≤ q → A q := fun q h => by rw [← hAe]; exact Or.inr h
  have hS0 : ∀ H, s.heap = H → va_S A s.heap H [] := fun H h => by subst h; exact va_S.rf
  have hl := lv_entry ([.ref (q 0), .int x]) (n := 2) (Nat.le_of_ble_eq_true rfl)
  rw [lg_entry_eq]
  generalize (lg_sl ([.ref (q 0), .int x]) ++ List.replicate (2 - (lg_sl ([.ref (q 0), .int x])).length) Slot.unset).toArray = ls at hl ⊢
  have hl : lv_has ls 2 [(0, .ref (q 0)), (1, .int x)] := hl
  generalize hHe : s.heap = H at hP ⊢
  have hS := hS0 H hHe
  refine lv_aload_n hx hb dX2_go_0 rfl (lv_at hl 0 rfl) ?_
  refine lv_iload_n hx hb dX2_go_1 rfl (lv_at hl 1 rfl) ?_
  have hPc := hP.sub (ws' := (cm q ca C f n w d st tg hi mi go)) [0, 1, 2, 3, 4, 5] rfl
  have hDc := hD.sub (ws' := (cm q ca C f n w d st tg hi mi go)) [0, 1, 2, 3, 4, 5] (by decide) rfl
  have hKc := hK.sub (tys' := (km ca)) [0, 1, 2, 3, 4] rfl
  have hFc := va_free (wc := (cm q ca C f n w d st tg hi mi go)) hD hS hA [0, 1, 2, 3, 4, 5] rfl
  refine va_callv (va_runV (As := [.int x]) (rest := []) ⟨hx, hb, hml, hown, hts⟩ (c_M_clean l dC dI q ca C f n w d st tg hi mi go L x H.size hfm hx64) (cwV 1 hts gX2_go_X2_clean rfl rfl rfl (by decide +kernel) ⟨Nat.le_of_ble_eq_true rfl, Nat.le_of_ble_eq_true rfl⟩) ⟨fun a U g mk q => by obtain ⟨q0, q1, qP, qK, qD⟩ := q; exact ⟨q0, q1, qP, va_K.moved (u := U) (U := U.calling g mk a) (Vm.Alike.refl U.vm) qK, qD⟩, va_recv hKc hPc (ci := 2) (q0 := 0) rfl rfl, fun U hU hW => ⟨rfl, by rw [hU], by rw [hU]; exact hPc, va_K.moved hW.alike hKc, hDc.weaken (fun _ _ _ _ => trivial)⟩⟩ rfl rfl hl.1 rfl (lv_room (Nat.le_of_ble_eq_true rfl)) dX2_go_2 ⟨Nat.le_of_ble_eq_true rfl, Nat.le_of_ble_eq_true rfl⟩) hS (fun q _ h => hFc q h) hFc (fun u t H1 locs ht hvm hw hB hz1 hk1 hS => ?_)
  obtain ⟨L1, w1, d1, st1, tg1, hi1, mi1, go1⟩ := u
  obtain ⟨f1, n1, hf1, hP1, hK1, hD1⟩ := hB
  rw [ht] at hP1
  cases hw
  obtain ⟨f_1, ef_1⟩ : ∃ z, z = f1 := ⟨_, rfl⟩
  rw [← ef_1] at hf1 hP1 hD1
  clear ef_1 f1
  obtain ⟨n_2, en_2⟩ : ∃ z, z = n1 := ⟨_, rfl⟩
  rw [← en_2] at hf1 hP1 hD1
  clear en_2 n1
  have hfm_3 := hf1
  obtain ⟨hP, hD⟩ := va_join (wr := []) (w1 := (cm q ca C f_1 n_2 w (ap_cd d x) (ap_cs w d st x) tg hi mi go)) hP hD [0, 1, 2, 3, 4, 5] [] rfl rfl (by decide) (by decide) hk1 hFc hP1 hD1
  generalize H1 = H at hP hS ⊢
  replace hP : va_P (dC, dI) vwCl (cm q ca C f_1 n_2 w (ap_cd d x) (ap_cs w d st x) tg hi mi go) H := hP
  replace hD : va_D A (cm q ca C f_1 n_2 w (ap_cd d x) (ap_cs w d st x) tg hi mi go) := hD
  refine lv_aload_n hx hb dX2_go_5 rfl (lv_at hl 0 rfl) ?_
  refine lv_dup hx hb dX2_go_6 rfl ?_
  refine va_get (D := (dC, dI)) (ci := 2) (v := .int go) (C := RX2) (T := TX2) (N := 10) hx hb hts hwX2 hown hK hP 0 rfl rfl 9 (by decide) (hts (.fieldLink RX2 39 "ArcCacheModel" "gone" "I") (by decide +kernel)) (fun _ h9 => h9) rfl dX2_go_7 ?_
  refine lv_iconst (v := nI 1) hx hb dX2_go_10 (by decide) ?_
  refine lv_iadd hx hb dX2_go_11 ?_
  refine va_put (D := (dC, dI)) (ci := 2) (v := .int (go + (nI 1))) (ty := .int) (C := RX2) (T := TX2) (N := 10) hx hb hts hwX2 tyX2 tyX2_ok nmX2 hown hK hP hD hS 0 rfl rfl 9 (by decide) (hts (.fieldLink RX2 39 "ArcCacheModel" "gone" "I") (by decide +kernel)) (fun _ h9 => h9) rfl (by decide +kernel) rfl rfl (Nat.le_of_ble_eq_true rfl) dX2_go_12 (fun H locs hP hD hS => ?_)
  replace hP : va_P (dC, dI) vwCl (cm q ca C f_1 n_2 w (ap_cd d x) (ap_cs w d st x) tg hi mi (go + (nI 1))) H := hP
  replace hD : va_D A (cm q ca C f_1 n_2 w (ap_cd d x) (ap_cs w d st x) tg hi mi (go + (nI 1))) := hD
  exact W.vret hx hb hr (fun t ht hW => ⟨⟨(L, w, ap_cd d x, ap_cs w d st x, tg, hi, mi, go + (nI 1)), rfl, rfl, f_1, n_2, hfm_3, by rw [ht]; exact hP, va_K.moved hW.alike hK, hD⟩, hS.F ht⟩) hS.2.2 dX2_go_15
set_option maxHeartbeats 4000000 in
set_option maxRecDepth 100000 in
theorem c_M_leave (l : Launch) (dC : Nat → ClassId) (dI : Nat → Nat → Nat) (q : Nat → Nat) (ca : Nat → ClassId) (C : Nat) (f n w d st : Nat → Int32) (tg : Nat) (hi mi go : Int32) (L : Nat → List Int32) (x : Int32) (sz : Nat) (hfm : fm_ok f n L) (hI : ap_inv L) (hz : ap_tot L ≤ 48) : Met l yX2_leave wsX2_leave ({ frames := 1, cells := 0, slots := 0, locals := 24 }) (va_Pc [.ref (q 0), .int x] (fun U => U.heap.size = sz ∧ va_P (dC, dI) vwCl (cm q ca C f n w d st tg hi mi go) U.heap ∧ va_K (dC, dI) vwCl (km ca) U ∧ va_D (fun _ => True) (cm q ca C f n w d st tg hi mi go))) (va_Qv (fun (u : ap_U) => u = (ap_leave L x, w, d, st, tg, hi, mi, go)) (at_M dC dI (va_A (cm q ca C f n w d st tg hi mi go) sz) q ca C) (va_A (cm q ca C f n w d st tg hi mi go) sz)) 0 0 (va_A (cm q ca C f n w d st tg hi mi go) sz) := by
  refine Met.ofW (cc := cX2_leave) (maxL := 4) (ret := none) (by decide) rfl ?_
  intro p e s m args below meth c s₁ B hml hv
  obtain ⟨rfl, hsz, hP, hK, hD0⟩ := hv
  have hx := B.exec
  have hb := B.bytes
  have hr := B.returns
  have hts := atoms_spec (ws := wsX2_leave) B.pre
  have hown : s.vm.findClass RX2 = some m.cls := findClass_of_methodNamed B.named
  have hlocks := B.notSynchronized
  have hwX2 : ∀ w ∈ u_ws RX2 TX2 10, w ∈ wsX2_leave := by decide +kernel
  subst hsz
  have hD := hD0.self (sz := s.heap.size)
  generalize hAe : va_A (cm q ca C f n w d st tg hi mi go) s.heap.size = A at hD ⊢
  have hA : ∀ q : Nat, s.heap.size ≤ q → A q := fun q h => by rw [← hAe]; exact Or.inr h
  have hS0 : ∀ H, s.heap = H → va_S A s.heap H [] := fun H h => by subst h; exact va_S.rf
  have hl := lv_entry ([.ref (q 0), .int x]) (n := 4) (Nat.le_of_ble_eq_true rfl)
  rw [lg_entry_eq]
  generalize (lg_sl ([.ref (q 0), .int x]) ++ List.replicate (4 - (lg_sl ([.ref (q 0), .int x])).length) Slot.unset).toArray = ls at hl ⊢
  have hl : lv_has ls 4 [(0, .ref (q 0)), (1, .int x)] := hl
  generalize hHe : s.heap = H at hP ⊢
  have hS := hS0 H hHe
  have hza := ap_z_all hz
  have hwle9 := ap_wl_le L x
  refine lv_aload_n hx hb dX2_leave_0 rfl (lv_at hl 0 rfl) ?_
  refine lv_iload_n hx hb dX2_leave_1 rfl (lv_at hl 1 rfl) ?_
  have hPc := hP.sub (ws' := (cm q ca C f n w d st tg hi mi go)) [0, 1, 2, 3, 4, 5] rfl
  have hDc := hD.sub (ws' := (cm q ca C f n w d st tg hi mi go)) [0, 1, 2, 3, 4, 5] (by decide) rfl
  have hKc := hK.sub (tys' := (km ca)) [0, 1, 2, 3, 4] rfl
  have hFc := va_free (wc := (cm q ca C f n w d st tg hi mi go)) hD hS hA [0, 1, 2, 3, 4, 5] rfl
  refine va_calli (va_runV (As := [.int x]) (rest := []) ⟨hx, hb, hml, hown, hts⟩ (c_M_whichList l dC dI q ca C f n w d st tg hi mi go L x H.size hfm hI hz) (cwV 1 hts gX2_leave_X2_whichList rfl rfl rfl (by decide +kernel) ⟨Nat.le_of_ble_eq_true rfl, Nat.le_of_ble_eq_true rfl⟩) ⟨fun a U g mk q => by obtain ⟨q0, q1, qP, qK, qD⟩ := q; exact ⟨q0, q1, qP, va_K.moved (u := U) (U := U.calling g mk a) (Vm.Alike.refl U.vm) qK, qD⟩, va_recv hKc hPc (ci := 2) (q0 := 0) rfl rfl, fun U hU hW => ⟨rfl, by rw [hU], by rw [hU]; exact hPc, va_K.moved hW.alike hKc, hDc.weaken (fun _ _ _ _ => trivial)⟩⟩ rfl rfl hl.1 rfl (lv_room (Nat.le_of_ble_eq_true rfl)) dX2_leave_2 ⟨Nat.le_of_ble_eq_true rfl, Nat.le_of_ble_eq_true rfl⟩) hS (fun q _ h => hFc q h) hFc (fun r u t H1 locs ht hvm hw hB hz1 hk1 hS => ?_)
  obtain ⟨L1, w1, d1, st1, tg1, hi1, mi1, go1⟩ := u
  obtain ⟨f1, n1, hf1, hP1, hK1, hD1⟩ := hB
  rw [ht] at hP1
  obtain ⟨hr9, hw⟩ := hw
  cases hw
  obtain ⟨f_1, ef_1⟩ : ∃ z, z = f1 := ⟨_, rfl⟩
  rw [← ef_1] at hf1 hP1 hD1
  clear ef_1 f1
  obtain ⟨n_2, en_2⟩ : ∃ z, z = n1 := ⟨_, rfl⟩
  rw [← en_2] at hf1 hP1 hD1
  clear en_2 n1
  have hfm_3 := hf1
  obtain ⟨hP, hD⟩ := va_join (wr := []) (w1 := (cm q ca C f_1 n_2 w d st tg hi mi go)) hP hD [0, 1, 2, 3, 4, 5] [] rfl rfl (by decide) (by decide) hk1 hFc hP1 hD1
  generalize H1 = H at hP hS ⊢
  replace hP : va_P (dC, dI) vwCl (cm q ca C f_1 n_2 w d st tg hi mi go) H := hP
  replace hD : va_D A (cm q ca C f_1 n_2 w d st tg hi mi go) := hD
  subst hr9
  refine lv_istore_n (lv' := [(2, .int (nI (ap_wl L x))), (0, .ref (q 0)), (1, .int x)]) hx hb dX2_leave_5 rfl hl (by decide) rfl (fun ls hl => ?_)
  refine lv_iload_n hx hb dX2_leave_6 rfl (lv_at hl 0 rfl) ?_
  refine lv_if_le (tgt := 76) hx hb dX2_leave_7 (by decide) (fun c_7 => ?_) (fun c_7 => ?_)
  · skip
    replace c_7 : (ap_wl L x) ≤ 0 := (nI_leI (a := ap_wl L x) (b := 0) (by omega) (by omega)).mp c_7
    have hw09 : ap_wl L x = 0 := by omega
    have hfin9 : (L, w, d, st, tg, hi, mi, go) = (ap_leave L x, w, d, st, tg, hi, mi, go) := by rw [ap_leave_0 hw09]
    exact W.vret hx hb hr (fun t ht hW => ⟨⟨(L, w, d, st, tg, hi, mi, go), rfl, hfin9, f_1, n_2, hfm_3, by rw [ht]; exact hP, va_K.moved hW.alike hK, hD⟩, hS.F ht⟩) hS.2.2 dX2_leave_76
  · skip
    replace c_7 : ¬ ((ap_wl L x) ≤ 0) := fun h9 => c_7 ((nI_leI (a := ap_wl L x) (b := 0) (by omega) (by omega)).mpr h9)
    have hm9 : x ∈ L (ap_wl L x) := ap_wl_mem (by omega)
    obtain ⟨k, ek9⟩ : ∃ k, ap_wl L x = k := ⟨_, rfl⟩
    rw [ek9] at hl hm9 c_7 hwle9
    have hka : 1 ≤ k := by omega
    have hkb : k ≤ 4 := hwle9
    have hzk := hza k hka hkb
    obtain ⟨p9, hp9, hx9⟩ := ar_of (hfm_3 k hka hkb).2 hm9
    replace hx9 : f_1 (64 * k + p9) = x := hx9
    refine lv_bipush (v := nI 64) hx hb dX2_leave_10 (by decide) ?_
    refine lv_iload_n hx hb dX2_leave_12 rfl (lv_at hl 0 rfl) ?_
    refine lv_imul hx hb dX2_leave_13 ?_
    refine lv_topi (fun x_4 e_x_4 => ?_)
    have e_x_4 : x_4 = nI (64 * k) := by rw [e_x_4]; exact pk_mul _ _
    subst e_x_4
    refine lv_istore_n (lv' := [(3, .int (nI (64 * k))), (2, .int (nI k)), (0, .ref (q 0)), (1, .int x)]) hx hb dX2_leave_14 rfl hl (by decide) rfl (fun ls hl => ?_)
    replace hl : lv_has ls 4 [(3, .int (nI (64 * k + 0))), (2, .int (nI k)), (0, .ref (q 0)), (1, .int x)] := hl
    have loopa : ∀ (k9 : Nat) (j : Nat) (ls : Array Slot) (H : Heap) (locs : List Loc), (j ≤ p9) → lv_has ls 4 [(0, .ref (q 0)), (1, .int x), (2, .int (nI k)), (3, .int (nI (64 * k + j)))] → va_P (dC, dI) vwCl (cm q ca C f_1 n_2 w d st tg hi mi go) H → va_D A (cm q ca C f_1 n_2 w d st tg hi mi go) → va_S A s.heap H locs → p9 + 1 ≤ j + k9 → W p l e (headSpec wsX2_leave ({ frames := 1, cells := 0, slots := 0, locals := 24 })).room s m ([.ref (q 0), .int x] : List Value).toArray below meth c H locs 0 0 (MQ below (va_Qv (fun (u : ap_U) => u = (ap_leave L x, w, d, st, tg, hi, mi, go)) (at_M dC dI A q ca C) A) ([.ref (q 0), .int x] : List Value).toArray s 0 0 A) (F0 m 15 ls []) := by
      intro k9
      induction k9 with
      | zero => intro j ls H locs hjp hl hP hD hS hk; exact absurd hk (by omega)
      | succ k9 ih =>
        intro j ls H locs hjp hl hP hD hS hk
        refine lv_aload_n hx hb dX2_leave_15 rfl (lv_at hl 0 rfl) ?_
        refine va_get (D := (dC, dI)) (ci := 2) (v := .ref (q 1)) (C := RX2) (T := TX2) (N := 10) hx hb hts hwX2 hown hK hP 0 rfl rfl 1 (by decide) (hts (.fieldLink RX2 7 "ArcCacheModel" "lists" "[I") (by decide +kernel)) (fun _ h9 => h9) rfl dX2_leave_16 ?_
        refine lv_iload_n hx hb dX2_leave_19 rfl (lv_at hl 3 rfl) ?_
        refine va_iald hx hb hK hP 1 0 rfl rfl (vp_in_nI (show 64 * k + j < 320 by omega) (by decide)) dX2_leave_20 ?_
        refine lv_topi (fun x_6 e_x_6 => ?_)
        have e_x_6 : x_6 = f_1 (64 * k + j) := by rw [e_x_6]; rw [nI_clamp (by omega)]
        subst e_x_6
        refine lv_iload_n hx hb dX2_leave_21 rfl (lv_at hl 1 rfl) ?_
        refine lv_icmp_eq (tgt := 31) hx hb dX2_leave_22 (by decide) (fun c_22 => ?_) (fun c_22 => ?_)
        · skip
          have hjl : j < (L k).length := by omega
          have hfm9 := fm_rm (x := x) hfm_3 hI hza hka hkb hjl c_22
          have hfin9 : (va_up L k (ap_rm x (L k)), w, d, st, tg, hi, mi, go) = (ap_leave L x, w, d, st, tg, hi, mi, go) := by rw [ap_leave_1 ek9 hka]
          refine lv_aload_n hx hb dX2_leave_31 rfl (lv_at hl 0 rfl) ?_
          refine va_get (D := (dC, dI)) (ci := 2) (v := .ref (q 2)) (C := RX2) (T := TX2) (N := 10) hx hb hts hwX2 hown hK hP 0 rfl rfl 2 (by decide) (hts (.fieldLink RX2 13 "ArcCacheModel" "many" "[I") (by decide +kernel)) (fun _ h9 => h9) rfl dX2_leave_32 ?_
          refine lv_iload_n hx hb dX2_leave_35 rfl (lv_at hl 2 rfl) ?_
          refine lv_dup2_11 hx hb dX2_leave_36 rfl rfl ?_
          refine va_iald hx hb hK hP 2 1 rfl rfl (vp_in_nI (show k < 5 by omega) (by decide)) dX2_leave_37 ?_
          refine lv_topi (fun x_8 e_x_8 => ?_)
          have e_x_8 : x_8 = n_2 k := by rw [e_x_8]; rw [nI_clamp (by omega)]
          subst e_x_8
          refine lv_topi (fun x_9 e_x_9 => ?_)
          have e_x_9 : x_9 = nI ((L k).length) := by rw [e_x_9]; exact (hfm_3 k hka hkb).1
          subst e_x_9
          refine lv_iconst (v := nI 1) hx hb dX2_leave_38 (by decide) ?_
          refine lv_isub hx hb dX2_leave_39 ?_
          refine lv_topi (fun x_10 e_x_10 => ?_)
          have e_x_10 : x_10 = nI (((L k).length) - 1) := by rw [e_x_10]; exact pk_sub (by omega)
          subst e_x_10
          refine va_iast hx hb hK hP hD hS 2 1 rfl rfl (vp_in_nI (show k < 5 by omega) (by decide)) dX2_leave_40 (fun H locs hP hD hS => ?_)
          rw [nI_clamp (show k < 2 ^ 31 by omega)] at hP hD
          replace hP : va_P (dC, dI) vwCl (cm q ca C f_1 (upd n_2 k (nI (((L k).length) - 1))) w d st tg hi mi go) H := hP
          replace hD : va_D A (cm q ca C f_1 (upd n_2 k (nI (((L k).length) - 1))) w d st tg hi mi go) := hD
          rw [← ap_sh_0 (f := f_1) (lo := 64 * k + j)] at hP hD
          have loopb : ∀ (k8 : Nat) (i : Nat) (ls : Array Slot) (H : Heap) (locs : List Loc), (j ≤ i) → (i ≤ (L k).length - 1) → lv_has ls 4 [(0, .ref (q 0)), (1, .int x), (2, .int (nI k)), (3, .int (nI (64 * k + i)))] → va_P (dC, dI) vwCl (cm q ca C (ap_sh f_1 (64 * k + j) (64 * k + i)) (upd n_2 k (nI (((L k).length) - 1))) w d st tg hi mi go) H → va_D A (cm q ca C (ap_sh f_1 (64 * k + j) (64 * k + i)) (upd n_2 k (nI (((L k).length) - 1))) w d st tg hi mi go) → va_S A s.heap H locs → (L k).length ≤ i + k8 → W p l e (headSpec wsX2_leave ({ frames := 1, cells := 0, slots := 0, locals := 24 })).room s m ([.ref (q 0), .int x] : List Value).toArray below meth c H locs 0 0 (MQ below (va_Qv (fun (u : ap_U) => u = (ap_leave L x, w, d, st, tg, hi, mi, go)) (at_M dC dI A q ca C) A) ([.ref (q 0), .int x] : List Value).toArray s 0 0 A) (F0 m 41 ls []) := by
            intro k8
            induction k8 with
            | zero => intro i ls H locs hji hil hl hP hD hS hk; exact absurd hk (by omega)
            | succ k8 ih =>
              intro i ls H locs hji hil hl hP hD hS hk
              refine lv_iload_n hx hb dX2_leave_41 rfl (lv_at hl 3 rfl) ?_
              refine lv_bipush (v := nI 64) hx hb dX2_leave_42 (by decide) ?_
              refine lv_iload_n hx hb dX2_leave_44 rfl (lv_at hl 2 rfl) ?_
              refine lv_imul hx hb dX2_leave_45 ?_
              refine lv_topi (fun x_11 e_x_11 => ?_)
              have e_x_11 : x_11 = nI (64 * k) := by rw [e_x_11]; exact pk_mul _ _
              subst e_x_11
              refine lv_aload_n hx hb dX2_leave_46 rfl (lv_at hl 0 rfl) ?_
              refine va_get (D := (dC, dI)) (ci := 2) (v := .ref (q 2)) (C := RX2) (T := TX2) (N := 10) hx hb hts hwX2 hown hK hP 0 rfl rfl 2 (by decide) (hts (.fieldLink RX2 13 "ArcCacheModel" "many" "[I") (by decide +kernel)) (fun _ h9 => h9) rfl dX2_leave_47 ?_
              refine lv_iload_n hx hb dX2_leave_50 rfl (lv_at hl 2 rfl) ?_
              refine va_iald hx hb hK hP 2 1 rfl rfl (vp_in_nI (show k < 5 by omega) (by decide)) dX2_leave_51 ?_
              refine lv_topi (fun x_12 e_x_12 => ?_)
              have e_x_12 : x_12 = nI ((L k).length - 1) := by rw [e_x_12]; rw [nI_clamp (by omega), pk_us]
              subst e_x_12
              refine lv_iadd hx hb dX2_leave_52 ?_
              refine lv_topi (fun x_13 e_x_13 => ?_)
              have e_x_13 : x_13 = nI ((64 * k) + ((L k).length - 1)) := by rw [e_x_13]; exact nI_add _ _
              subst e_x_13
              refine lv_icmp_ge (tgt := 76) hx hb dX2_leave_53 (by decide) (fun c_53 => ?_) (fun c_53 => ?_)
              · skip
                replace c_53 : ((64 * k) + ((L k).length - 1)) ≤ (64 * k + i) := (nI_leI (a := (64 * k) + ((L k).length - 1)) (b := 64 * k + i) (by omega) (by omega)).mp c_53
                have ei9 : i = (L k).length - 1 := by omega
                subst ei9
                exact W.vret hx hb hr (fun t ht hW => ⟨⟨(va_up L k (ap_rm x (L k)), w, d, st, tg, hi, mi, go), rfl, hfin9, ap_sh f_1 (64 * k + j) (64 * k + ((L k).length - 1)), upd n_2 k (nI (((L k).length) - 1)), hfm9, by rw [ht]; exact hP, va_K.moved hW.alike hK, hD⟩, hS.F ht⟩) hS.2.2 dX2_leave_76
              · skip
                replace c_53 : ¬ (((64 * k) + ((L k).length - 1)) ≤ (64 * k + i)) := fun h9 => c_53 ((nI_leI (a := (64 * k) + ((L k).length - 1)) (b := 64 * k + i) (by omega) (by omega)).mpr h9)
                refine lv_aload_n hx hb dX2_leave_56 rfl (lv_at hl 0 rfl) ?_
                refine va_get (D := (dC, dI)) (ci := 2) (v := .ref (q 1)) (C := RX2) (T := TX2) (N := 10) hx hb hts hwX2 hown hK hP 0 rfl rfl 1 (by decide) (hts (.fieldLink RX2 7 "ArcCacheModel" "lists" "[I") (by decide +kernel)) (fun _ h9 => h9) rfl dX2_leave_57 ?_
                refine lv_iload_n hx hb dX2_leave_60 rfl (lv_at hl 3 rfl) ?_
                refine lv_aload_n hx hb dX2_leave_61 rfl (lv_at hl 0 rfl) ?_
                refine va_get (D := (dC, dI)) (ci := 2) (v := .ref (q 1)) (C := RX2) (T := TX2) (N := 10) hx hb hts hwX2 hown hK hP 0 rfl rfl 1 (by decide) (hts (.fieldLink RX2 7 "ArcCacheModel" "lists" "[I") (by decide +kernel)) (fun _ h9 => h9) rfl dX2_leave_62 ?_
                refine lv_iload_n hx hb dX2_leave_65 rfl (lv_at hl 3 rfl) ?_
                refine lv_iconst (v := nI 1) hx hb dX2_leave_66 (by decide) ?_
                refine lv_iadd hx hb dX2_leave_67 ?_
                refine lv_topi (fun x_14 e_x_14 => ?_)
                have e_x_14 : x_14 = nI ((64 * k + i) + 1) := by rw [e_x_14]; exact nI_add _ _
                subst e_x_14
                refine va_iald hx hb hK hP 1 0 rfl rfl (vp_in_nI (show (64 * k + i) + 1 < 320 by omega) (by decide)) dX2_leave_68 ?_
                refine lv_topi (fun x_16 e_x_16 => ?_)
                have e_x_16 : x_16 = (ap_sh f_1 (64 * k + j) (64 * k + i)) ((64 * k + i) + 1) := by rw [e_x_16]; rw [nI_clamp (by omega)]
                subst e_x_16
                refine va_iast hx hb hK hP hD hS 1 0 rfl rfl (vp_in_nI (show 64 * k + i < 320 by omega) (by decide)) dX2_leave_69 (fun H locs hP hD hS => ?_)
                rw [nI_clamp (show 64 * k + i < 2 ^ 31 by omega)] at hP hD
                replace hP : va_P (dC, dI) vwCl (cm q ca C (upd (ap_sh f_1 (64 * k + j) (64 * k + i)) (64 * k + i) ((ap_sh f_1 (64 * k + j) (64 * k + i)) ((64 * k + i) + 1))) (upd n_2 k (nI (((L k).length) - 1))) w d st tg hi mi go) H := hP
                replace hD : va_D A (cm q ca C (upd (ap_sh f_1 (64 * k + j) (64 * k + i)) (64 * k + i) ((ap_sh f_1 (64 * k + j) (64 * k + i)) ((64 * k + i) + 1))) (upd n_2 k (nI (((L k).length) - 1))) w d st tg hi mi go) := hD
                refine lv_iinc (v := nI (64 * k + i + 1)) (lv' := [(3, .int (nI (64 * k + i + 1))), (0, .ref (q 0)), (1, .int x), (2, .int (nI k))]) hx hb dX2_leave_70 hl (k := 3) rfl (nI_add _ _) (by decide) rfl (fun ls hl => ?_)
                refine lv_goto (tgt := 41) hx hb dX2_leave_73 (by decide) ?_
                replace hP : va_P (dC, dI) vwCl (cm q ca C (ap_sh f_1 (64 * k + j) (64 * k + i + 1)) (upd n_2 k (nI (((L k).length) - 1))) w d st tg hi mi go) H := by rw [← ap_sh_s (show 64 * k + j ≤ 64 * k + i by omega)]; exact hP
                replace hD : va_D A (cm q ca C (ap_sh f_1 (64 * k + j) (64 * k + i + 1)) (upd n_2 k (nI (((L k).length) - 1))) w d st tg hi mi go) := by rw [← ap_sh_s (show 64 * k + j ≤ 64 * k + i by omega)]; exact hD
                replace hl : lv_has ls 4 [(3, .int (nI (64 * k + (i + 1)))), (0, .ref (q 0)), (1, .int x), (2, .int (nI k))] := hl
                exact ih (i + 1) _ _ _ (by omega) (by omega) (lv_sub hl [1, 2, 3, 0] rfl) hP hD hS (by omega)
          exact loopb ((L k).length) j ls H _ (Nat.le_refl _) (by omega) (lv_sub hl [0, 1, 2, 3] rfl) hP hD hS (by omega)
        · skip
          refine lv_iinc (v := nI (64 * k + j + 1)) (lv' := [(3, .int (nI (64 * k + j + 1))), (0, .ref (q 0)), (1, .int x), (2, .int (nI k))]) hx hb dX2_leave_25 hl (k := 3) rfl (nI_add _ _) (by decide) rfl (fun ls hl => ?_)
          refine lv_goto (tgt := 15) hx hb dX2_leave_28 (by decide) ?_
          replace hl : lv_has ls 4 [(3, .int (nI (64 * k + (j + 1)))), (0, .ref (q 0)), (1, .int x), (2, .int (nI k))] := hl
          have hne9 : j ≠ p9 := fun e9 => c_22 (by subst e9; exact hx9)
          exact ih (j + 1) _ _ _ (by omega) (lv_sub hl [1, 2, 3, 0] rfl) hP hD hS (by omega)
    exact loopa (p9 + 1) 0 ls H _ (Nat.zero_le _) (lv_sub hl [2, 3, 1, 0] rfl) hP hD hS (by omega)
set_option maxHeartbeats 4000000 in
set_option maxRecDepth 100000 in
theorem c_M_come (l : Launch) (dC : Nat → ClassId) (dI : Nat → Nat → Nat) (q : Nat → Nat) (ca : Nat → ClassId) (C : Nat) (f n w d st : Nat → Int32) (tg : Nat) (hi mi go : Int32) (L : Nat → List Int32) (x : Int32) (k : Nat) (sz : Nat) (hfm : fm_ok f n L) (hI : ap_inv L) (hz : ap_tot L ≤ 48) (hka : 1 ≤ k) (hkb : k ≤ 4) : Met l yX2_come wsX2_come ({ frames := 2, cells := 0, slots := 0, locals := 47 }) (va_Pc [.ref (q 0), .int x, .int (nI k)] (fun U => U.heap.size = sz ∧ va_P (dC, dI) vwCl (cm q ca C f n w d st tg hi mi go) U.heap ∧ va_K (dC, dI) vwCl (km ca) U ∧ va_D (fun _ => True) (cm q ca C f n w d st tg hi mi go))) (va_Qv (fun (u : ap_U) => u = (va_up (ap_leave L x) k (x :: ap_leave L x k), w, d, st, tg, hi, mi, go)) (at_M dC dI (va_A (cm q ca C f n w d st tg hi mi go) sz) q ca C) (va_A (cm q ca C f n w d st tg hi mi go) sz)) 0 0 (va_A (cm q ca C f n w d st tg hi mi go) sz) := by
  refine Met.ofW (cc := cX2_come) (maxL := 4) (ret := none) (by decide) rfl ?_
  intro p e s m args below meth c s₁ B hml hv
  obtain ⟨rfl, hsz, hP, hK, hD0⟩ := hv
  have hx := B.exec
  have hb := B.bytes
  have hr := B.returns
  have hts := atoms_spec (ws := wsX2_come) B.pre
  have hown : s.vm.findClass RX2 = some m.cls := findClass_of_methodNamed B.named
  have hlocks := B.notSynchronized
  have hwX2 : ∀ w ∈ u_ws RX2 TX2 10, w ∈ wsX2_come := by decide +kernel
  subst hsz
  have hD := hD0.self (sz := s.heap.size)
  generalize hAe : va_A (cm q ca C f n w d st tg hi mi go) s.heap.size = A at hD ⊢
  have hA : ∀ q : Nat, s.heap.size ≤ q → A q := fun q h => by rw [← hAe]; exact Or.inr h
  have hS0 : ∀ H, s.heap = H → va_S A s.heap H [] := fun H h => by subst h; exact va_S.rf
  have hl := lv_entry ([.ref (q 0), .int x, .int (nI k)]) (n := 4) (Nat.le_of_ble_eq_true rfl)
  rw [lg_entry_eq]
  generalize (lg_sl ([.ref (q 0), .int x, .int (nI k)]) ++ List.replicate (4 - (lg_sl ([.ref (q 0), .int x, .int (nI k)])).length) Slot.unset).toArray = ls at hl ⊢
  have hl : lv_has ls 4 [(0, .ref (q 0)), (1, .int x), (2, .int (nI k))] := hl
  generalize hHe : s.heap = H at hP ⊢
  have hS := hS0 H hHe
  have hza := ap_z_all hz
  have hzl : ∀ i, 1 ≤ i → i ≤ 4 → (ap_leave L x i).length ≤ 48 := fun i h1 h4 => Nat.le_trans (ap_leave_len x i) (hza i h1 h4)
  have hzk := hzl k hka hkb
  refine lv_aload_n hx hb dX2_come_0 rfl (lv_at hl 0 rfl) ?_
  refine lv_iload_n hx hb dX2_come_1 rfl (lv_at hl 1 rfl) ?_
  have hPc := hP.sub (ws' := (cm q ca C f n w d st tg hi mi go)) [0, 1, 2, 3, 4, 5] rfl
  have hDc := hD.sub (ws' := (cm q ca C f n w d st tg hi mi go)) [0, 1, 2, 3, 4, 5] (by decide) rfl
  have hKc := hK.sub (tys' := (km ca)) [0, 1, 2, 3, 4] rfl
  have hFc := va_free (wc := (cm q ca C f n w d st tg hi mi go)) hD hS hA [0, 1, 2, 3, 4, 5] rfl
  refine va_callv (va_runV (As := [.int x]) (rest := []) ⟨hx, hb, hml, hown, hts⟩ (c_M_leave l dC dI q ca C f n w d st tg hi mi go L x H.size hfm hI hz) (cwV 1 hts gX2_come_X2_leave rfl rfl rfl (by decide +kernel) ⟨Nat.le_of_ble_eq_true rfl, Nat.le_of_ble_eq_true rfl⟩) ⟨fun a U g mk q => by obtain ⟨q0, q1, qP, qK, qD⟩ := q; exact ⟨q0, q1, qP, va_K.moved (u := U) (U := U.calling g mk a) (Vm.Alike.refl U.vm) qK, qD⟩, va_recv hKc hPc (ci := 2) (q0 := 0) rfl rfl, fun U hU hW => ⟨rfl, by rw [hU], by rw [hU]; exact hPc, va_K.moved hW.alike hKc, hDc.weaken (fun _ _ _ _ => trivial)⟩⟩ rfl rfl hl.1 rfl (lv_room (Nat.le_of_ble_eq_true rfl)) dX2_come_2 ⟨Nat.le_of_ble_eq_true rfl, Nat.le_of_ble_eq_true rfl⟩) hS (fun q _ h => hFc q h) hFc (fun u t H1 locs ht hvm hw hB hz1 hk1 hS => ?_)
  obtain ⟨L1, w1, d1, st1, tg1, hi1, mi1, go1⟩ := u
  obtain ⟨f1, n1, hf1, hP1, hK1, hD1⟩ := hB
  rw [ht] at hP1
  cases hw
  obtain ⟨f_1, ef_1⟩ : ∃ z, z = f1 := ⟨_, rfl⟩
  rw [← ef_1] at hf1 hP1 hD1
  clear ef_1 f1
  obtain ⟨n_2, en_2⟩ : ∃ z, z = n1 := ⟨_, rfl⟩
  rw [← en_2] at hf1 hP1 hD1
  clear en_2 n1
  have hfm_3 := hf1
  obtain ⟨hP, hD⟩ := va_join (wr := []) (w1 := (cm q ca C f_1 n_2 w d st tg hi mi go)) hP hD [0, 1, 2, 3, 4, 5] [] rfl rfl (by decide) (by decide) hk1 hFc hP1 hD1
  generalize H1 = H at hP hS ⊢
  replace hP : va_P (dC, dI) vwCl (cm q ca C f_1 n_2 w d st tg hi mi go) H := hP
  replace hD : va_D A (cm q ca C f_1 n_2 w d st tg hi mi go) := hD
  refine lv_bipush (v := nI 64) hx hb dX2_come_5 (by decide) ?_
  refine lv_iload_n hx hb dX2_come_7 rfl (lv_at hl 2 rfl) ?_
  refine lv_imul hx hb dX2_come_8 ?_
  refine lv_topi (fun x_4 e_x_4 => ?_)
  have e_x_4 : x_4 = nI (64 * k) := by rw [e_x_4]; exact pk_mul _ _
  subst e_x_4
  refine lv_aload_n hx hb dX2_come_9 rfl (lv_at hl 0 rfl) ?_
  refine va_get (D := (dC, dI)) (ci := 2) (v := .ref (q 2)) (C := RX2) (T := TX2) (N := 10) hx hb hts hwX2 hown hK hP 0 rfl rfl 2 (by decide) (hts (.fieldLink RX2 13 "ArcCacheModel" "many" "[I") (by decide +kernel)) (fun _ h9 => h9) rfl dX2_come_10 ?_
  refine lv_iload_n hx hb dX2_come_13 rfl (lv_at hl 2 rfl) ?_
  refine va_iald hx hb hK hP 2 1 rfl rfl (vp_in_nI (show k < 5 by omega) (by decide)) dX2_come_14 ?_
  refine lv_topi (fun x_6 e_x_6 => ?_)
  have e_x_6 : x_6 = n_2 k := by rw [e_x_6]; rw [nI_clamp (by omega)]
  subst e_x_6
  refine lv_topi (fun x_7 e_x_7 => ?_)
  have e_x_7 : x_7 = nI (((ap_leave L x) k).length) := by rw [e_x_7]; exact (hfm_3 k hka hkb).1
  subst e_x_7
  refine lv_iadd hx hb dX2_come_15 ?_
  refine lv_topi (fun x_8 e_x_8 => ?_)
  have e_x_8 : x_8 = nI ((64 * k) + (((ap_leave L x) k).length)) := by rw [e_x_8]; exact nI_add _ _
  subst e_x_8
  refine lv_istore_n (lv' := [(3, .int (nI ((64 * k) + (((ap_leave L x) k).length)))), (0, .ref (q 0)), (1, .int x), (2, .int (nI k))]) hx hb dX2_come_16 rfl hl (by decide) rfl (fun ls hl => ?_)
  have hfm9 := fm_add (x := x) hfm_3 hzl hka hkb
  rw [← ap_sd_0 (f := f_1) (hi := 64 * k + (ap_leave L x k).length)] at hP hD
  have loopc : ∀ (k9 : Nat) (j : Nat) (ls : Array Slot) (H : Heap) (locs : List Loc), (j ≤ (ap_leave L x k).length) → lv_has ls 4 [(0, .ref (q 0)), (1, .int x), (2, .int (nI k)), (3, .int (nI (64 * k + j)))] → va_P (dC, dI) vwCl (cm q ca C (ap_sd f_1 (64 * k + j) (64 * k + (ap_leave L x k).length)) n_2 w d st tg hi mi go) H → va_D A (cm q ca C (ap_sd f_1 (64 * k + j) (64 * k + (ap_leave L x k).length)) n_2 w d st tg hi mi go) → va_S A s.heap H locs → j + 1 ≤ k9 → W p l e (headSpec wsX2_come ({ frames := 2, cells := 0, slots := 0, locals := 47 })).room s m ([.ref (q 0), .int x, .int (nI k)] : List Value).toArray below meth c H locs 0 0 (MQ below (va_Qv (fun (u : ap_U) => u = (va_up (ap_leave L x) k (x :: ap_leave L x k), w, d, st, tg, hi, mi, go)) (at_M dC dI A q ca C) A) ([.ref (q 0), .int x, .int (nI k)] : List Value).toArray s 0 0 A) (F0 m 17 ls []) := by
    intro k9
    induction k9 with
    | zero => intro j ls H locs hjl hl hP hD hS hk; exact absurd hk (by omega)
    | succ k9 ih =>
      intro j ls H locs hjl hl hP hD hS hk
      refine lv_iload_n hx hb dX2_come_17 rfl (lv_at hl 3 rfl) ?_
      refine lv_bipush (v := nI 64) hx hb dX2_come_18 (by decide) ?_
      refine lv_iload_n hx hb dX2_come_20 rfl (lv_at hl 2 rfl) ?_
      refine lv_imul hx hb dX2_come_21 ?_
      refine lv_topi (fun x_9 e_x_9 => ?_)
      have e_x_9 : x_9 = nI (64 * k) := by rw [e_x_9]; exact pk_mul _ _
      subst e_x_9
      refine lv_icmp_le (tgt := 45) hx hb dX2_come_22 (by decide) (fun c_22 => ?_) (fun c_22 => ?_)
      · skip
        replace c_22 : (64 * k + j) ≤ (64 * k) := (nI_leI (a := 64 * k + j) (b := 64 * k) (by omega) (by omega)).mp c_22
        have ej9 : j = 0 := by omega
        subst ej9
        replace hP : va_P (dC, dI) vwCl (cm q ca C (ap_sd f_1 (64 * k) (64 * k + (ap_leave L x k).length)) n_2 w d st tg hi mi go) H := hP
        replace hD : va_D A (cm q ca C (ap_sd f_1 (64 * k) (64 * k + (ap_leave L x k).length)) n_2 w d st tg hi mi go) := hD
        refine lv_aload_n hx hb dX2_come_45 rfl (lv_at hl 0 rfl) ?_
        refine va_get (D := (dC, dI)) (ci := 2) (v := .ref (q 1)) (C := RX2) (T := TX2) (N := 10) hx hb hts hwX2 hown hK hP 0 rfl rfl 1 (by decide) (hts (.fieldLink RX2 7 "ArcCacheModel" "lists" "[I") (by decide +kernel)) (fun _ h9 => h9) rfl dX2_come_46 ?_
        refine lv_bipush (v := nI 64) hx hb dX2_come_49 (by decide) ?_
        refine lv_iload_n hx hb dX2_come_51 rfl (lv_at hl 2 rfl) ?_
        refine lv_imul hx hb dX2_come_52 ?_
        refine lv_topi (fun x_10 e_x_10 => ?_)
        have e_x_10 : x_10 = nI (64 * k) := by rw [e_x_10]; exact pk_mul _ _
        subst e_x_10
        refine lv_iload_n hx hb dX2_come_53 rfl (lv_at hl 1 rfl) ?_
        refine va_iast hx hb hK hP hD hS 1 0 rfl rfl (vp_in_nI (show 64 * k < 320 by omega) (by decide)) dX2_come_54 (fun H locs hP hD hS => ?_)
        rw [nI_clamp (show 64 * k < 2 ^ 31 by omega)] at hP hD
        replace hP : va_P (dC, dI) vwCl (cm q ca C (upd (ap_sd f_1 (64 * k) (64 * k + (ap_leave L x k).length)) (64 * k) x) n_2 w d st tg hi mi go) H := hP
        replace hD : va_D A (cm q ca C (upd (ap_sd f_1 (64 * k) (64 * k + (ap_leave L x k).length)) (64 * k) x) n_2 w d st tg hi mi go) := hD
        refine lv_aload_n hx hb dX2_come_55 rfl (lv_at hl 0 rfl) ?_
        refine va_get (D := (dC, dI)) (ci := 2) (v := .ref (q 2)) (C := RX2) (T := TX2) (N := 10) hx hb hts hwX2 hown hK hP 0 rfl rfl 2 (by decide) (hts (.fieldLink RX2 13 "ArcCacheModel" "many" "[I") (by decide +kernel)) (fun _ h9 => h9) rfl dX2_come_56 ?_
        refine lv_iload_n hx hb dX2_come_59 rfl (lv_at hl 2 rfl) ?_
        refine lv_dup2_11 hx hb dX2_come_60 rfl rfl ?_
        refine va_iald hx hb hK hP 2 1 rfl rfl (vp_in_nI (show k < 5 by omega) (by decide)) dX2_come_61 ?_
        refine lv_topi (fun x_12 e_x_12 => ?_)
        have e_x_12 : x_12 = n_2 k := by rw [e_x_12]; rw [nI_clamp (by omega)]
        subst e_x_12
        refine lv_topi (fun x_13 e_x_13 => ?_)
        have e_x_13 : x_13 = nI (((ap_leave L x) k).length) := by rw [e_x_13]; exact (hfm_3 k hka hkb).1
        subst e_x_13
        refine lv_iconst (v := nI 1) hx hb dX2_come_62 (by decide) ?_
        refine lv_iadd hx hb dX2_come_63 ?_
        refine lv_topi (fun x_14 e_x_14 => ?_)
        have e_x_14 : x_14 = nI ((((ap_leave L x) k).length) + 1) := by rw [e_x_14]; exact nI_add _ _
        subst e_x_14
        refine va_iast hx hb hK hP hD hS 2 1 rfl rfl (vp_in_nI (show k < 5 by omega) (by decide)) dX2_come_64 (fun H locs hP hD hS => ?_)
        rw [nI_clamp (show k < 2 ^ 31 by omega)] at hP hD
        replace hP : va_P (dC, dI) vwCl (cm q ca C (upd (ap_sd f_1 (64 * k) (64 * k + (ap_leave L x k).length)) (64 * k) x) (upd n_2 k (nI ((((ap_leave L x) k).length) + 1))) w d st tg hi mi go) H := hP
        replace hD : va_D A (cm q ca C (upd (ap_sd f_1 (64 * k) (64 * k + (ap_leave L x k).length)) (64 * k) x) (upd n_2 k (nI ((((ap_leave L x) k).length) + 1))) w d st tg hi mi go) := hD
        exact W.vret hx hb hr (fun t ht hW => ⟨⟨(va_up (ap_leave L x) k (x :: ap_leave L x k), w, d, st, tg, hi, mi, go), rfl, rfl, upd (ap_sd f_1 (64 * k) (64 * k + (ap_leave L x k).length)) (64 * k) x, upd n_2 k (nI ((((ap_leave L x) k).length) + 1)), hfm9, by rw [ht]; exact hP, va_K.moved hW.alike hK, hD⟩, hS.F ht⟩) hS.2.2 dX2_come_65
      · skip
        replace c_22 : ¬ ((64 * k + j) ≤ (64 * k)) := fun h9 => c_22 ((nI_leI (a := 64 * k + j) (b := 64 * k) (by omega) (by omega)).mpr h9)
        refine lv_aload_n hx hb dX2_come_25 rfl (lv_at hl 0 rfl) ?_
        refine va_get (D := (dC, dI)) (ci := 2) (v := .ref (q 1)) (C := RX2) (T := TX2) (N := 10) hx hb hts hwX2 hown hK hP 0 rfl rfl 1 (by decide) (hts (.fieldLink RX2 7 "ArcCacheModel" "lists" "[I") (by decide +kernel)) (fun _ h9 => h9) rfl dX2_come_26 ?_
        refine lv_iload_n hx hb dX2_come_29 rfl (lv_at hl 3 rfl) ?_
        refine lv_aload_n hx hb dX2_come_30 rfl (lv_at hl 0 rfl) ?_
        refine va_get (D := (dC, dI)) (ci := 2) (v := .ref (q 1)) (C := RX2) (T := TX2) (N := 10) hx hb hts hwX2 hown hK hP 0 rfl rfl 1 (by decide) (hts (.fieldLink RX2 7 "ArcCacheModel" "lists" "[I") (by decide +kernel)) (fun _ h9 => h9) rfl dX2_come_31 ?_
        refine lv_iload_n hx hb dX2_come_34 rfl (lv_at hl 3 rfl) ?_
        refine lv_iconst (v := nI 1) hx hb dX2_come_35 (by decide) ?_
        refine lv_isub hx hb dX2_come_36 ?_
        refine lv_topi (fun x_15 e_x_15 => ?_)
        have e_x_15 : x_15 = nI ((64 * k + j) - 1) := by rw [e_x_15]; exact pk_sub (by omega)
        subst e_x_15
        refine va_iald hx hb hK hP 1 0 rfl rfl (vp_in_nI (show (64 * k + j) - 1 < 320 by omega) (by decide)) dX2_come_37 ?_
        refine lv_topi (fun x_17 e_x_17 => ?_)
        have e_x_17 : x_17 = (ap_sd f_1 (64 * k + j) (64 * k + (ap_leave L x k).length)) ((64 * k + j) - 1) := by rw [e_x_17]; rw [nI_clamp (by omega)]
        subst e_x_17
        refine va_iast hx hb hK hP hD hS 1 0 rfl rfl (vp_in_nI (show 64 * k + j < 320 by omega) (by decide)) dX2_come_38 (fun H locs hP hD hS => ?_)
        rw [nI_clamp (show 64 * k + j < 2 ^ 31 by omega)] at hP hD
        replace hP : va_P (dC, dI) vwCl (cm q ca C (upd (ap_sd f_1 (64 * k + j) (64 * k + (ap_leave L x k).length)) (64 * k + j) ((ap_sd f_1 (64 * k + j) (64 * k + (ap_leave L x k).length)) ((64 * k + j) - 1))) n_2 w d st tg hi mi go) H := hP
        replace hD : va_D A (cm q ca C (upd (ap_sd f_1 (64 * k + j) (64 * k + (ap_leave L x k).length)) (64 * k + j) ((ap_sd f_1 (64 * k + j) (64 * k + (ap_leave L x k).length)) ((64 * k + j) - 1))) n_2 w d st tg hi mi go) := hD
        refine lv_iinc (v := nI (64 * k + j - 1)) (lv' := [(3, .int (nI (64 * k + j - 1))), (0, .ref (q 0)), (1, .int x), (2, .int (nI k))]) hx hb dX2_come_39 hl (k := 3) rfl (sb_m1 (by omega)) (by decide) rfl (fun ls hl => ?_)
        refine lv_goto (tgt := 17) hx hb dX2_come_42 (by decide) ?_
        have ej9 : 64 * k + j - 1 = 64 * k + (j - 1) := by omega
        have esd9 := ap_sd_s (f := f_1) (i := 64 * k + j) (hi := 64 * k + (ap_leave L x k).length) (by omega) (by omega)
        rw [ej9] at esd9 hP hD
        replace hP : va_P (dC, dI) vwCl (cm q ca C (ap_sd f_1 (64 * k + (j - 1)) (64 * k + (ap_leave L x k).length)) n_2 w d st tg hi mi go) H := by rw [← esd9]; exact hP
        replace hD : va_D A (cm q ca C (ap_sd f_1 (64 * k + (j - 1)) (64 * k + (ap_leave L x k).length)) n_2 w d st tg hi mi go) := by rw [← esd9]; exact hD
        replace hl : lv_has ls 4 [(3, .int (nI (64 * k + (j - 1)))), (0, .ref (q 0)), (1, .int x), (2, .int (nI k))] := by rw [← ej9]; exact hl
        exact ih (j - 1) _ _ _ (by omega) (lv_sub hl [1, 2, 3, 0] rfl) hP hD hS (by omega)
  exact loopc ((ap_leave L x k).length + 1) ((ap_leave L x k).length) ls H _ (Nat.le_refl _) (lv_sub hl [1, 2, 3, 0] rfl) hP hD hS (by omega)
end
