section
-- ===== PART A: goes FIRST, ahead of the names: the tables' words, and 'selects' of the private methods out of them =====
/-- a private method of a class that the tables say can be made, by its rows of tables_1 -/
def lw_okq (q : MethodName × Nat) : Prop := (q.1.cls ≠ "java/lang/invoke/MethodHandle" ∧ q.1.cls ≠ "java/lang/invoke/VarHandle") ∧ Cond.instantiable q.1.cls q.2 ∈ tables_1 ∧ Cond.privateMethod q.1 ∈ tables_1 ∧ Cond.instanceMethod q.1 ∈ tables_1
theorem lw_p0 : lw_okq (⟨"MemoryBank", "hasRoom", "(I)Z"⟩, 3) := ⟨⟨by decide +kernel, by decide +kernel⟩, List.mem_of_getElem? (i := 5) (by decide +kernel), List.mem_of_getElem? (i := 28) (by decide +kernel), List.mem_of_getElem? (i := 29) (by decide +kernel)⟩
theorem lw_p1 : lw_okq (⟨"MemoryBank", "append", "(I)V"⟩, 3) := ⟨⟨by decide +kernel, by decide +kernel⟩, List.mem_of_getElem? (i := 5) (by decide +kernel), List.mem_of_getElem? (i := 32) (by decide +kernel), List.mem_of_getElem? (i := 33) (by decide +kernel)⟩
def lw_privs_1 : List (MethodName × Nat) := [(⟨"MemoryBank", "hasRoom", "(I)Z"⟩, 3), (⟨"MemoryBank", "append", "(I)V"⟩, 3)]
theorem lw_r1 : ∀ q ∈ lw_privs_1, lw_okq q := List.forall_mem_cons.mpr ⟨lw_p0, List.forall_mem_cons.mpr ⟨lw_p1, fun _ h => absurd h List.not_mem_nil⟩⟩
def lw_privs : List (MethodName × Nat) := lw_privs_1
def lw_tbl : List Cond := k2_sels lw_privs ++ tables_1
theorem lw_privs_ok : ∀ q ∈ lw_privs, lw_okq q := lw_r1
-- ===== end of PART A; then your names; then what follows =====
/-! ===== BEGIN words of one list among another's, by their places ===== -/
theorem goodIn_r {big : List Cond} (ws : List Cond) (ps : List Nat) (hp : ws = ps.filterMap (fun i => big[i]?)) (h : ws.all goodWord = true) : GoodIn big ws := by
  intro w hw
  have h1 := List.all_eq_true.mp h w hw
  rw [hp] at hw
  obtain ⟨i, -, hi⟩ := List.mem_filterMap.mp hw
  have hm : w ∈ big := by first | exact List.mem_of_getElem? hi | exact List.getElem?_mem hi
  exact ⟨hm, good_of_word h1⟩
theorem goodIn_app {big a b : List Cond} (ha : GoodIn big a) (hb : GoodIn big b) : GoodIn big (a ++ b) := fun w h => (List.mem_append.mp h).elim (ha w) (hb w)
theorem goodIn_ca {big a b : List Cond} {c : Cond} (ha : GoodIn big (c :: a)) (hb : GoodIn big b) : GoodIn big (c :: (a ++ b)) := fun w h => (List.mem_cons.mp h).elim (fun e => ha w (List.mem_cons.mpr (Or.inl e))) (fun h => (List.mem_append.mp h).elim (fun h => ha w (List.mem_cons.mpr (Or.inr h))) (hb w))
theorem goodIn_sub {big ws : List Cond} (hm : ∀ w ∈ ws, w ∈ big) (h : ws.all goodWord = true) : GoodIn big ws := fun w hw => ⟨hm w hw, good_of_word (List.all_eq_true.mp h w hw)⟩
/-! ===== END ===== -/

/-! ===== BEGIN printed: names, fields, word lists, decode rows ===== -/
def RX0 : String := "MemoryBank"
def TX0 : u_T := fun k => match k with
  | 0 => ("MemoryBank", "memory", "[I", true)
  | 1 => ("MemoryBank", "row", "[I", true)
  | _ => ("MemoryBank", "rowSize", "I", false)
def tyX0 : Nat → FieldType := fun k => match k with
  | 0 => .array .int
  | 1 => .array .int
  | _ => .int
abbrev wsX00 : List Cond := u_ws RX0 TX0 3
theorem nmX0 : ∀ a, a < 3 → ∀ b, b < 3 → a ≠ b → (TX0 a).2.1 ≠ (TX0 b).2.1 := by decide +kernel
theorem tyX0_ok : ∀ k, k < 3 → parseFieldDescriptor (TX0 k).2.2.1 = some (tyX0 k) := by decide +kernel
abbrev cX0_init : ByteArray := prog_1_method_1_code
def yX0_init : MethodName := ⟨RX0, "<init>", "()V"⟩
abbrev cX0_put : ByteArray := prog_1_method_2_code
def yX0_put : MethodName := ⟨RX0, "put", "(I)I"⟩
abbrev cX0_cut : ByteArray := prog_1_method_3_code
def yX0_cut : MethodName := ⟨RX0, "cut", "(I)Z"⟩
abbrev cX0_size : ByteArray := prog_1_method_4_code
def yX0_size : MethodName := ⟨RX0, "size", "()I"⟩
abbrev cX0_rowAt : ByteArray := prog_1_method_5_code
def yX0_rowAt : MethodName := ⟨RX0, "rowAt", "(I)I"⟩
abbrev cX0_load : ByteArray := prog_1_method_6_code
def yX0_load : MethodName := ⟨RX0, "load", "(III)Z"⟩
abbrev cX0_dump : ByteArray := prog_1_method_7_code
def yX0_dump : MethodName := ⟨RX0, "dump", "(II)Z"⟩
abbrev cX0_check : ByteArray := prog_1_method_8_code
def yX0_check : MethodName := ⟨RX0, "check", "(II)I"⟩
abbrev cX0_rowCheck : ByteArray := prog_1_method_9_code
def yX0_rowCheck : MethodName := ⟨RX0, "rowCheck", "(I)I"⟩
abbrev cX0_seal : ByteArray := prog_1_method_10_code
def yX0_seal : MethodName := ⟨RX0, "seal", "()Z"⟩
abbrev cX0_at : ByteArray := prog_1_method_11_code
def yX0_at : MethodName := ⟨RX0, "at", "(I)I"⟩
abbrev cX0_isPart : ByteArray := prog_1_method_12_code
def yX0_isPart : MethodName := ⟨RX0, "isPart", "(III)Z"⟩
abbrev cX0_hasRoom : ByteArray := prog_1_method_13_code
def yX0_hasRoom : MethodName := ⟨RX0, "hasRoom", "(I)Z"⟩
abbrev cX0_append : ByteArray := prog_1_method_14_code
def yX0_append : MethodName := ⟨RX0, "append", "(I)V"⟩
abbrev cX0_checkOf : ByteArray := prog_1_method_15_code
def yX0_checkOf : MethodName := ⟨RX0, "checkOf", "([III)I"⟩
abbrev cX0_checkWith : ByteArray := prog_1_method_16_code
def yX0_checkWith : MethodName := ⟨RX0, "checkWith", "(II)I"⟩
def RX1 : String := "MemoryBankModel"
def TX1 : u_T := fun k => match k with
  | 0 => ("MemoryBankModel", "thrown", "I", false)
  | 1 => ("MemoryBankModel", "memory", "[B", true)
  | 2 => ("MemoryBankModel", "row", "[B", true)
  | _ => ("MemoryBankModel", "size", "I", false)
def tyX1 : Nat → FieldType := fun k => match k with
  | 0 => .int
  | 1 => .array .byte
  | 2 => .array .byte
  | _ => .int
abbrev wsX10 : List Cond := u_ws RX1 TX1 4
theorem nmX1 : ∀ a, a < 4 → ∀ b, b < 4 → a ≠ b → (TX1 a).2.1 ≠ (TX1 b).2.1 := by decide +kernel
theorem tyX1_ok : ∀ k, k < 4 → parseFieldDescriptor (TX1 k).2.2.1 = some (tyX1 k) := by decide +kernel
abbrev cX1_init : ByteArray := prog_3_method_1_code
def yX1_init : MethodName := ⟨RX1, "<init>", "()V"⟩
abbrev cX1_checkOf : ByteArray := prog_3_method_3_code
def yX1_checkOf : MethodName := ⟨RX1, "checkOf", "([BII)I"⟩
abbrev cX1_in : ByteArray := prog_3_method_4_code
def yX1_in : MethodName := ⟨RX1, "in", "(III)Z"⟩
abbrev cX1_put : ByteArray := prog_3_method_5_code
def yX1_put : MethodName := ⟨RX1, "put", "(I)I"⟩
abbrev cX1_cut : ByteArray := prog_3_method_6_code
def yX1_cut : MethodName := ⟨RX1, "cut", "(I)Z"⟩
abbrev cX1_size : ByteArray := prog_3_method_7_code
def yX1_size : MethodName := ⟨RX1, "size", "()I"⟩
abbrev cX1_rowAt : ByteArray := prog_3_method_8_code
def yX1_rowAt : MethodName := ⟨RX1, "rowAt", "(I)I"⟩
abbrev cX1_load : ByteArray := prog_3_method_9_code
def yX1_load : MethodName := ⟨RX1, "load", "(III)Z"⟩
abbrev cX1_dump : ByteArray := prog_3_method_10_code
def yX1_dump : MethodName := ⟨RX1, "dump", "(II)Z"⟩
abbrev cX1_check : ByteArray := prog_3_method_11_code
def yX1_check : MethodName := ⟨RX1, "check", "(II)I"⟩
abbrev cX1_rowCheck : ByteArray := prog_3_method_12_code
def yX1_rowCheck : MethodName := ⟨RX1, "rowCheck", "(I)I"⟩
abbrev cX1_seal : ByteArray := prog_3_method_13_code
def yX1_seal : MethodName := ⟨RX1, "seal", "()Z"⟩
abbrev cX1_at : ByteArray := prog_3_method_14_code
def yX1_at : MethodName := ⟨RX1, "at", "(I)I"⟩
def RJ10 : String := "java/lang/System"
def TJ10 : u_T := fun k => match k with
  | _ => ("", "", "", false)
def tyJ10 : Nat → FieldType := fun k => match k with
  | _ => .int
abbrev wsJ100 : List Cond := u_ws RJ10 TJ10 0
theorem nmJ10 : ∀ a, a < 0 → ∀ b, b < 0 → a ≠ b → (TJ10 a).2.1 ≠ (TJ10 b).2.1 := by decide +kernel
theorem tyJ10_ok : ∀ k, k < 0 → parseFieldDescriptor (TJ10 k).2.2.1 = some (tyJ10 k) := by decide +kernel
def RL : String := "MemoryBankLaw"
abbrev cL_law : ByteArray := code
def yL_law : MethodName := ⟨RL, "law", "([I)Z"⟩
def wsX0_init : List Cond := .code yX0_init cX0_init 1 none :: ([.methodLink RX0 1 objectInit, .instanceMethod objectInit, .code objectInit ⟨#[0xb1]⟩ 1 none, .arrayClass .int, .fieldLink RX0 9 "MemoryBank" "memory" "[I", .fieldLink RX0 13 "MemoryBank" "row" "[I", .fieldLink RX0 16 "MemoryBank" "rowSize" "I"] ++ wsX00)
def wsX0_hasRoom : List Cond := .code yX0_hasRoom cX0_hasRoom 2 (some .boolean) :: ([.fieldLink RX0 16 "MemoryBank" "rowSize" "I"] ++ wsX00)
def wsX0_append : List Cond := .code yX0_append cX0_append 2 none :: ([.fieldLink RX0 13 "MemoryBank" "row" "[I", .fieldLink RX0 16 "MemoryBank" "rowSize" "I"] ++ wsX00)
def wsX0_put : List Cond := .code yX0_put cX0_put 2 (some .int) :: ([.fieldLink RX0 16 "MemoryBank" "rowSize" "I", .methodLink RX0 20 yX0_hasRoom, .instanceMethod yX0_hasRoom, .selects RX0 yX0_hasRoom yX0_hasRoom, .initialized RX0, .code yX0_hasRoom cX0_hasRoom 2 (some .boolean), .methodLink RX0 24 yX0_append, .instanceMethod yX0_append, .selects RX0 yX0_append yX0_append, .code yX0_append cX0_append 2 none, .fieldLink RX0 13 "MemoryBank" "row" "[I"] ++ wsX00)
def wsX0_isPart : List Cond := .code yX0_isPart cX0_isPart 3 (some .boolean) :: ([])
def wsX0_cut : List Cond := .code yX0_cut cX0_cut 2 (some .boolean) :: ([.fieldLink RX0 16 "MemoryBank" "rowSize" "I", .methodLink RX0 28 yX0_isPart, .static yX0_isPart, .initialized RX0, .code yX0_isPart cX0_isPart 3 (some .boolean)] ++ wsX00)
def wsX0_size : List Cond := .code yX0_size cX0_size 1 (some .int) :: ([.fieldLink RX0 16 "MemoryBank" "rowSize" "I"] ++ wsX00)
def wsX0_rowAt : List Cond := .code yX0_rowAt cX0_rowAt 2 (some .int) :: ([.fieldLink RX0 16 "MemoryBank" "rowSize" "I", .fieldLink RX0 13 "MemoryBank" "row" "[I", .methodLink RX0 28 yX0_isPart, .static yX0_isPart, .initialized RX0, .code yX0_isPart cX0_isPart 3 (some .boolean)] ++ wsX00)
def wsX0_load : List Cond := .code yX0_load cX0_load 4 (some .boolean) :: ([.fieldLink RX0 16 "MemoryBank" "rowSize" "I", .fieldLink RX0 13 "MemoryBank" "row" "[I", .fieldLink RX0 9 "MemoryBank" "memory" "[I", .methodLink RX0 32 arraycopyName, .native arraycopyName, .static arraycopyName, .initialized "java/lang/System", .methodLink RX0 28 yX0_isPart, .static yX0_isPart, .initialized RX0, .code yX0_isPart cX0_isPart 3 (some .boolean)] ++ wsX00)
def wsX0_dump : List Cond := .code yX0_dump cX0_dump 3 (some .boolean) :: ([.fieldLink RX0 9 "MemoryBank" "memory" "[I", .fieldLink RX0 13 "MemoryBank" "row" "[I", .fieldLink RX0 16 "MemoryBank" "rowSize" "I", .methodLink RX0 32 arraycopyName, .native arraycopyName, .static arraycopyName, .initialized "java/lang/System", .methodLink RX0 28 yX0_isPart, .static yX0_isPart, .initialized RX0, .code yX0_isPart cX0_isPart 3 (some .boolean), .methodLink RX0 20 yX0_hasRoom, .instanceMethod yX0_hasRoom, .selects RX0 yX0_hasRoom yX0_hasRoom, .code yX0_hasRoom cX0_hasRoom 2 (some .boolean)] ++ wsX00)
def wsX0_checkWith : List Cond := .code yX0_checkWith cX0_checkWith 4 (some .int) :: ([.constant RX0 47 (65536), .constant RX0 48 (69665)])
def wsX0_checkOf : List Cond := .code yX0_checkOf cX0_checkOf 5 (some .int) :: ([.constant RX0 42 (65535), .methodLink RX0 43 yX0_checkWith, .static yX0_checkWith, .initialized RX0, .code yX0_checkWith cX0_checkWith 4 (some .int), .constant RX0 47 (65536), .constant RX0 48 (69665)])
def wsX0_check : List Cond := .code yX0_check cX0_check 3 (some .int) :: ([.fieldLink RX0 9 "MemoryBank" "memory" "[I", .methodLink RX0 28 yX0_isPart, .static yX0_isPart, .initialized RX0, .code yX0_isPart cX0_isPart 3 (some .boolean), .methodLink RX0 38 yX0_checkOf, .static yX0_checkOf, .code yX0_checkOf cX0_checkOf 5 (some .int), .constant RX0 42 (65535), .methodLink RX0 43 yX0_checkWith, .static yX0_checkWith, .code yX0_checkWith cX0_checkWith 4 (some .int), .constant RX0 47 (65536), .constant RX0 48 (69665)] ++ wsX00)
def wsX0_rowCheck : List Cond := .code yX0_rowCheck cX0_rowCheck 2 (some .int) :: ([.fieldLink RX0 16 "MemoryBank" "rowSize" "I", .fieldLink RX0 13 "MemoryBank" "row" "[I", .methodLink RX0 28 yX0_isPart, .static yX0_isPart, .initialized RX0, .code yX0_isPart cX0_isPart 3 (some .boolean), .methodLink RX0 38 yX0_checkOf, .static yX0_checkOf, .code yX0_checkOf cX0_checkOf 5 (some .int), .constant RX0 42 (65535), .methodLink RX0 43 yX0_checkWith, .static yX0_checkWith, .code yX0_checkWith cX0_checkWith 4 (some .int), .constant RX0 47 (65536), .constant RX0 48 (69665)] ++ wsX00)
def wsX0_seal : List Cond := .code yX0_seal cX0_seal 2 (some .boolean) :: ([.fieldLink RX0 13 "MemoryBank" "row" "[I", .fieldLink RX0 16 "MemoryBank" "rowSize" "I", .methodLink RX0 20 yX0_hasRoom, .instanceMethod yX0_hasRoom, .selects RX0 yX0_hasRoom yX0_hasRoom, .initialized RX0, .code yX0_hasRoom cX0_hasRoom 2 (some .boolean), .methodLink RX0 38 yX0_checkOf, .static yX0_checkOf, .code yX0_checkOf cX0_checkOf 5 (some .int), .constant RX0 42 (65535), .methodLink RX0 43 yX0_checkWith, .static yX0_checkWith, .code yX0_checkWith cX0_checkWith 4 (some .int), .constant RX0 47 (65536), .constant RX0 48 (69665), .methodLink RX0 24 yX0_append, .instanceMethod yX0_append, .selects RX0 yX0_append yX0_append, .code yX0_append cX0_append 2 none] ++ wsX00)
def wsX0_at : List Cond := .code yX0_at cX0_at 2 (some .int) :: ([.fieldLink RX0 9 "MemoryBank" "memory" "[I", .methodLink RX0 28 yX0_isPart, .static yX0_isPart, .initialized RX0, .code yX0_isPart cX0_isPart 3 (some .boolean)] ++ wsX00)
def wsX1_init : List Cond := .code yX1_init cX1_init 1 none :: ([.methodLink RX1 1 objectInit, .instanceMethod objectInit, .code objectInit ⟨#[0xb1]⟩ 1 none, .arrayClass .byte, .fieldLink RX1 7 "MemoryBankModel" "memory" "[B", .fieldLink RX1 13 "MemoryBankModel" "row" "[B"] ++ wsX10)
def wsX1_checkOf : List Cond := .code yX1_checkOf cX1_checkOf 7 (some .int) :: ([.constant RX1 20 (65535)])
def wsX1_in : List Cond := .code yX1_in cX1_in 3 (some .boolean) :: ([])
def wsX1_put : List Cond := .code yX1_put cX1_put 2 (some .int) :: ([.fieldLink RX1 16 "MemoryBankModel" "thrown" "I", .fieldLink RX1 21 "MemoryBankModel" "size" "I", .fieldLink RX1 13 "MemoryBankModel" "row" "[B"] ++ wsX10)
def wsX1_cut : List Cond := .code yX1_cut cX1_cut 2 (some .boolean) :: ([.fieldLink RX1 16 "MemoryBankModel" "thrown" "I", .fieldLink RX1 21 "MemoryBankModel" "size" "I"] ++ wsX10)
def wsX1_size : List Cond := .code yX1_size cX1_size 1 (some .int) :: ([.fieldLink RX1 16 "MemoryBankModel" "thrown" "I", .fieldLink RX1 21 "MemoryBankModel" "size" "I"] ++ wsX10)
def wsX1_rowAt : List Cond := .code yX1_rowAt cX1_rowAt 2 (some .int) :: ([.fieldLink RX1 16 "MemoryBankModel" "thrown" "I", .fieldLink RX1 21 "MemoryBankModel" "size" "I", .fieldLink RX1 13 "MemoryBankModel" "row" "[B"] ++ wsX10)
def wsX1_load : List Cond := .code yX1_load cX1_load 5 (some .boolean) :: ([.fieldLink RX1 16 "MemoryBankModel" "thrown" "I", .fieldLink RX1 21 "MemoryBankModel" "size" "I", .fieldLink RX1 7 "MemoryBankModel" "memory" "[B", .fieldLink RX1 13 "MemoryBankModel" "row" "[B", .methodLink RX1 24 yX1_in, .static yX1_in, .initialized RX1, .code yX1_in cX1_in 3 (some .boolean)] ++ wsX10)
def wsX1_dump : List Cond := .code yX1_dump cX1_dump 4 (some .boolean) :: ([.fieldLink RX1 16 "MemoryBankModel" "thrown" "I", .fieldLink RX1 21 "MemoryBankModel" "size" "I", .fieldLink RX1 13 "MemoryBankModel" "row" "[B", .fieldLink RX1 7 "MemoryBankModel" "memory" "[B", .methodLink RX1 24 yX1_in, .static yX1_in, .initialized RX1, .code yX1_in cX1_in 3 (some .boolean)] ++ wsX10)
def wsX1_check : List Cond := .code yX1_check cX1_check 3 (some .int) :: ([.fieldLink RX1 16 "MemoryBankModel" "thrown" "I", .fieldLink RX1 7 "MemoryBankModel" "memory" "[B", .methodLink RX1 24 yX1_in, .static yX1_in, .initialized RX1, .code yX1_in cX1_in 3 (some .boolean), .methodLink RX1 28 yX1_checkOf, .static yX1_checkOf, .code yX1_checkOf cX1_checkOf 7 (some .int), .constant RX1 20 (65535)] ++ wsX10)
def wsX1_rowCheck : List Cond := .code yX1_rowCheck cX1_rowCheck 2 (some .int) :: ([.fieldLink RX1 16 "MemoryBankModel" "thrown" "I", .fieldLink RX1 21 "MemoryBankModel" "size" "I", .fieldLink RX1 13 "MemoryBankModel" "row" "[B", .methodLink RX1 24 yX1_in, .static yX1_in, .initialized RX1, .code yX1_in cX1_in 3 (some .boolean), .methodLink RX1 28 yX1_checkOf, .static yX1_checkOf, .code yX1_checkOf cX1_checkOf 7 (some .int), .constant RX1 20 (65535)] ++ wsX10)
def wsX1_seal : List Cond := .code yX1_seal cX1_seal 2 (some .boolean) :: ([.fieldLink RX1 16 "MemoryBankModel" "thrown" "I", .fieldLink RX1 21 "MemoryBankModel" "size" "I", .fieldLink RX1 13 "MemoryBankModel" "row" "[B", .methodLink RX1 28 yX1_checkOf, .static yX1_checkOf, .initialized RX1, .code yX1_checkOf cX1_checkOf 7 (some .int), .constant RX1 20 (65535)] ++ wsX10)
def wsX1_at : List Cond := .code yX1_at cX1_at 2 (some .int) :: ([.fieldLink RX1 16 "MemoryBankModel" "thrown" "I", .fieldLink RX1 7 "MemoryBankModel" "memory" "[B"] ++ wsX10)
def wsL_law_r1 : List Cond := [Cond.classLink RL 7 RX0, Cond.instantiable RX0 3, Cond.initialized RX0, Cond.classLink RL 10 RX1, Cond.instantiable RX1 4, Cond.initialized RX1, Cond.methodLink RL 9 yX0_init, Cond.instanceMethod yX0_init, Cond.code yX0_init cX0_init 1 none, Cond.methodLink RX0 1 objectInit, Cond.instanceMethod objectInit, Cond.code objectInit ⟨#[0xb1]⟩ 1 none, Cond.arrayClass .int, Cond.fieldLink RX0 9 "MemoryBank" "memory" "[I", Cond.fieldLink RX0 13 "MemoryBank" "row" "[I", Cond.fieldLink RX0 16 "MemoryBank" "rowSize" "I", Cond.methodLink RL 12 yX1_init, Cond.instanceMethod yX1_init, Cond.code yX1_init cX1_init 1 none, Cond.methodLink RX1 1 objectInit, Cond.arrayClass .byte, Cond.fieldLink RX1 7 "MemoryBankModel" "memory" "[B", Cond.fieldLink RX1 13 "MemoryBankModel" "row" "[B", Cond.methodLink RL 13 yX0_put]
def wsL_law_r2 : List Cond := [Cond.instanceMethod yX0_put, Cond.selects RX0 yX0_put yX0_put, Cond.code yX0_put cX0_put 2 (some .int), Cond.methodLink RX0 20 yX0_hasRoom, Cond.instanceMethod yX0_hasRoom, Cond.selects RX0 yX0_hasRoom yX0_hasRoom, Cond.code yX0_hasRoom cX0_hasRoom 2 (some .boolean), Cond.methodLink RX0 24 yX0_append, Cond.instanceMethod yX0_append, Cond.selects RX0 yX0_append yX0_append, Cond.code yX0_append cX0_append 2 none, Cond.methodLink RL 17 yX1_put, Cond.instanceMethod yX1_put, Cond.selects RX1 yX1_put yX1_put, Cond.code yX1_put cX1_put 2 (some .int), Cond.fieldLink RX1 16 "MemoryBankModel" "thrown" "I", Cond.fieldLink RX1 21 "MemoryBankModel" "size" "I", Cond.methodLink RL 18 yX0_cut, Cond.instanceMethod yX0_cut, Cond.selects RX0 yX0_cut yX0_cut, Cond.code yX0_cut cX0_cut 2 (some .boolean), Cond.methodLink RX0 28 yX0_isPart, Cond.static yX0_isPart, Cond.code yX0_isPart cX0_isPart 3 (some .boolean)]
def wsL_law_r3 : List Cond := [Cond.methodLink RL 22 yX1_cut, Cond.instanceMethod yX1_cut, Cond.selects RX1 yX1_cut yX1_cut, Cond.code yX1_cut cX1_cut 2 (some .boolean), Cond.methodLink RL 23 yX0_size, Cond.instanceMethod yX0_size, Cond.selects RX0 yX0_size yX0_size, Cond.code yX0_size cX0_size 1 (some .int), Cond.methodLink RL 27 yX1_size, Cond.instanceMethod yX1_size, Cond.selects RX1 yX1_size yX1_size, Cond.code yX1_size cX1_size 1 (some .int), Cond.methodLink RL 28 yX0_rowAt, Cond.instanceMethod yX0_rowAt, Cond.selects RX0 yX0_rowAt yX0_rowAt, Cond.code yX0_rowAt cX0_rowAt 2 (some .int), Cond.methodLink RL 31 yX1_rowAt, Cond.instanceMethod yX1_rowAt, Cond.selects RX1 yX1_rowAt yX1_rowAt, Cond.code yX1_rowAt cX1_rowAt 2 (some .int), Cond.methodLink RL 32 yX0_load, Cond.instanceMethod yX0_load, Cond.selects RX0 yX0_load yX0_load, Cond.code yX0_load cX0_load 4 (some .boolean)]
def wsL_law_r4 : List Cond := [Cond.methodLink RX0 32 arraycopyName, Cond.native arraycopyName, Cond.static arraycopyName, Cond.initialized "java/lang/System", Cond.methodLink RL 36 yX1_load, Cond.instanceMethod yX1_load, Cond.selects RX1 yX1_load yX1_load, Cond.code yX1_load cX1_load 5 (some .boolean), Cond.methodLink RX1 24 yX1_in, Cond.static yX1_in, Cond.code yX1_in cX1_in 3 (some .boolean), Cond.methodLink RL 37 yX0_dump, Cond.instanceMethod yX0_dump, Cond.selects RX0 yX0_dump yX0_dump, Cond.code yX0_dump cX0_dump 3 (some .boolean), Cond.methodLink RL 41 yX1_dump, Cond.instanceMethod yX1_dump, Cond.selects RX1 yX1_dump yX1_dump, Cond.code yX1_dump cX1_dump 4 (some .boolean), Cond.methodLink RL 42 yX0_check, Cond.instanceMethod yX0_check, Cond.selects RX0 yX0_check yX0_check, Cond.code yX0_check cX0_check 3 (some .int), Cond.methodLink RX0 38 yX0_checkOf]
def wsL_law_r5 : List Cond := [Cond.static yX0_checkOf, Cond.code yX0_checkOf cX0_checkOf 5 (some .int), Cond.constant RX0 42 (65535), Cond.methodLink RX0 43 yX0_checkWith, Cond.static yX0_checkWith, Cond.code yX0_checkWith cX0_checkWith 4 (some .int), Cond.constant RX0 47 (65536), Cond.constant RX0 48 (69665), Cond.methodLink RL 46 yX1_check, Cond.instanceMethod yX1_check, Cond.selects RX1 yX1_check yX1_check, Cond.code yX1_check cX1_check 3 (some .int), Cond.methodLink RX1 28 yX1_checkOf, Cond.static yX1_checkOf, Cond.code yX1_checkOf cX1_checkOf 7 (some .int), Cond.constant RX1 20 (65535), Cond.methodLink RL 47 yX0_rowCheck, Cond.instanceMethod yX0_rowCheck, Cond.selects RX0 yX0_rowCheck yX0_rowCheck, Cond.code yX0_rowCheck cX0_rowCheck 2 (some .int), Cond.methodLink RL 50 yX1_rowCheck, Cond.instanceMethod yX1_rowCheck, Cond.selects RX1 yX1_rowCheck yX1_rowCheck, Cond.code yX1_rowCheck cX1_rowCheck 2 (some .int)]
def wsL_law_r6 : List Cond := [Cond.methodLink RL 51 yX0_seal, Cond.instanceMethod yX0_seal, Cond.selects RX0 yX0_seal yX0_seal, Cond.code yX0_seal cX0_seal 2 (some .boolean), Cond.methodLink RL 55 yX1_seal, Cond.instanceMethod yX1_seal, Cond.selects RX1 yX1_seal yX1_seal, Cond.code yX1_seal cX1_seal 2 (some .boolean), Cond.methodLink RL 56 yX0_at, Cond.instanceMethod yX0_at, Cond.selects RX0 yX0_at yX0_at, Cond.code yX0_at cX0_at 2 (some .int), Cond.methodLink RL 59 yX1_at, Cond.instanceMethod yX1_at, Cond.selects RX1 yX1_at yX1_at, Cond.code yX1_at cX1_at 2 (some .int)]
def wsL_law : List Cond := (wsL_law_r1 ++ (wsL_law_r2 ++ (wsL_law_r3 ++ (wsL_law_r4 ++ (wsL_law_r5 ++ wsL_law_r6))))) ++ wsX00 ++ wsX10 ++ ([] : List Cond)
set_option maxRecDepth 20000 in
theorem wsL_law_in : ∀ w ∈ wsL_law, w ∈ lw_tbl := fun w h => (goodIn_p wsL_law [10, 13, 92, 28, 32, 36, 111, 40, 43, 115, 47, 119, 51, 123, 55, 127, 130, 62, 134, 66, 69, 73, 138, 141, 79, 146, 83, 150, 87, 154] (by decide +kernel) (by decide +kernel) w h).1
theorem inlX0 : ∀ w ∈ wsX00, w ∈ wsL_law := fun _ h => List.mem_append_left _ (List.mem_append_left _ (List.mem_append_right _ h))
theorem inX0 : ∀ w ∈ wsX00, w ∈ lw_tbl := fun w h => wsL_law_in w (inlX0 w h)
theorem inlX1 : ∀ w ∈ wsX10, w ∈ wsL_law := fun _ h => List.mem_append_left _ (List.mem_append_right _ h)
theorem inX1 : ∀ w ∈ wsX10, w ∈ lw_tbl := fun w h => wsL_law_in w (inlX1 w h)
theorem inJ10 : ∀ w ∈ wsJ100, w ∈ lw_tbl := by decide +kernel
theorem dX0_init_0 : decode cX0_init 0 = .ok (.aload_n 0, 1) := by decide +kernel
theorem dX0_init_1 : decode cX0_init 1 = .ok (.invokespecial 1, 3) := by decide +kernel
theorem dX0_init_4 : decode cX0_init 4 = .ok (.aload_n 0, 1) := by decide +kernel
theorem dX0_init_5 : decode cX0_init 5 = .ok (.sipush 4096, 3) := by decide +kernel
theorem dX0_init_8 : decode cX0_init 8 = .ok (.newarray .int, 2) := by decide +kernel
theorem dX0_init_10 : decode cX0_init 10 = .ok (.putfield 9, 3) := by decide +kernel
theorem dX0_init_13 : decode cX0_init 13 = .ok (.aload_n 0, 1) := by decide +kernel
theorem dX0_init_14 : decode cX0_init 14 = .ok (.sipush 512, 3) := by decide +kernel
theorem dX0_init_17 : decode cX0_init 17 = .ok (.newarray .int, 2) := by decide +kernel
theorem dX0_init_19 : decode cX0_init 19 = .ok (.putfield 13, 3) := by decide +kernel
theorem dX0_init_22 : decode cX0_init 22 = .ok (.aload_n 0, 1) := by decide +kernel
theorem dX0_init_23 : decode cX0_init 23 = .ok (.iconst 0, 1) := by decide +kernel
theorem dX0_init_24 : decode cX0_init 24 = .ok (.putfield 16, 3) := by decide +kernel
theorem dX0_init_27 : decode cX0_init 27 = .ok (.return_, 1) := by decide +kernel
set_option maxRecDepth 20000 in
theorem ggX0_put_X0_hasRoom : GoodIn wsX0_put wsX0_hasRoom := goodIn_r _ [6, 1, 12, 13, 14] (by decide +kernel) (by decide +kernel)
set_option maxRecDepth 20000 in
theorem gX0_put_X0_hasRoom : GoodIn wsX0_put (wsV RX0 20 RX0 yX0_hasRoom wsX0_hasRoom) := goodIn_app (goodIn_of _ (by decide +kernel)) ggX0_put_X0_hasRoom
set_option maxRecDepth 20000 in
theorem ggX0_put_X0_append : GoodIn wsX0_put wsX0_append := goodIn_r _ [10, 11, 1, 12, 13, 14] (by decide +kernel) (by decide +kernel)
set_option maxRecDepth 20000 in
theorem gX0_put_X0_append : GoodIn wsX0_put (wsV RX0 24 RX0 yX0_append wsX0_append) := goodIn_app (goodIn_of _ (by decide +kernel)) ggX0_put_X0_append
theorem dX0_put_0 : decode cX0_put 0 = .ok (.aload_n 0, 1) := by decide +kernel
theorem dX0_put_1 : decode cX0_put 1 = .ok (.iconst 1, 1) := by decide +kernel
theorem dX0_put_2 : decode cX0_put 2 = .ok (.invokevirtual 20, 3) := by decide +kernel
theorem dX0_put_5 : decode cX0_put 5 = .ok (.ifCond .ne 5, 3) := by decide +kernel
theorem dX0_put_8 : decode cX0_put 8 = .ok (.iconst (-1), 1) := by decide +kernel
theorem dX0_put_9 : decode cX0_put 9 = .ok (.ireturn, 1) := by decide +kernel
theorem dX0_put_10 : decode cX0_put 10 = .ok (.aload_n 0, 1) := by decide +kernel
theorem dX0_put_11 : decode cX0_put 11 = .ok (.iload_n 1, 1) := by decide +kernel
theorem dX0_put_12 : decode cX0_put 12 = .ok (.invokevirtual 24, 3) := by decide +kernel
theorem dX0_put_15 : decode cX0_put 15 = .ok (.aload_n 0, 1) := by decide +kernel
theorem dX0_put_16 : decode cX0_put 16 = .ok (.getfield 16, 3) := by decide +kernel
theorem dX0_put_19 : decode cX0_put 19 = .ok (.ireturn, 1) := by decide +kernel
set_option maxRecDepth 20000 in
theorem ggX0_cut_X0_isPart : GoodIn wsX0_cut wsX0_isPart := goodIn_r _ [5] (by decide +kernel) (by decide +kernel)
set_option maxRecDepth 20000 in
theorem gX0_cut_X0_isPart : GoodIn wsX0_cut (va_wsS RX0 28 yX0_isPart wsX0_isPart) := goodIn_app (goodIn_of _ (by decide +kernel)) ggX0_cut_X0_isPart
theorem dX0_cut_0 : decode cX0_cut 0 = .ok (.iconst 0, 1) := by decide +kernel
theorem dX0_cut_1 : decode cX0_cut 1 = .ok (.iload_n 1, 1) := by decide +kernel
theorem dX0_cut_2 : decode cX0_cut 2 = .ok (.aload_n 0, 1) := by decide +kernel
theorem dX0_cut_3 : decode cX0_cut 3 = .ok (.getfield 16, 3) := by decide +kernel
theorem dX0_cut_6 : decode cX0_cut 6 = .ok (.invokestatic 28, 3) := by decide +kernel
theorem dX0_cut_9 : decode cX0_cut 9 = .ok (.ifCond .ne 5, 3) := by decide +kernel
theorem dX0_cut_12 : decode cX0_cut 12 = .ok (.iconst 0, 1) := by decide +kernel
theorem dX0_cut_13 : decode cX0_cut 13 = .ok (.ireturn, 1) := by decide +kernel
theorem dX0_cut_14 : decode cX0_cut 14 = .ok (.aload_n 0, 1) := by decide +kernel
theorem dX0_cut_15 : decode cX0_cut 15 = .ok (.iload_n 1, 1) := by decide +kernel
theorem dX0_cut_16 : decode cX0_cut 16 = .ok (.putfield 16, 3) := by decide +kernel
theorem dX0_cut_19 : decode cX0_cut 19 = .ok (.iconst 1, 1) := by decide +kernel
theorem dX0_cut_20 : decode cX0_cut 20 = .ok (.ireturn, 1) := by decide +kernel
theorem dX0_size_0 : decode cX0_size 0 = .ok (.aload_n 0, 1) := by decide +kernel
theorem dX0_size_1 : decode cX0_size 1 = .ok (.getfield 16, 3) := by decide +kernel
theorem dX0_size_4 : decode cX0_size 4 = .ok (.ireturn, 1) := by decide +kernel
set_option maxRecDepth 20000 in
theorem ggX0_rowAt_X0_isPart : GoodIn wsX0_rowAt wsX0_isPart := goodIn_r _ [6] (by decide +kernel) (by decide +kernel)
set_option maxRecDepth 20000 in
theorem gX0_rowAt_X0_isPart : GoodIn wsX0_rowAt (va_wsS RX0 28 yX0_isPart wsX0_isPart) := goodIn_app (goodIn_of _ (by decide +kernel)) ggX0_rowAt_X0_isPart
theorem dX0_rowAt_0 : decode cX0_rowAt 0 = .ok (.iload_n 1, 1) := by decide +kernel
theorem dX0_rowAt_1 : decode cX0_rowAt 1 = .ok (.iconst 1, 1) := by decide +kernel
theorem dX0_rowAt_2 : decode cX0_rowAt 2 = .ok (.aload_n 0, 1) := by decide +kernel
theorem dX0_rowAt_3 : decode cX0_rowAt 3 = .ok (.getfield 16, 3) := by decide +kernel
theorem dX0_rowAt_6 : decode cX0_rowAt 6 = .ok (.invokestatic 28, 3) := by decide +kernel
theorem dX0_rowAt_9 : decode cX0_rowAt 9 = .ok (.ifCond .eq 12, 3) := by decide +kernel
theorem dX0_rowAt_12 : decode cX0_rowAt 12 = .ok (.aload_n 0, 1) := by decide +kernel
theorem dX0_rowAt_13 : decode cX0_rowAt 13 = .ok (.getfield 13, 3) := by decide +kernel
theorem dX0_rowAt_16 : decode cX0_rowAt 16 = .ok (.iload_n 1, 1) := by decide +kernel
theorem dX0_rowAt_17 : decode cX0_rowAt 17 = .ok (.iaload, 1) := by decide +kernel
theorem dX0_rowAt_18 : decode cX0_rowAt 18 = .ok (.goto 4, 3) := by decide +kernel
theorem dX0_rowAt_21 : decode cX0_rowAt 21 = .ok (.iconst (-1), 1) := by decide +kernel
theorem dX0_rowAt_22 : decode cX0_rowAt 22 = .ok (.ireturn, 1) := by decide +kernel
set_option maxRecDepth 20000 in
theorem ggX0_load_X0_isPart : GoodIn wsX0_load wsX0_isPart := goodIn_r _ [11] (by decide +kernel) (by decide +kernel)
set_option maxRecDepth 20000 in
theorem gX0_load_X0_isPart : GoodIn wsX0_load (va_wsS RX0 28 yX0_isPart wsX0_isPart) := goodIn_app (goodIn_of _ (by decide +kernel)) ggX0_load_X0_isPart
theorem dX0_load_0 : decode cX0_load 0 = .ok (.iload_n 2, 1) := by decide +kernel
theorem dX0_load_1 : decode cX0_load 1 = .ok (.iconst 1, 1) := by decide +kernel
theorem dX0_load_2 : decode cX0_load 2 = .ok (.if_icmp .lt 26, 3) := by decide +kernel
theorem dX0_load_5 : decode cX0_load 5 = .ok (.iload_n 1, 1) := by decide +kernel
theorem dX0_load_6 : decode cX0_load 6 = .ok (.iload_n 2, 1) := by decide +kernel
theorem dX0_load_7 : decode cX0_load 7 = .ok (.aload_n 0, 1) := by decide +kernel
theorem dX0_load_8 : decode cX0_load 8 = .ok (.getfield 16, 3) := by decide +kernel
theorem dX0_load_11 : decode cX0_load 11 = .ok (.invokestatic 28, 3) := by decide +kernel
theorem dX0_load_14 : decode cX0_load 14 = .ok (.ifCond .eq 14, 3) := by decide +kernel
theorem dX0_load_17 : decode cX0_load 17 = .ok (.iload_n 3, 1) := by decide +kernel
theorem dX0_load_18 : decode cX0_load 18 = .ok (.iload_n 2, 1) := by decide +kernel
theorem dX0_load_19 : decode cX0_load 19 = .ok (.sipush 4096, 3) := by decide +kernel
theorem dX0_load_22 : decode cX0_load 22 = .ok (.invokestatic 28, 3) := by decide +kernel
theorem dX0_load_25 : decode cX0_load 25 = .ok (.ifCond .ne 5, 3) := by decide +kernel
theorem dX0_load_28 : decode cX0_load 28 = .ok (.iconst 0, 1) := by decide +kernel
theorem dX0_load_29 : decode cX0_load 29 = .ok (.ireturn, 1) := by decide +kernel
theorem dX0_load_30 : decode cX0_load 30 = .ok (.aload_n 0, 1) := by decide +kernel
theorem dX0_load_31 : decode cX0_load 31 = .ok (.getfield 13, 3) := by decide +kernel
theorem dX0_load_34 : decode cX0_load 34 = .ok (.iload_n 1, 1) := by decide +kernel
theorem dX0_load_35 : decode cX0_load 35 = .ok (.aload_n 0, 1) := by decide +kernel
theorem dX0_load_36 : decode cX0_load 36 = .ok (.getfield 9, 3) := by decide +kernel
theorem dX0_load_39 : decode cX0_load 39 = .ok (.iload_n 3, 1) := by decide +kernel
theorem dX0_load_40 : decode cX0_load 40 = .ok (.iload_n 2, 1) := by decide +kernel
theorem dX0_load_41 : decode cX0_load 41 = .ok (.invokestatic 32, 3) := by decide +kernel
theorem dX0_load_44 : decode cX0_load 44 = .ok (.iconst 1, 1) := by decide +kernel
theorem dX0_load_45 : decode cX0_load 45 = .ok (.ireturn, 1) := by decide +kernel
set_option maxRecDepth 20000 in
theorem ggX0_dump_X0_isPart : GoodIn wsX0_dump wsX0_isPart := goodIn_r _ [11] (by decide +kernel) (by decide +kernel)
set_option maxRecDepth 20000 in
theorem gX0_dump_X0_isPart : GoodIn wsX0_dump (va_wsS RX0 28 yX0_isPart wsX0_isPart) := goodIn_app (goodIn_of _ (by decide +kernel)) ggX0_dump_X0_isPart
set_option maxRecDepth 20000 in
theorem ggX0_dump_X0_hasRoom : GoodIn wsX0_dump wsX0_hasRoom := goodIn_r _ [15, 3, 16, 17, 18] (by decide +kernel) (by decide +kernel)
set_option maxRecDepth 20000 in
theorem gX0_dump_X0_hasRoom : GoodIn wsX0_dump (wsV RX0 20 RX0 yX0_hasRoom wsX0_hasRoom) := goodIn_app (goodIn_of _ (by decide +kernel)) ggX0_dump_X0_hasRoom
theorem dX0_dump_0 : decode cX0_dump 0 = .ok (.iload_n 2, 1) := by decide +kernel
theorem dX0_dump_1 : decode cX0_dump 1 = .ok (.iconst 1, 1) := by decide +kernel
theorem dX0_dump_2 : decode cX0_dump 2 = .ok (.if_icmp .lt 22, 3) := by decide +kernel
theorem dX0_dump_5 : decode cX0_dump 5 = .ok (.iload_n 1, 1) := by decide +kernel
theorem dX0_dump_6 : decode cX0_dump 6 = .ok (.iload_n 2, 1) := by decide +kernel
theorem dX0_dump_7 : decode cX0_dump 7 = .ok (.sipush 4096, 3) := by decide +kernel
theorem dX0_dump_10 : decode cX0_dump 10 = .ok (.invokestatic 28, 3) := by decide +kernel
theorem dX0_dump_13 : decode cX0_dump 13 = .ok (.ifCond .eq 11, 3) := by decide +kernel
theorem dX0_dump_16 : decode cX0_dump 16 = .ok (.aload_n 0, 1) := by decide +kernel
theorem dX0_dump_17 : decode cX0_dump 17 = .ok (.iload_n 2, 1) := by decide +kernel
theorem dX0_dump_18 : decode cX0_dump 18 = .ok (.invokevirtual 20, 3) := by decide +kernel
theorem dX0_dump_21 : decode cX0_dump 21 = .ok (.ifCond .ne 5, 3) := by decide +kernel
theorem dX0_dump_24 : decode cX0_dump 24 = .ok (.iconst 0, 1) := by decide +kernel
theorem dX0_dump_25 : decode cX0_dump 25 = .ok (.ireturn, 1) := by decide +kernel
theorem dX0_dump_26 : decode cX0_dump 26 = .ok (.aload_n 0, 1) := by decide +kernel
theorem dX0_dump_27 : decode cX0_dump 27 = .ok (.getfield 9, 3) := by decide +kernel
theorem dX0_dump_30 : decode cX0_dump 30 = .ok (.iload_n 1, 1) := by decide +kernel
theorem dX0_dump_31 : decode cX0_dump 31 = .ok (.aload_n 0, 1) := by decide +kernel
theorem dX0_dump_32 : decode cX0_dump 32 = .ok (.getfield 13, 3) := by decide +kernel
theorem dX0_dump_35 : decode cX0_dump 35 = .ok (.aload_n 0, 1) := by decide +kernel
theorem dX0_dump_36 : decode cX0_dump 36 = .ok (.getfield 16, 3) := by decide +kernel
theorem dX0_dump_39 : decode cX0_dump 39 = .ok (.iload_n 2, 1) := by decide +kernel
theorem dX0_dump_40 : decode cX0_dump 40 = .ok (.invokestatic 32, 3) := by decide +kernel
theorem dX0_dump_43 : decode cX0_dump 43 = .ok (.aload_n 0, 1) := by decide +kernel
theorem dX0_dump_44 : decode cX0_dump 44 = .ok (.dup, 1) := by decide +kernel
theorem dX0_dump_45 : decode cX0_dump 45 = .ok (.getfield 16, 3) := by decide +kernel
theorem dX0_dump_48 : decode cX0_dump 48 = .ok (.iload_n 2, 1) := by decide +kernel
theorem dX0_dump_49 : decode cX0_dump 49 = .ok (.iadd, 1) := by decide +kernel
theorem dX0_dump_50 : decode cX0_dump 50 = .ok (.putfield 16, 3) := by decide +kernel
theorem dX0_dump_53 : decode cX0_dump 53 = .ok (.iconst 1, 1) := by decide +kernel
theorem dX0_dump_54 : decode cX0_dump 54 = .ok (.ireturn, 1) := by decide +kernel
set_option maxRecDepth 20000 in
theorem ggX0_check_X0_isPart : GoodIn wsX0_check wsX0_isPart := goodIn_r _ [5] (by decide +kernel) (by decide +kernel)
set_option maxRecDepth 20000 in
theorem gX0_check_X0_isPart : GoodIn wsX0_check (va_wsS RX0 28 yX0_isPart wsX0_isPart) := goodIn_app (goodIn_of _ (by decide +kernel)) ggX0_check_X0_isPart
set_option maxRecDepth 20000 in
theorem ggX0_check_X0_checkOf : GoodIn wsX0_check wsX0_checkOf := goodIn_r _ [8, 9, 10, 11, 4, 12, 13, 14] (by decide +kernel) (by decide +kernel)
set_option maxRecDepth 20000 in
theorem gX0_check_X0_checkOf : GoodIn wsX0_check (va_wsS RX0 38 yX0_checkOf wsX0_checkOf) := goodIn_app (goodIn_of _ (by decide +kernel)) ggX0_check_X0_checkOf
theorem dX0_check_0 : decode cX0_check 0 = .ok (.iload_n 1, 1) := by decide +kernel
theorem dX0_check_1 : decode cX0_check 1 = .ok (.iload_n 2, 1) := by decide +kernel
theorem dX0_check_2 : decode cX0_check 2 = .ok (.sipush 4096, 3) := by decide +kernel
theorem dX0_check_5 : decode cX0_check 5 = .ok (.invokestatic 28, 3) := by decide +kernel
theorem dX0_check_8 : decode cX0_check 8 = .ok (.ifCond .eq 15, 3) := by decide +kernel
theorem dX0_check_11 : decode cX0_check 11 = .ok (.aload_n 0, 1) := by decide +kernel
theorem dX0_check_12 : decode cX0_check 12 = .ok (.getfield 9, 3) := by decide +kernel
theorem dX0_check_15 : decode cX0_check 15 = .ok (.iload_n 1, 1) := by decide +kernel
theorem dX0_check_16 : decode cX0_check 16 = .ok (.iload_n 2, 1) := by decide +kernel
theorem dX0_check_17 : decode cX0_check 17 = .ok (.invokestatic 38, 3) := by decide +kernel
theorem dX0_check_20 : decode cX0_check 20 = .ok (.goto 4, 3) := by decide +kernel
theorem dX0_check_23 : decode cX0_check 23 = .ok (.iconst (-1), 1) := by decide +kernel
theorem dX0_check_24 : decode cX0_check 24 = .ok (.ireturn, 1) := by decide +kernel
set_option maxRecDepth 20000 in
theorem ggX0_rowCheck_X0_isPart : GoodIn wsX0_rowCheck wsX0_isPart := goodIn_r _ [6] (by decide +kernel) (by decide +kernel)
set_option maxRecDepth 20000 in
theorem gX0_rowCheck_X0_isPart : GoodIn wsX0_rowCheck (va_wsS RX0 28 yX0_isPart wsX0_isPart) := goodIn_app (goodIn_of _ (by decide +kernel)) ggX0_rowCheck_X0_isPart
set_option maxRecDepth 20000 in
theorem ggX0_rowCheck_X0_checkOf : GoodIn wsX0_rowCheck wsX0_checkOf := goodIn_r _ [9, 10, 11, 12, 5, 13, 14, 15] (by decide +kernel) (by decide +kernel)
set_option maxRecDepth 20000 in
theorem gX0_rowCheck_X0_checkOf : GoodIn wsX0_rowCheck (va_wsS RX0 38 yX0_checkOf wsX0_checkOf) := goodIn_app (goodIn_of _ (by decide +kernel)) ggX0_rowCheck_X0_checkOf
theorem dX0_rowCheck_0 : decode cX0_rowCheck 0 = .ok (.iconst 0, 1) := by decide +kernel
theorem dX0_rowCheck_1 : decode cX0_rowCheck 1 = .ok (.iload_n 1, 1) := by decide +kernel
theorem dX0_rowCheck_2 : decode cX0_rowCheck 2 = .ok (.aload_n 0, 1) := by decide +kernel
theorem dX0_rowCheck_3 : decode cX0_rowCheck 3 = .ok (.getfield 16, 3) := by decide +kernel
theorem dX0_rowCheck_6 : decode cX0_rowCheck 6 = .ok (.invokestatic 28, 3) := by decide +kernel
theorem dX0_rowCheck_9 : decode cX0_rowCheck 9 = .ok (.ifCond .eq 15, 3) := by decide +kernel
theorem dX0_rowCheck_12 : decode cX0_rowCheck 12 = .ok (.aload_n 0, 1) := by decide +kernel
theorem dX0_rowCheck_13 : decode cX0_rowCheck 13 = .ok (.getfield 13, 3) := by decide +kernel
theorem dX0_rowCheck_16 : decode cX0_rowCheck 16 = .ok (.iconst 0, 1) := by decide +kernel
theorem dX0_rowCheck_17 : decode cX0_rowCheck 17 = .ok (.iload_n 1, 1) := by decide +kernel
theorem dX0_rowCheck_18 : decode cX0_rowCheck 18 = .ok (.invokestatic 38, 3) := by decide +kernel
theorem dX0_rowCheck_21 : decode cX0_rowCheck 21 = .ok (.goto 4, 3) := by decide +kernel
theorem dX0_rowCheck_24 : decode cX0_rowCheck 24 = .ok (.iconst (-1), 1) := by decide +kernel
theorem dX0_rowCheck_25 : decode cX0_rowCheck 25 = .ok (.ireturn, 1) := by decide +kernel
set_option maxRecDepth 20000 in
theorem ggX0_seal_X0_hasRoom : GoodIn wsX0_seal wsX0_hasRoom := goodIn_r _ [7, 2, 21, 22, 23] (by decide +kernel) (by decide +kernel)
set_option maxRecDepth 20000 in
theorem gX0_seal_X0_hasRoom : GoodIn wsX0_seal (wsV RX0 20 RX0 yX0_hasRoom wsX0_hasRoom) := goodIn_app (goodIn_of _ (by decide +kernel)) ggX0_seal_X0_hasRoom
set_option maxRecDepth 20000 in
theorem ggX0_seal_X0_checkOf : GoodIn wsX0_seal wsX0_checkOf := goodIn_r _ [10, 11, 12, 13, 6, 14, 15, 16] (by decide +kernel) (by decide +kernel)
set_option maxRecDepth 20000 in
theorem gX0_seal_X0_checkOf : GoodIn wsX0_seal (va_wsS RX0 38 yX0_checkOf wsX0_checkOf) := goodIn_app (goodIn_of _ (by decide +kernel)) ggX0_seal_X0_checkOf
set_option maxRecDepth 20000 in
theorem ggX0_seal_X0_append : GoodIn wsX0_seal wsX0_append := goodIn_r _ [20, 1, 2, 21, 22, 23] (by decide +kernel) (by decide +kernel)
set_option maxRecDepth 20000 in
theorem gX0_seal_X0_append : GoodIn wsX0_seal (wsV RX0 24 RX0 yX0_append wsX0_append) := goodIn_app (goodIn_of _ (by decide +kernel)) ggX0_seal_X0_append
theorem dX0_seal_0 : decode cX0_seal 0 = .ok (.aload_n 0, 1) := by decide +kernel
theorem dX0_seal_1 : decode cX0_seal 1 = .ok (.iconst 2, 1) := by decide +kernel
theorem dX0_seal_2 : decode cX0_seal 2 = .ok (.invokevirtual 20, 3) := by decide +kernel
theorem dX0_seal_5 : decode cX0_seal 5 = .ok (.ifCond .ne 5, 3) := by decide +kernel
theorem dX0_seal_8 : decode cX0_seal 8 = .ok (.iconst 0, 1) := by decide +kernel
theorem dX0_seal_9 : decode cX0_seal 9 = .ok (.ireturn, 1) := by decide +kernel
theorem dX0_seal_10 : decode cX0_seal 10 = .ok (.aload_n 0, 1) := by decide +kernel
theorem dX0_seal_11 : decode cX0_seal 11 = .ok (.getfield 13, 3) := by decide +kernel
theorem dX0_seal_14 : decode cX0_seal 14 = .ok (.iconst 0, 1) := by decide +kernel
theorem dX0_seal_15 : decode cX0_seal 15 = .ok (.aload_n 0, 1) := by decide +kernel
theorem dX0_seal_16 : decode cX0_seal 16 = .ok (.getfield 16, 3) := by decide +kernel
theorem dX0_seal_19 : decode cX0_seal 19 = .ok (.invokestatic 38, 3) := by decide +kernel
theorem dX0_seal_22 : decode cX0_seal 22 = .ok (.istore_n 1, 1) := by decide +kernel
theorem dX0_seal_23 : decode cX0_seal 23 = .ok (.aload_n 0, 1) := by decide +kernel
theorem dX0_seal_24 : decode cX0_seal 24 = .ok (.iload_n 1, 1) := by decide +kernel
theorem dX0_seal_25 : decode cX0_seal 25 = .ok (.bipush 8, 2) := by decide +kernel
theorem dX0_seal_27 : decode cX0_seal 27 = .ok (.ishr, 1) := by decide +kernel
theorem dX0_seal_28 : decode cX0_seal 28 = .ok (.invokevirtual 24, 3) := by decide +kernel
theorem dX0_seal_31 : decode cX0_seal 31 = .ok (.aload_n 0, 1) := by decide +kernel
theorem dX0_seal_32 : decode cX0_seal 32 = .ok (.iload_n 1, 1) := by decide +kernel
theorem dX0_seal_33 : decode cX0_seal 33 = .ok (.invokevirtual 24, 3) := by decide +kernel
theorem dX0_seal_36 : decode cX0_seal 36 = .ok (.iconst 1, 1) := by decide +kernel
theorem dX0_seal_37 : decode cX0_seal 37 = .ok (.ireturn, 1) := by decide +kernel
set_option maxRecDepth 20000 in
theorem ggX0_at_X0_isPart : GoodIn wsX0_at wsX0_isPart := goodIn_r _ [5] (by decide +kernel) (by decide +kernel)
set_option maxRecDepth 20000 in
theorem gX0_at_X0_isPart : GoodIn wsX0_at (va_wsS RX0 28 yX0_isPart wsX0_isPart) := goodIn_app (goodIn_of _ (by decide +kernel)) ggX0_at_X0_isPart
theorem dX0_at_0 : decode cX0_at 0 = .ok (.iload_n 1, 1) := by decide +kernel
theorem dX0_at_1 : decode cX0_at 1 = .ok (.iconst 1, 1) := by decide +kernel
theorem dX0_at_2 : decode cX0_at 2 = .ok (.sipush 4096, 3) := by decide +kernel
theorem dX0_at_5 : decode cX0_at 5 = .ok (.invokestatic 28, 3) := by decide +kernel
theorem dX0_at_8 : decode cX0_at 8 = .ok (.ifCond .eq 12, 3) := by decide +kernel
theorem dX0_at_11 : decode cX0_at 11 = .ok (.aload_n 0, 1) := by decide +kernel
theorem dX0_at_12 : decode cX0_at 12 = .ok (.getfield 9, 3) := by decide +kernel
theorem dX0_at_15 : decode cX0_at 15 = .ok (.iload_n 1, 1) := by decide +kernel
theorem dX0_at_16 : decode cX0_at 16 = .ok (.iaload, 1) := by decide +kernel
theorem dX0_at_17 : decode cX0_at 17 = .ok (.goto 4, 3) := by decide +kernel
theorem dX0_at_20 : decode cX0_at 20 = .ok (.iconst (-1), 1) := by decide +kernel
theorem dX0_at_21 : decode cX0_at 21 = .ok (.ireturn, 1) := by decide +kernel
theorem dX0_isPart_0 : decode cX0_isPart 0 = .ok (.iload_n 0, 1) := by decide +kernel
theorem dX0_isPart_1 : decode cX0_isPart 1 = .ok (.ifCond .lt 18, 3) := by decide +kernel
theorem dX0_isPart_4 : decode cX0_isPart 4 = .ok (.iload_n 1, 1) := by decide +kernel
theorem dX0_isPart_5 : decode cX0_isPart 5 = .ok (.ifCond .lt 14, 3) := by decide +kernel
theorem dX0_isPart_8 : decode cX0_isPart 8 = .ok (.iload_n 1, 1) := by decide +kernel
theorem dX0_isPart_9 : decode cX0_isPart 9 = .ok (.iload_n 2, 1) := by decide +kernel
theorem dX0_isPart_10 : decode cX0_isPart 10 = .ok (.iload_n 0, 1) := by decide +kernel
theorem dX0_isPart_11 : decode cX0_isPart 11 = .ok (.isub, 1) := by decide +kernel
theorem dX0_isPart_12 : decode cX0_isPart 12 = .ok (.if_icmp .gt 7, 3) := by decide +kernel
theorem dX0_isPart_15 : decode cX0_isPart 15 = .ok (.iconst 1, 1) := by decide +kernel
theorem dX0_isPart_16 : decode cX0_isPart 16 = .ok (.goto 4, 3) := by decide +kernel
theorem dX0_isPart_19 : decode cX0_isPart 19 = .ok (.iconst 0, 1) := by decide +kernel
theorem dX0_isPart_20 : decode cX0_isPart 20 = .ok (.ireturn, 1) := by decide +kernel
theorem dX0_hasRoom_0 : decode cX0_hasRoom 0 = .ok (.iload_n 1, 1) := by decide +kernel
theorem dX0_hasRoom_1 : decode cX0_hasRoom 1 = .ok (.sipush 512, 3) := by decide +kernel
theorem dX0_hasRoom_4 : decode cX0_hasRoom 4 = .ok (.aload_n 0, 1) := by decide +kernel
theorem dX0_hasRoom_5 : decode cX0_hasRoom 5 = .ok (.getfield 16, 3) := by decide +kernel
theorem dX0_hasRoom_8 : decode cX0_hasRoom 8 = .ok (.isub, 1) := by decide +kernel
theorem dX0_hasRoom_9 : decode cX0_hasRoom 9 = .ok (.if_icmp .gt 7, 3) := by decide +kernel
theorem dX0_hasRoom_12 : decode cX0_hasRoom 12 = .ok (.iconst 1, 1) := by decide +kernel
theorem dX0_hasRoom_13 : decode cX0_hasRoom 13 = .ok (.goto 4, 3) := by decide +kernel
theorem dX0_hasRoom_16 : decode cX0_hasRoom 16 = .ok (.iconst 0, 1) := by decide +kernel
theorem dX0_hasRoom_17 : decode cX0_hasRoom 17 = .ok (.ireturn, 1) := by decide +kernel
theorem dX0_append_0 : decode cX0_append 0 = .ok (.aload_n 0, 1) := by decide +kernel
theorem dX0_append_1 : decode cX0_append 1 = .ok (.getfield 13, 3) := by decide +kernel
theorem dX0_append_4 : decode cX0_append 4 = .ok (.aload_n 0, 1) := by decide +kernel
theorem dX0_append_5 : decode cX0_append 5 = .ok (.getfield 16, 3) := by decide +kernel
theorem dX0_append_8 : decode cX0_append 8 = .ok (.iload_n 1, 1) := by decide +kernel
theorem dX0_append_9 : decode cX0_append 9 = .ok (.sipush 255, 3) := by decide +kernel
theorem dX0_append_12 : decode cX0_append 12 = .ok (.iand, 1) := by decide +kernel
theorem dX0_append_13 : decode cX0_append 13 = .ok (.iastore, 1) := by decide +kernel
theorem dX0_append_14 : decode cX0_append 14 = .ok (.aload_n 0, 1) := by decide +kernel
theorem dX0_append_15 : decode cX0_append 15 = .ok (.dup, 1) := by decide +kernel
theorem dX0_append_16 : decode cX0_append 16 = .ok (.getfield 16, 3) := by decide +kernel
theorem dX0_append_19 : decode cX0_append 19 = .ok (.iconst 1, 1) := by decide +kernel
theorem dX0_append_20 : decode cX0_append 20 = .ok (.iadd, 1) := by decide +kernel
theorem dX0_append_21 : decode cX0_append 21 = .ok (.putfield 16, 3) := by decide +kernel
theorem dX0_append_24 : decode cX0_append 24 = .ok (.return_, 1) := by decide +kernel
set_option maxRecDepth 20000 in
theorem ggX0_checkOf_X0_checkWith : GoodIn wsX0_checkOf wsX0_checkWith := goodIn_r _ [5, 6, 7] (by decide +kernel) (by decide +kernel)
set_option maxRecDepth 20000 in
theorem gX0_checkOf_X0_checkWith : GoodIn wsX0_checkOf (va_wsS RX0 43 yX0_checkWith wsX0_checkWith) := goodIn_app (goodIn_of _ (by decide +kernel)) ggX0_checkOf_X0_checkWith
theorem dX0_checkOf_0 : decode cX0_checkOf 0 = .ok (.ldc 42, 2) := by decide +kernel
theorem dX0_checkOf_2 : decode cX0_checkOf 2 = .ok (.istore_n 3, 1) := by decide +kernel
theorem dX0_checkOf_3 : decode cX0_checkOf 3 = .ok (.iconst 0, 1) := by decide +kernel
theorem dX0_checkOf_4 : decode cX0_checkOf 4 = .ok (.istore 4, 2) := by decide +kernel
theorem dX0_checkOf_6 : decode cX0_checkOf 6 = .ok (.iload 4, 2) := by decide +kernel
theorem dX0_checkOf_8 : decode cX0_checkOf 8 = .ok (.iload_n 2, 1) := by decide +kernel
theorem dX0_checkOf_9 : decode cX0_checkOf 9 = .ok (.if_icmp .ge 20, 3) := by decide +kernel
theorem dX0_checkOf_12 : decode cX0_checkOf 12 = .ok (.iload_n 3, 1) := by decide +kernel
theorem dX0_checkOf_13 : decode cX0_checkOf 13 = .ok (.aload_n 0, 1) := by decide +kernel
theorem dX0_checkOf_14 : decode cX0_checkOf 14 = .ok (.iload_n 1, 1) := by decide +kernel
theorem dX0_checkOf_15 : decode cX0_checkOf 15 = .ok (.iload 4, 2) := by decide +kernel
theorem dX0_checkOf_17 : decode cX0_checkOf 17 = .ok (.iadd, 1) := by decide +kernel
theorem dX0_checkOf_18 : decode cX0_checkOf 18 = .ok (.iaload, 1) := by decide +kernel
theorem dX0_checkOf_19 : decode cX0_checkOf 19 = .ok (.invokestatic 43, 3) := by decide +kernel
theorem dX0_checkOf_22 : decode cX0_checkOf 22 = .ok (.istore_n 3, 1) := by decide +kernel
theorem dX0_checkOf_23 : decode cX0_checkOf 23 = .ok (.iinc 4 1, 3) := by decide +kernel
theorem dX0_checkOf_26 : decode cX0_checkOf 26 = .ok (.goto (-20), 3) := by decide +kernel
theorem dX0_checkOf_29 : decode cX0_checkOf 29 = .ok (.iload_n 3, 1) := by decide +kernel
theorem dX0_checkOf_30 : decode cX0_checkOf 30 = .ok (.ireturn, 1) := by decide +kernel
theorem dX0_checkWith_0 : decode cX0_checkWith 0 = .ok (.iload_n 0, 1) := by decide +kernel
theorem dX0_checkWith_1 : decode cX0_checkWith 1 = .ok (.iload_n 1, 1) := by decide +kernel
theorem dX0_checkWith_2 : decode cX0_checkWith 2 = .ok (.sipush 256, 3) := by decide +kernel
theorem dX0_checkWith_5 : decode cX0_checkWith 5 = .ok (.imul, 1) := by decide +kernel
theorem dX0_checkWith_6 : decode cX0_checkWith 6 = .ok (.ixor, 1) := by decide +kernel
theorem dX0_checkWith_7 : decode cX0_checkWith 7 = .ok (.istore_n 2, 1) := by decide +kernel
theorem dX0_checkWith_8 : decode cX0_checkWith 8 = .ok (.iconst 0, 1) := by decide +kernel
theorem dX0_checkWith_9 : decode cX0_checkWith 9 = .ok (.istore_n 3, 1) := by decide +kernel
theorem dX0_checkWith_10 : decode cX0_checkWith 10 = .ok (.iload_n 3, 1) := by decide +kernel
theorem dX0_checkWith_11 : decode cX0_checkWith 11 = .ok (.bipush 8, 2) := by decide +kernel
theorem dX0_checkWith_13 : decode cX0_checkWith 13 = .ok (.if_icmp .ge 24, 3) := by decide +kernel
theorem dX0_checkWith_16 : decode cX0_checkWith 16 = .ok (.iload_n 2, 1) := by decide +kernel
theorem dX0_checkWith_17 : decode cX0_checkWith 17 = .ok (.iconst 2, 1) := by decide +kernel
theorem dX0_checkWith_18 : decode cX0_checkWith 18 = .ok (.imul, 1) := by decide +kernel
theorem dX0_checkWith_19 : decode cX0_checkWith 19 = .ok (.istore_n 2, 1) := by decide +kernel
theorem dX0_checkWith_20 : decode cX0_checkWith 20 = .ok (.iload_n 2, 1) := by decide +kernel
theorem dX0_checkWith_21 : decode cX0_checkWith 21 = .ok (.ldc 47, 2) := by decide +kernel
theorem dX0_checkWith_23 : decode cX0_checkWith 23 = .ok (.if_icmp .lt 8, 3) := by decide +kernel
theorem dX0_checkWith_26 : decode cX0_checkWith 26 = .ok (.iload_n 2, 1) := by decide +kernel
theorem dX0_checkWith_27 : decode cX0_checkWith 27 = .ok (.ldc 48, 2) := by decide +kernel
theorem dX0_checkWith_29 : decode cX0_checkWith 29 = .ok (.ixor, 1) := by decide +kernel
theorem dX0_checkWith_30 : decode cX0_checkWith 30 = .ok (.istore_n 2, 1) := by decide +kernel
theorem dX0_checkWith_31 : decode cX0_checkWith 31 = .ok (.iinc 3 1, 3) := by decide +kernel
theorem dX0_checkWith_34 : decode cX0_checkWith 34 = .ok (.goto (-24), 3) := by decide +kernel
theorem dX0_checkWith_37 : decode cX0_checkWith 37 = .ok (.iload_n 2, 1) := by decide +kernel
theorem dX0_checkWith_38 : decode cX0_checkWith 38 = .ok (.ireturn, 1) := by decide +kernel
theorem dX1_init_0 : decode cX1_init 0 = .ok (.aload_n 0, 1) := by decide +kernel
theorem dX1_init_1 : decode cX1_init 1 = .ok (.invokespecial 1, 3) := by decide +kernel
theorem dX1_init_4 : decode cX1_init 4 = .ok (.aload_n 0, 1) := by decide +kernel
theorem dX1_init_5 : decode cX1_init 5 = .ok (.sipush 4096, 3) := by decide +kernel
theorem dX1_init_8 : decode cX1_init 8 = .ok (.newarray .byte, 2) := by decide +kernel
theorem dX1_init_10 : decode cX1_init 10 = .ok (.putfield 7, 3) := by decide +kernel
theorem dX1_init_13 : decode cX1_init 13 = .ok (.aload_n 0, 1) := by decide +kernel
theorem dX1_init_14 : decode cX1_init 14 = .ok (.sipush 512, 3) := by decide +kernel
theorem dX1_init_17 : decode cX1_init 17 = .ok (.newarray .byte, 2) := by decide +kernel
theorem dX1_init_19 : decode cX1_init 19 = .ok (.putfield 13, 3) := by decide +kernel
theorem dX1_init_22 : decode cX1_init 22 = .ok (.return_, 1) := by decide +kernel
theorem dX1_checkOf_0 : decode cX1_checkOf 0 = .ok (.ldc 20, 2) := by decide +kernel
theorem dX1_checkOf_2 : decode cX1_checkOf 2 = .ok (.istore_n 3, 1) := by decide +kernel
theorem dX1_checkOf_3 : decode cX1_checkOf 3 = .ok (.iconst 0, 1) := by decide +kernel
theorem dX1_checkOf_4 : decode cX1_checkOf 4 = .ok (.istore 4, 2) := by decide +kernel
theorem dX1_checkOf_6 : decode cX1_checkOf 6 = .ok (.iload 4, 2) := by decide +kernel
theorem dX1_checkOf_8 : decode cX1_checkOf 8 = .ok (.bipush 8, 2) := by decide +kernel
theorem dX1_checkOf_10 : decode cX1_checkOf 10 = .ok (.iload_n 2, 1) := by decide +kernel
theorem dX1_checkOf_11 : decode cX1_checkOf 11 = .ok (.imul, 1) := by decide +kernel
theorem dX1_checkOf_12 : decode cX1_checkOf 12 = .ok (.if_icmp .ge 63, 3) := by decide +kernel
theorem dX1_checkOf_15 : decode cX1_checkOf 15 = .ok (.aload_n 0, 1) := by decide +kernel
theorem dX1_checkOf_16 : decode cX1_checkOf 16 = .ok (.iload_n 1, 1) := by decide +kernel
theorem dX1_checkOf_17 : decode cX1_checkOf 17 = .ok (.iload 4, 2) := by decide +kernel
theorem dX1_checkOf_19 : decode cX1_checkOf 19 = .ok (.bipush 8, 2) := by decide +kernel
theorem dX1_checkOf_21 : decode cX1_checkOf 21 = .ok (.idiv, 1) := by decide +kernel
theorem dX1_checkOf_22 : decode cX1_checkOf 22 = .ok (.iadd, 1) := by decide +kernel
theorem dX1_checkOf_23 : decode cX1_checkOf 23 = .ok (.baload, 1) := by decide +kernel
theorem dX1_checkOf_24 : decode cX1_checkOf 24 = .ok (.bipush 7, 2) := by decide +kernel
theorem dX1_checkOf_26 : decode cX1_checkOf 26 = .ok (.iload 4, 2) := by decide +kernel
theorem dX1_checkOf_28 : decode cX1_checkOf 28 = .ok (.bipush 8, 2) := by decide +kernel
theorem dX1_checkOf_30 : decode cX1_checkOf 30 = .ok (.irem, 1) := by decide +kernel
theorem dX1_checkOf_31 : decode cX1_checkOf 31 = .ok (.isub, 1) := by decide +kernel
theorem dX1_checkOf_32 : decode cX1_checkOf 32 = .ok (.ishr, 1) := by decide +kernel
theorem dX1_checkOf_33 : decode cX1_checkOf 33 = .ok (.iconst 1, 1) := by decide +kernel
theorem dX1_checkOf_34 : decode cX1_checkOf 34 = .ok (.iand, 1) := by decide +kernel
theorem dX1_checkOf_35 : decode cX1_checkOf 35 = .ok (.istore 5, 2) := by decide +kernel
theorem dX1_checkOf_37 : decode cX1_checkOf 37 = .ok (.iload_n 3, 1) := by decide +kernel
theorem dX1_checkOf_38 : decode cX1_checkOf 38 = .ok (.bipush 15, 2) := by decide +kernel
theorem dX1_checkOf_40 : decode cX1_checkOf 40 = .ok (.ishr, 1) := by decide +kernel
theorem dX1_checkOf_41 : decode cX1_checkOf 41 = .ok (.istore 6, 2) := by decide +kernel
theorem dX1_checkOf_43 : decode cX1_checkOf 43 = .ok (.iload_n 3, 1) := by decide +kernel
theorem dX1_checkOf_44 : decode cX1_checkOf 44 = .ok (.iconst 1, 1) := by decide +kernel
theorem dX1_checkOf_45 : decode cX1_checkOf 45 = .ok (.ishl, 1) := by decide +kernel
theorem dX1_checkOf_46 : decode cX1_checkOf 46 = .ok (.ldc 20, 2) := by decide +kernel
theorem dX1_checkOf_48 : decode cX1_checkOf 48 = .ok (.iand, 1) := by decide +kernel
theorem dX1_checkOf_49 : decode cX1_checkOf 49 = .ok (.istore_n 3, 1) := by decide +kernel
theorem dX1_checkOf_50 : decode cX1_checkOf 50 = .ok (.iload 6, 2) := by decide +kernel
theorem dX1_checkOf_52 : decode cX1_checkOf 52 = .ok (.iload 5, 2) := by decide +kernel
theorem dX1_checkOf_54 : decode cX1_checkOf 54 = .ok (.ixor, 1) := by decide +kernel
theorem dX1_checkOf_55 : decode cX1_checkOf 55 = .ok (.iconst 1, 1) := by decide +kernel
theorem dX1_checkOf_56 : decode cX1_checkOf 56 = .ok (.if_icmp .ne 11, 3) := by decide +kernel
theorem dX1_checkOf_59 : decode cX1_checkOf 59 = .ok (.iload_n 3, 1) := by decide +kernel
theorem dX1_checkOf_60 : decode cX1_checkOf 60 = .ok (.sipush 4129, 3) := by decide +kernel
theorem dX1_checkOf_63 : decode cX1_checkOf 63 = .ok (.ixor, 1) := by decide +kernel
theorem dX1_checkOf_64 : decode cX1_checkOf 64 = .ok (.goto 4, 3) := by decide +kernel
theorem dX1_checkOf_67 : decode cX1_checkOf 67 = .ok (.iload_n 3, 1) := by decide +kernel
theorem dX1_checkOf_68 : decode cX1_checkOf 68 = .ok (.istore_n 3, 1) := by decide +kernel
theorem dX1_checkOf_69 : decode cX1_checkOf 69 = .ok (.iinc 4 1, 3) := by decide +kernel
theorem dX1_checkOf_72 : decode cX1_checkOf 72 = .ok (.goto (-66), 3) := by decide +kernel
theorem dX1_checkOf_75 : decode cX1_checkOf 75 = .ok (.iload_n 3, 1) := by decide +kernel
theorem dX1_checkOf_76 : decode cX1_checkOf 76 = .ok (.ireturn, 1) := by decide +kernel
theorem dX1_in_0 : decode cX1_in 0 = .ok (.iload_n 0, 1) := by decide +kernel
theorem dX1_in_1 : decode cX1_in 1 = .ok (.ifCond .lt 22, 3) := by decide +kernel
theorem dX1_in_4 : decode cX1_in 4 = .ok (.iload_n 1, 1) := by decide +kernel
theorem dX1_in_5 : decode cX1_in 5 = .ok (.ifCond .lt 18, 3) := by decide +kernel
theorem dX1_in_8 : decode cX1_in 8 = .ok (.iload_n 0, 1) := by decide +kernel
theorem dX1_in_9 : decode cX1_in 9 = .ok (.i2l, 1) := by decide +kernel
theorem dX1_in_10 : decode cX1_in 10 = .ok (.iload_n 1, 1) := by decide +kernel
theorem dX1_in_11 : decode cX1_in 11 = .ok (.i2l, 1) := by decide +kernel
theorem dX1_in_12 : decode cX1_in 12 = .ok (.ladd, 1) := by decide +kernel
theorem dX1_in_13 : decode cX1_in 13 = .ok (.iload_n 2, 1) := by decide +kernel
theorem dX1_in_14 : decode cX1_in 14 = .ok (.i2l, 1) := by decide +kernel
theorem dX1_in_15 : decode cX1_in 15 = .ok (.lcmp, 1) := by decide +kernel
theorem dX1_in_16 : decode cX1_in 16 = .ok (.ifCond .gt 7, 3) := by decide +kernel
theorem dX1_in_19 : decode cX1_in 19 = .ok (.iconst 1, 1) := by decide +kernel
theorem dX1_in_20 : decode cX1_in 20 = .ok (.goto 4, 3) := by decide +kernel
theorem dX1_in_23 : decode cX1_in 23 = .ok (.iconst 0, 1) := by decide +kernel
theorem dX1_in_24 : decode cX1_in 24 = .ok (.ireturn, 1) := by decide +kernel
theorem dX1_put_0 : decode cX1_put 0 = .ok (.aload_n 0, 1) := by decide +kernel
theorem dX1_put_1 : decode cX1_put 1 = .ok (.iconst 0, 1) := by decide +kernel
theorem dX1_put_2 : decode cX1_put 2 = .ok (.putfield 16, 3) := by decide +kernel
theorem dX1_put_5 : decode cX1_put 5 = .ok (.aload_n 0, 1) := by decide +kernel
theorem dX1_put_6 : decode cX1_put 6 = .ok (.getfield 21, 3) := by decide +kernel
theorem dX1_put_9 : decode cX1_put 9 = .ok (.sipush 512, 3) := by decide +kernel
theorem dX1_put_12 : decode cX1_put 12 = .ok (.if_icmp .ne 5, 3) := by decide +kernel
theorem dX1_put_15 : decode cX1_put 15 = .ok (.iconst (-1), 1) := by decide +kernel
theorem dX1_put_16 : decode cX1_put 16 = .ok (.ireturn, 1) := by decide +kernel
theorem dX1_put_17 : decode cX1_put 17 = .ok (.aload_n 0, 1) := by decide +kernel
theorem dX1_put_18 : decode cX1_put 18 = .ok (.getfield 13, 3) := by decide +kernel
theorem dX1_put_21 : decode cX1_put 21 = .ok (.aload_n 0, 1) := by decide +kernel
theorem dX1_put_22 : decode cX1_put 22 = .ok (.getfield 21, 3) := by decide +kernel
theorem dX1_put_25 : decode cX1_put 25 = .ok (.iload_n 1, 1) := by decide +kernel
theorem dX1_put_26 : decode cX1_put 26 = .ok (.i2b, 1) := by decide +kernel
theorem dX1_put_27 : decode cX1_put 27 = .ok (.bastore, 1) := by decide +kernel
theorem dX1_put_28 : decode cX1_put 28 = .ok (.aload_n 0, 1) := by decide +kernel
theorem dX1_put_29 : decode cX1_put 29 = .ok (.dup, 1) := by decide +kernel
theorem dX1_put_30 : decode cX1_put 30 = .ok (.getfield 21, 3) := by decide +kernel
theorem dX1_put_33 : decode cX1_put 33 = .ok (.iconst 1, 1) := by decide +kernel
theorem dX1_put_34 : decode cX1_put 34 = .ok (.iadd, 1) := by decide +kernel
theorem dX1_put_35 : decode cX1_put 35 = .ok (.putfield 21, 3) := by decide +kernel
theorem dX1_put_38 : decode cX1_put 38 = .ok (.aload_n 0, 1) := by decide +kernel
theorem dX1_put_39 : decode cX1_put 39 = .ok (.getfield 21, 3) := by decide +kernel
theorem dX1_put_42 : decode cX1_put 42 = .ok (.ireturn, 1) := by decide +kernel
theorem dX1_cut_0 : decode cX1_cut 0 = .ok (.aload_n 0, 1) := by decide +kernel
theorem dX1_cut_1 : decode cX1_cut 1 = .ok (.iconst 0, 1) := by decide +kernel
theorem dX1_cut_2 : decode cX1_cut 2 = .ok (.putfield 16, 3) := by decide +kernel
theorem dX1_cut_5 : decode cX1_cut 5 = .ok (.iload_n 1, 1) := by decide +kernel
theorem dX1_cut_6 : decode cX1_cut 6 = .ok (.ifCond .lt 11, 3) := by decide +kernel
theorem dX1_cut_9 : decode cX1_cut 9 = .ok (.iload_n 1, 1) := by decide +kernel
theorem dX1_cut_10 : decode cX1_cut 10 = .ok (.aload_n 0, 1) := by decide +kernel
theorem dX1_cut_11 : decode cX1_cut 11 = .ok (.getfield 21, 3) := by decide +kernel
theorem dX1_cut_14 : decode cX1_cut 14 = .ok (.if_icmp .le 5, 3) := by decide +kernel
theorem dX1_cut_17 : decode cX1_cut 17 = .ok (.iconst 0, 1) := by decide +kernel
theorem dX1_cut_18 : decode cX1_cut 18 = .ok (.ireturn, 1) := by decide +kernel
theorem dX1_cut_19 : decode cX1_cut 19 = .ok (.aload_n 0, 1) := by decide +kernel
theorem dX1_cut_20 : decode cX1_cut 20 = .ok (.iload_n 1, 1) := by decide +kernel
theorem dX1_cut_21 : decode cX1_cut 21 = .ok (.putfield 21, 3) := by decide +kernel
theorem dX1_cut_24 : decode cX1_cut 24 = .ok (.iconst 1, 1) := by decide +kernel
theorem dX1_cut_25 : decode cX1_cut 25 = .ok (.ireturn, 1) := by decide +kernel
theorem dX1_size_0 : decode cX1_size 0 = .ok (.aload_n 0, 1) := by decide +kernel
theorem dX1_size_1 : decode cX1_size 1 = .ok (.iconst 0, 1) := by decide +kernel
theorem dX1_size_2 : decode cX1_size 2 = .ok (.putfield 16, 3) := by decide +kernel
theorem dX1_size_5 : decode cX1_size 5 = .ok (.aload_n 0, 1) := by decide +kernel
theorem dX1_size_6 : decode cX1_size 6 = .ok (.getfield 21, 3) := by decide +kernel
theorem dX1_size_9 : decode cX1_size 9 = .ok (.ireturn, 1) := by decide +kernel
theorem dX1_rowAt_0 : decode cX1_rowAt 0 = .ok (.aload_n 0, 1) := by decide +kernel
theorem dX1_rowAt_1 : decode cX1_rowAt 1 = .ok (.iconst 0, 1) := by decide +kernel
theorem dX1_rowAt_2 : decode cX1_rowAt 2 = .ok (.putfield 16, 3) := by decide +kernel
theorem dX1_rowAt_5 : decode cX1_rowAt 5 = .ok (.iload_n 1, 1) := by decide +kernel
theorem dX1_rowAt_6 : decode cX1_rowAt 6 = .ok (.ifCond .lt 11, 3) := by decide +kernel
theorem dX1_rowAt_9 : decode cX1_rowAt 9 = .ok (.iload_n 1, 1) := by decide +kernel
theorem dX1_rowAt_10 : decode cX1_rowAt 10 = .ok (.aload_n 0, 1) := by decide +kernel
theorem dX1_rowAt_11 : decode cX1_rowAt 11 = .ok (.getfield 21, 3) := by decide +kernel
theorem dX1_rowAt_14 : decode cX1_rowAt 14 = .ok (.if_icmp .lt 7, 3) := by decide +kernel
theorem dX1_rowAt_17 : decode cX1_rowAt 17 = .ok (.iconst (-1), 1) := by decide +kernel
theorem dX1_rowAt_18 : decode cX1_rowAt 18 = .ok (.goto 13, 3) := by decide +kernel
theorem dX1_rowAt_21 : decode cX1_rowAt 21 = .ok (.aload_n 0, 1) := by decide +kernel
theorem dX1_rowAt_22 : decode cX1_rowAt 22 = .ok (.getfield 13, 3) := by decide +kernel
theorem dX1_rowAt_25 : decode cX1_rowAt 25 = .ok (.iload_n 1, 1) := by decide +kernel
theorem dX1_rowAt_26 : decode cX1_rowAt 26 = .ok (.baload, 1) := by decide +kernel
theorem dX1_rowAt_27 : decode cX1_rowAt 27 = .ok (.sipush 255, 3) := by decide +kernel
theorem dX1_rowAt_30 : decode cX1_rowAt 30 = .ok (.iand, 1) := by decide +kernel
theorem dX1_rowAt_31 : decode cX1_rowAt 31 = .ok (.ireturn, 1) := by decide +kernel
set_option maxRecDepth 20000 in
theorem ggX1_load_X1_in : GoodIn wsX1_load wsX1_in := goodIn_r _ [8] (by decide +kernel) (by decide +kernel)
set_option maxRecDepth 20000 in
theorem gX1_load_X1_in : GoodIn wsX1_load (va_wsS RX1 24 yX1_in wsX1_in) := goodIn_app (goodIn_of _ (by decide +kernel)) ggX1_load_X1_in
theorem dX1_load_0 : decode cX1_load 0 = .ok (.aload_n 0, 1) := by decide +kernel
theorem dX1_load_1 : decode cX1_load 1 = .ok (.iconst 0, 1) := by decide +kernel
theorem dX1_load_2 : decode cX1_load 2 = .ok (.putfield 16, 3) := by decide +kernel
theorem dX1_load_5 : decode cX1_load 5 = .ok (.iload_n 2, 1) := by decide +kernel
theorem dX1_load_6 : decode cX1_load 6 = .ok (.iconst 1, 1) := by decide +kernel
theorem dX1_load_7 : decode cX1_load 7 = .ok (.if_icmp .lt 26, 3) := by decide +kernel
theorem dX1_load_10 : decode cX1_load 10 = .ok (.iload_n 1, 1) := by decide +kernel
theorem dX1_load_11 : decode cX1_load 11 = .ok (.iload_n 2, 1) := by decide +kernel
theorem dX1_load_12 : decode cX1_load 12 = .ok (.aload_n 0, 1) := by decide +kernel
theorem dX1_load_13 : decode cX1_load 13 = .ok (.getfield 21, 3) := by decide +kernel
theorem dX1_load_16 : decode cX1_load 16 = .ok (.invokestatic 24, 3) := by decide +kernel
theorem dX1_load_19 : decode cX1_load 19 = .ok (.ifCond .eq 14, 3) := by decide +kernel
theorem dX1_load_22 : decode cX1_load 22 = .ok (.iload_n 3, 1) := by decide +kernel
theorem dX1_load_23 : decode cX1_load 23 = .ok (.iload_n 2, 1) := by decide +kernel
theorem dX1_load_24 : decode cX1_load 24 = .ok (.sipush 4096, 3) := by decide +kernel
theorem dX1_load_27 : decode cX1_load 27 = .ok (.invokestatic 24, 3) := by decide +kernel
theorem dX1_load_30 : decode cX1_load 30 = .ok (.ifCond .ne 5, 3) := by decide +kernel
theorem dX1_load_33 : decode cX1_load 33 = .ok (.iconst 0, 1) := by decide +kernel
theorem dX1_load_34 : decode cX1_load 34 = .ok (.ireturn, 1) := by decide +kernel
theorem dX1_load_35 : decode cX1_load 35 = .ok (.iconst 0, 1) := by decide +kernel
theorem dX1_load_36 : decode cX1_load 36 = .ok (.istore 4, 2) := by decide +kernel
theorem dX1_load_38 : decode cX1_load 38 = .ok (.iload 4, 2) := by decide +kernel
theorem dX1_load_40 : decode cX1_load 40 = .ok (.iload_n 2, 1) := by decide +kernel
theorem dX1_load_41 : decode cX1_load 41 = .ok (.if_icmp .ge 27, 3) := by decide +kernel
theorem dX1_load_44 : decode cX1_load 44 = .ok (.aload_n 0, 1) := by decide +kernel
theorem dX1_load_45 : decode cX1_load 45 = .ok (.getfield 7, 3) := by decide +kernel
theorem dX1_load_48 : decode cX1_load 48 = .ok (.iload_n 3, 1) := by decide +kernel
theorem dX1_load_49 : decode cX1_load 49 = .ok (.iload 4, 2) := by decide +kernel
theorem dX1_load_51 : decode cX1_load 51 = .ok (.iadd, 1) := by decide +kernel
theorem dX1_load_52 : decode cX1_load 52 = .ok (.aload_n 0, 1) := by decide +kernel
theorem dX1_load_53 : decode cX1_load 53 = .ok (.getfield 13, 3) := by decide +kernel
theorem dX1_load_56 : decode cX1_load 56 = .ok (.iload_n 1, 1) := by decide +kernel
theorem dX1_load_57 : decode cX1_load 57 = .ok (.iload 4, 2) := by decide +kernel
theorem dX1_load_59 : decode cX1_load 59 = .ok (.iadd, 1) := by decide +kernel
theorem dX1_load_60 : decode cX1_load 60 = .ok (.baload, 1) := by decide +kernel
theorem dX1_load_61 : decode cX1_load 61 = .ok (.bastore, 1) := by decide +kernel
theorem dX1_load_62 : decode cX1_load 62 = .ok (.iinc 4 1, 3) := by decide +kernel
theorem dX1_load_65 : decode cX1_load 65 = .ok (.goto (-27), 3) := by decide +kernel
theorem dX1_load_68 : decode cX1_load 68 = .ok (.iconst 1, 1) := by decide +kernel
theorem dX1_load_69 : decode cX1_load 69 = .ok (.ireturn, 1) := by decide +kernel
set_option maxRecDepth 20000 in
theorem ggX1_dump_X1_in : GoodIn wsX1_dump wsX1_in := goodIn_r _ [8] (by decide +kernel) (by decide +kernel)
set_option maxRecDepth 20000 in
theorem gX1_dump_X1_in : GoodIn wsX1_dump (va_wsS RX1 24 yX1_in wsX1_in) := goodIn_app (goodIn_of _ (by decide +kernel)) ggX1_dump_X1_in
theorem dX1_dump_0 : decode cX1_dump 0 = .ok (.aload_n 0, 1) := by decide +kernel
theorem dX1_dump_1 : decode cX1_dump 1 = .ok (.iconst 0, 1) := by decide +kernel
theorem dX1_dump_2 : decode cX1_dump 2 = .ok (.putfield 16, 3) := by decide +kernel
theorem dX1_dump_5 : decode cX1_dump 5 = .ok (.iload_n 2, 1) := by decide +kernel
theorem dX1_dump_6 : decode cX1_dump 6 = .ok (.iconst 1, 1) := by decide +kernel
theorem dX1_dump_7 : decode cX1_dump 7 = .ok (.if_icmp .lt 28, 3) := by decide +kernel
theorem dX1_dump_10 : decode cX1_dump 10 = .ok (.iload_n 1, 1) := by decide +kernel
theorem dX1_dump_11 : decode cX1_dump 11 = .ok (.iload_n 2, 1) := by decide +kernel
theorem dX1_dump_12 : decode cX1_dump 12 = .ok (.sipush 4096, 3) := by decide +kernel
theorem dX1_dump_15 : decode cX1_dump 15 = .ok (.invokestatic 24, 3) := by decide +kernel
theorem dX1_dump_18 : decode cX1_dump 18 = .ok (.ifCond .eq 17, 3) := by decide +kernel
theorem dX1_dump_21 : decode cX1_dump 21 = .ok (.aload_n 0, 1) := by decide +kernel
theorem dX1_dump_22 : decode cX1_dump 22 = .ok (.getfield 21, 3) := by decide +kernel
theorem dX1_dump_25 : decode cX1_dump 25 = .ok (.iload_n 2, 1) := by decide +kernel
theorem dX1_dump_26 : decode cX1_dump 26 = .ok (.sipush 512, 3) := by decide +kernel
theorem dX1_dump_29 : decode cX1_dump 29 = .ok (.invokestatic 24, 3) := by decide +kernel
theorem dX1_dump_32 : decode cX1_dump 32 = .ok (.ifCond .ne 5, 3) := by decide +kernel
theorem dX1_dump_35 : decode cX1_dump 35 = .ok (.iconst 0, 1) := by decide +kernel
theorem dX1_dump_36 : decode cX1_dump 36 = .ok (.ireturn, 1) := by decide +kernel
theorem dX1_dump_37 : decode cX1_dump 37 = .ok (.iconst 0, 1) := by decide +kernel
theorem dX1_dump_38 : decode cX1_dump 38 = .ok (.istore_n 3, 1) := by decide +kernel
theorem dX1_dump_39 : decode cX1_dump 39 = .ok (.iload_n 3, 1) := by decide +kernel
theorem dX1_dump_40 : decode cX1_dump 40 = .ok (.iload_n 2, 1) := by decide +kernel
theorem dX1_dump_41 : decode cX1_dump 41 = .ok (.if_icmp .ge 36, 3) := by decide +kernel
theorem dX1_dump_44 : decode cX1_dump 44 = .ok (.aload_n 0, 1) := by decide +kernel
theorem dX1_dump_45 : decode cX1_dump 45 = .ok (.getfield 13, 3) := by decide +kernel
theorem dX1_dump_48 : decode cX1_dump 48 = .ok (.aload_n 0, 1) := by decide +kernel
theorem dX1_dump_49 : decode cX1_dump 49 = .ok (.getfield 21, 3) := by decide +kernel
theorem dX1_dump_52 : decode cX1_dump 52 = .ok (.aload_n 0, 1) := by decide +kernel
theorem dX1_dump_53 : decode cX1_dump 53 = .ok (.getfield 7, 3) := by decide +kernel
theorem dX1_dump_56 : decode cX1_dump 56 = .ok (.iload_n 1, 1) := by decide +kernel
theorem dX1_dump_57 : decode cX1_dump 57 = .ok (.iload_n 3, 1) := by decide +kernel
theorem dX1_dump_58 : decode cX1_dump 58 = .ok (.iadd, 1) := by decide +kernel
theorem dX1_dump_59 : decode cX1_dump 59 = .ok (.baload, 1) := by decide +kernel
theorem dX1_dump_60 : decode cX1_dump 60 = .ok (.bastore, 1) := by decide +kernel
theorem dX1_dump_61 : decode cX1_dump 61 = .ok (.aload_n 0, 1) := by decide +kernel
theorem dX1_dump_62 : decode cX1_dump 62 = .ok (.dup, 1) := by decide +kernel
theorem dX1_dump_63 : decode cX1_dump 63 = .ok (.getfield 21, 3) := by decide +kernel
theorem dX1_dump_66 : decode cX1_dump 66 = .ok (.iconst 1, 1) := by decide +kernel
theorem dX1_dump_67 : decode cX1_dump 67 = .ok (.iadd, 1) := by decide +kernel
theorem dX1_dump_68 : decode cX1_dump 68 = .ok (.putfield 21, 3) := by decide +kernel
theorem dX1_dump_71 : decode cX1_dump 71 = .ok (.iinc 3 1, 3) := by decide +kernel
theorem dX1_dump_74 : decode cX1_dump 74 = .ok (.goto (-35), 3) := by decide +kernel
theorem dX1_dump_77 : decode cX1_dump 77 = .ok (.iconst 1, 1) := by decide +kernel
theorem dX1_dump_78 : decode cX1_dump 78 = .ok (.ireturn, 1) := by decide +kernel
set_option maxRecDepth 20000 in
theorem ggX1_check_X1_in : GoodIn wsX1_check wsX1_in := goodIn_r _ [6] (by decide +kernel) (by decide +kernel)
set_option maxRecDepth 20000 in
theorem gX1_check_X1_in : GoodIn wsX1_check (va_wsS RX1 24 yX1_in wsX1_in) := goodIn_app (goodIn_of _ (by decide +kernel)) ggX1_check_X1_in
set_option maxRecDepth 20000 in
theorem ggX1_check_X1_checkOf : GoodIn wsX1_check wsX1_checkOf := goodIn_r _ [9, 10] (by decide +kernel) (by decide +kernel)
set_option maxRecDepth 20000 in
theorem gX1_check_X1_checkOf : GoodIn wsX1_check (va_wsS RX1 28 yX1_checkOf wsX1_checkOf) := goodIn_app (goodIn_of _ (by decide +kernel)) ggX1_check_X1_checkOf
theorem dX1_check_0 : decode cX1_check 0 = .ok (.aload_n 0, 1) := by decide +kernel
theorem dX1_check_1 : decode cX1_check 1 = .ok (.iconst 0, 1) := by decide +kernel
theorem dX1_check_2 : decode cX1_check 2 = .ok (.putfield 16, 3) := by decide +kernel
theorem dX1_check_5 : decode cX1_check 5 = .ok (.iload_n 1, 1) := by decide +kernel
theorem dX1_check_6 : decode cX1_check 6 = .ok (.iload_n 2, 1) := by decide +kernel
theorem dX1_check_7 : decode cX1_check 7 = .ok (.sipush 4096, 3) := by decide +kernel
theorem dX1_check_10 : decode cX1_check 10 = .ok (.invokestatic 24, 3) := by decide +kernel
theorem dX1_check_13 : decode cX1_check 13 = .ok (.ifCond .eq 15, 3) := by decide +kernel
theorem dX1_check_16 : decode cX1_check 16 = .ok (.aload_n 0, 1) := by decide +kernel
theorem dX1_check_17 : decode cX1_check 17 = .ok (.getfield 7, 3) := by decide +kernel
theorem dX1_check_20 : decode cX1_check 20 = .ok (.iload_n 1, 1) := by decide +kernel
theorem dX1_check_21 : decode cX1_check 21 = .ok (.iload_n 2, 1) := by decide +kernel
theorem dX1_check_22 : decode cX1_check 22 = .ok (.invokestatic 28, 3) := by decide +kernel
theorem dX1_check_25 : decode cX1_check 25 = .ok (.goto 4, 3) := by decide +kernel
theorem dX1_check_28 : decode cX1_check 28 = .ok (.iconst (-1), 1) := by decide +kernel
theorem dX1_check_29 : decode cX1_check 29 = .ok (.ireturn, 1) := by decide +kernel
set_option maxRecDepth 20000 in
theorem ggX1_rowCheck_X1_in : GoodIn wsX1_rowCheck wsX1_in := goodIn_r _ [7] (by decide +kernel) (by decide +kernel)
set_option maxRecDepth 20000 in
theorem gX1_rowCheck_X1_in : GoodIn wsX1_rowCheck (va_wsS RX1 24 yX1_in wsX1_in) := goodIn_app (goodIn_of _ (by decide +kernel)) ggX1_rowCheck_X1_in
set_option maxRecDepth 20000 in
theorem ggX1_rowCheck_X1_checkOf : GoodIn wsX1_rowCheck wsX1_checkOf := goodIn_r _ [10, 11] (by decide +kernel) (by decide +kernel)
set_option maxRecDepth 20000 in
theorem gX1_rowCheck_X1_checkOf : GoodIn wsX1_rowCheck (va_wsS RX1 28 yX1_checkOf wsX1_checkOf) := goodIn_app (goodIn_of _ (by decide +kernel)) ggX1_rowCheck_X1_checkOf
theorem dX1_rowCheck_0 : decode cX1_rowCheck 0 = .ok (.aload_n 0, 1) := by decide +kernel
theorem dX1_rowCheck_1 : decode cX1_rowCheck 1 = .ok (.iconst 0, 1) := by decide +kernel
theorem dX1_rowCheck_2 : decode cX1_rowCheck 2 = .ok (.putfield 16, 3) := by decide +kernel
theorem dX1_rowCheck_5 : decode cX1_rowCheck 5 = .ok (.iconst 0, 1) := by decide +kernel
theorem dX1_rowCheck_6 : decode cX1_rowCheck 6 = .ok (.iload_n 1, 1) := by decide +kernel
theorem dX1_rowCheck_7 : decode cX1_rowCheck 7 = .ok (.aload_n 0, 1) := by decide +kernel
theorem dX1_rowCheck_8 : decode cX1_rowCheck 8 = .ok (.getfield 21, 3) := by decide +kernel
theorem dX1_rowCheck_11 : decode cX1_rowCheck 11 = .ok (.invokestatic 24, 3) := by decide +kernel
theorem dX1_rowCheck_14 : decode cX1_rowCheck 14 = .ok (.ifCond .eq 15, 3) := by decide +kernel
theorem dX1_rowCheck_17 : decode cX1_rowCheck 17 = .ok (.aload_n 0, 1) := by decide +kernel
theorem dX1_rowCheck_18 : decode cX1_rowCheck 18 = .ok (.getfield 13, 3) := by decide +kernel
theorem dX1_rowCheck_21 : decode cX1_rowCheck 21 = .ok (.iconst 0, 1) := by decide +kernel
theorem dX1_rowCheck_22 : decode cX1_rowCheck 22 = .ok (.iload_n 1, 1) := by decide +kernel
theorem dX1_rowCheck_23 : decode cX1_rowCheck 23 = .ok (.invokestatic 28, 3) := by decide +kernel
theorem dX1_rowCheck_26 : decode cX1_rowCheck 26 = .ok (.goto 4, 3) := by decide +kernel
theorem dX1_rowCheck_29 : decode cX1_rowCheck 29 = .ok (.iconst (-1), 1) := by decide +kernel
theorem dX1_rowCheck_30 : decode cX1_rowCheck 30 = .ok (.ireturn, 1) := by decide +kernel
set_option maxRecDepth 20000 in
theorem ggX1_seal_X1_checkOf : GoodIn wsX1_seal wsX1_checkOf := goodIn_r _ [7, 8] (by decide +kernel) (by decide +kernel)
set_option maxRecDepth 20000 in
theorem gX1_seal_X1_checkOf : GoodIn wsX1_seal (va_wsS RX1 28 yX1_checkOf wsX1_checkOf) := goodIn_app (goodIn_of _ (by decide +kernel)) ggX1_seal_X1_checkOf
theorem dX1_seal_0 : decode cX1_seal 0 = .ok (.aload_n 0, 1) := by decide +kernel
theorem dX1_seal_1 : decode cX1_seal 1 = .ok (.iconst 0, 1) := by decide +kernel
theorem dX1_seal_2 : decode cX1_seal 2 = .ok (.putfield 16, 3) := by decide +kernel
theorem dX1_seal_5 : decode cX1_seal 5 = .ok (.aload_n 0, 1) := by decide +kernel
theorem dX1_seal_6 : decode cX1_seal 6 = .ok (.getfield 21, 3) := by decide +kernel
theorem dX1_seal_9 : decode cX1_seal 9 = .ok (.sipush 510, 3) := by decide +kernel
theorem dX1_seal_12 : decode cX1_seal 12 = .ok (.if_icmp .le 5, 3) := by decide +kernel
theorem dX1_seal_15 : decode cX1_seal 15 = .ok (.iconst 0, 1) := by decide +kernel
theorem dX1_seal_16 : decode cX1_seal 16 = .ok (.ireturn, 1) := by decide +kernel
theorem dX1_seal_17 : decode cX1_seal 17 = .ok (.aload_n 0, 1) := by decide +kernel
theorem dX1_seal_18 : decode cX1_seal 18 = .ok (.getfield 13, 3) := by decide +kernel
theorem dX1_seal_21 : decode cX1_seal 21 = .ok (.iconst 0, 1) := by decide +kernel
theorem dX1_seal_22 : decode cX1_seal 22 = .ok (.aload_n 0, 1) := by decide +kernel
theorem dX1_seal_23 : decode cX1_seal 23 = .ok (.getfield 21, 3) := by decide +kernel
theorem dX1_seal_26 : decode cX1_seal 26 = .ok (.invokestatic 28, 3) := by decide +kernel
theorem dX1_seal_29 : decode cX1_seal 29 = .ok (.istore_n 1, 1) := by decide +kernel
theorem dX1_seal_30 : decode cX1_seal 30 = .ok (.aload_n 0, 1) := by decide +kernel
theorem dX1_seal_31 : decode cX1_seal 31 = .ok (.getfield 13, 3) := by decide +kernel
theorem dX1_seal_34 : decode cX1_seal 34 = .ok (.aload_n 0, 1) := by decide +kernel
theorem dX1_seal_35 : decode cX1_seal 35 = .ok (.getfield 21, 3) := by decide +kernel
theorem dX1_seal_38 : decode cX1_seal 38 = .ok (.iload_n 1, 1) := by decide +kernel
theorem dX1_seal_39 : decode cX1_seal 39 = .ok (.bipush 8, 2) := by decide +kernel
theorem dX1_seal_41 : decode cX1_seal 41 = .ok (.ishr, 1) := by decide +kernel
theorem dX1_seal_42 : decode cX1_seal 42 = .ok (.i2b, 1) := by decide +kernel
theorem dX1_seal_43 : decode cX1_seal 43 = .ok (.bastore, 1) := by decide +kernel
theorem dX1_seal_44 : decode cX1_seal 44 = .ok (.aload_n 0, 1) := by decide +kernel
theorem dX1_seal_45 : decode cX1_seal 45 = .ok (.getfield 13, 3) := by decide +kernel
theorem dX1_seal_48 : decode cX1_seal 48 = .ok (.aload_n 0, 1) := by decide +kernel
theorem dX1_seal_49 : decode cX1_seal 49 = .ok (.getfield 21, 3) := by decide +kernel
theorem dX1_seal_52 : decode cX1_seal 52 = .ok (.iconst 1, 1) := by decide +kernel
theorem dX1_seal_53 : decode cX1_seal 53 = .ok (.iadd, 1) := by decide +kernel
theorem dX1_seal_54 : decode cX1_seal 54 = .ok (.iload_n 1, 1) := by decide +kernel
theorem dX1_seal_55 : decode cX1_seal 55 = .ok (.i2b, 1) := by decide +kernel
theorem dX1_seal_56 : decode cX1_seal 56 = .ok (.bastore, 1) := by decide +kernel
theorem dX1_seal_57 : decode cX1_seal 57 = .ok (.aload_n 0, 1) := by decide +kernel
theorem dX1_seal_58 : decode cX1_seal 58 = .ok (.dup, 1) := by decide +kernel
theorem dX1_seal_59 : decode cX1_seal 59 = .ok (.getfield 21, 3) := by decide +kernel
theorem dX1_seal_62 : decode cX1_seal 62 = .ok (.iconst 2, 1) := by decide +kernel
theorem dX1_seal_63 : decode cX1_seal 63 = .ok (.iadd, 1) := by decide +kernel
theorem dX1_seal_64 : decode cX1_seal 64 = .ok (.putfield 21, 3) := by decide +kernel
theorem dX1_seal_67 : decode cX1_seal 67 = .ok (.iconst 1, 1) := by decide +kernel
theorem dX1_seal_68 : decode cX1_seal 68 = .ok (.ireturn, 1) := by decide +kernel
theorem dX1_at_0 : decode cX1_at 0 = .ok (.aload_n 0, 1) := by decide +kernel
theorem dX1_at_1 : decode cX1_at 1 = .ok (.iconst 0, 1) := by decide +kernel
theorem dX1_at_2 : decode cX1_at 2 = .ok (.putfield 16, 3) := by decide +kernel
theorem dX1_at_5 : decode cX1_at 5 = .ok (.iload_n 1, 1) := by decide +kernel
theorem dX1_at_6 : decode cX1_at 6 = .ok (.ifCond .lt 10, 3) := by decide +kernel
theorem dX1_at_9 : decode cX1_at 9 = .ok (.iload_n 1, 1) := by decide +kernel
theorem dX1_at_10 : decode cX1_at 10 = .ok (.sipush 4096, 3) := by decide +kernel
theorem dX1_at_13 : decode cX1_at 13 = .ok (.if_icmp .lt 7, 3) := by decide +kernel
theorem dX1_at_16 : decode cX1_at 16 = .ok (.iconst (-1), 1) := by decide +kernel
theorem dX1_at_17 : decode cX1_at 17 = .ok (.goto 13, 3) := by decide +kernel
theorem dX1_at_20 : decode cX1_at 20 = .ok (.aload_n 0, 1) := by decide +kernel
theorem dX1_at_21 : decode cX1_at 21 = .ok (.getfield 7, 3) := by decide +kernel
theorem dX1_at_24 : decode cX1_at 24 = .ok (.iload_n 1, 1) := by decide +kernel
theorem dX1_at_25 : decode cX1_at 25 = .ok (.baload, 1) := by decide +kernel
theorem dX1_at_26 : decode cX1_at 26 = .ok (.sipush 255, 3) := by decide +kernel
theorem dX1_at_29 : decode cX1_at 29 = .ok (.iand, 1) := by decide +kernel
theorem dX1_at_30 : decode cX1_at 30 = .ok (.ireturn, 1) := by decide +kernel
set_option maxRecDepth 20000 in
theorem ggL_law_X0_init : GoodIn wsL_law wsX0_init := goodIn_r _ [8, 9, 10, 11, 12, 13, 14, 15, 136, 137, 138] (by decide +kernel) (by decide +kernel)
set_option maxRecDepth 20000 in
theorem gL_law_X0_init : GoodIn wsL_law (wsX0_init) := ggL_law_X0_init
set_option maxRecDepth 20000 in
theorem ggL_law_X1_init : GoodIn wsL_law wsX1_init := goodIn_r _ [18, 19, 10, 11, 20, 21, 22, 139, 140, 141, 142] (by decide +kernel) (by decide +kernel)
set_option maxRecDepth 20000 in
theorem gL_law_X1_init : GoodIn wsL_law (wsX1_init) := ggL_law_X1_init
set_option maxRecDepth 20000 in
theorem ggL_law_X0_put : GoodIn wsL_law wsX0_put := goodIn_r _ [26, 15, 27, 28, 29, 2, 30, 31, 32, 33, 34, 14, 136, 137, 138] (by decide +kernel) (by decide +kernel)
set_option maxRecDepth 20000 in
theorem gL_law_X0_put : GoodIn wsL_law (wsV RL 13 RX0 yX0_put wsX0_put) := goodIn_app (goodIn_of _ (by decide +kernel)) ggL_law_X0_put
set_option maxRecDepth 20000 in
theorem ggL_law_X1_put : GoodIn wsL_law wsX1_put := goodIn_r _ [38, 39, 40, 22, 139, 140, 141, 142] (by decide +kernel) (by decide +kernel)
set_option maxRecDepth 20000 in
theorem gL_law_X1_put : GoodIn wsL_law (wsV RL 17 RX1 yX1_put wsX1_put) := goodIn_app (goodIn_of _ (by decide +kernel)) ggL_law_X1_put
set_option maxRecDepth 20000 in
theorem ggL_law_X0_cut : GoodIn wsL_law wsX0_cut := goodIn_r _ [44, 15, 45, 46, 2, 47, 136, 137, 138] (by decide +kernel) (by decide +kernel)
set_option maxRecDepth 20000 in
theorem gL_law_X0_cut : GoodIn wsL_law (wsV RL 18 RX0 yX0_cut wsX0_cut) := goodIn_app (goodIn_of _ (by decide +kernel)) ggL_law_X0_cut
set_option maxRecDepth 20000 in
theorem ggL_law_X1_cut : GoodIn wsL_law wsX1_cut := goodIn_r _ [51, 39, 40, 139, 140, 141, 142] (by decide +kernel) (by decide +kernel)
set_option maxRecDepth 20000 in
theorem gL_law_X1_cut : GoodIn wsL_law (wsV RL 22 RX1 yX1_cut wsX1_cut) := goodIn_app (goodIn_of _ (by decide +kernel)) ggL_law_X1_cut
set_option maxRecDepth 20000 in
theorem ggL_law_X0_size : GoodIn wsL_law wsX0_size := goodIn_r _ [55, 15, 136, 137, 138] (by decide +kernel) (by decide +kernel)
set_option maxRecDepth 20000 in
theorem gL_law_X0_size : GoodIn wsL_law (wsV RL 23 RX0 yX0_size wsX0_size) := goodIn_app (goodIn_of _ (by decide +kernel)) ggL_law_X0_size
set_option maxRecDepth 20000 in
theorem ggL_law_X1_size : GoodIn wsL_law wsX1_size := goodIn_r _ [59, 39, 40, 139, 140, 141, 142] (by decide +kernel) (by decide +kernel)
set_option maxRecDepth 20000 in
theorem gL_law_X1_size : GoodIn wsL_law (wsV RL 27 RX1 yX1_size wsX1_size) := goodIn_app (goodIn_of _ (by decide +kernel)) ggL_law_X1_size
set_option maxRecDepth 20000 in
theorem ggL_law_X0_rowAt : GoodIn wsL_law wsX0_rowAt := goodIn_r _ [63, 15, 14, 45, 46, 2, 47, 136, 137, 138] (by decide +kernel) (by decide +kernel)
set_option maxRecDepth 20000 in
theorem gL_law_X0_rowAt : GoodIn wsL_law (wsV RL 28 RX0 yX0_rowAt wsX0_rowAt) := goodIn_app (goodIn_of _ (by decide +kernel)) ggL_law_X0_rowAt
set_option maxRecDepth 20000 in
theorem ggL_law_X1_rowAt : GoodIn wsL_law wsX1_rowAt := goodIn_r _ [67, 39, 40, 22, 139, 140, 141, 142] (by decide +kernel) (by decide +kernel)
set_option maxRecDepth 20000 in
theorem gL_law_X1_rowAt : GoodIn wsL_law (wsV RL 31 RX1 yX1_rowAt wsX1_rowAt) := goodIn_app (goodIn_of _ (by decide +kernel)) ggL_law_X1_rowAt
set_option maxRecDepth 20000 in
theorem ggL_law_X0_load : GoodIn wsL_law wsX0_load := goodIn_r _ [71, 15, 14, 13, 72, 73, 74, 75, 45, 46, 2, 47, 136, 137, 138] (by decide +kernel) (by decide +kernel)
set_option maxRecDepth 20000 in
theorem gL_law_X0_load : GoodIn wsL_law (wsV RL 32 RX0 yX0_load wsX0_load) := goodIn_app (goodIn_of _ (by decide +kernel)) ggL_law_X0_load
set_option maxRecDepth 20000 in
theorem ggL_law_X1_load : GoodIn wsL_law wsX1_load := goodIn_r _ [79, 39, 40, 21, 22, 80, 81, 5, 82, 139, 140, 141, 142] (by decide +kernel) (by decide +kernel)
set_option maxRecDepth 20000 in
theorem gL_law_X1_load : GoodIn wsL_law (wsV RL 36 RX1 yX1_load wsX1_load) := goodIn_app (goodIn_of _ (by decide +kernel)) ggL_law_X1_load
set_option maxRecDepth 20000 in
theorem ggL_law_X0_dump : GoodIn wsL_law wsX0_dump := goodIn_r _ [86, 13, 14, 15, 72, 73, 74, 75, 45, 46, 2, 47, 27, 28, 29, 30, 136, 137, 138] (by decide +kernel) (by decide +kernel)
set_option maxRecDepth 20000 in
theorem gL_law_X0_dump : GoodIn wsL_law (wsV RL 37 RX0 yX0_dump wsX0_dump) := goodIn_app (goodIn_of _ (by decide +kernel)) ggL_law_X0_dump
set_option maxRecDepth 20000 in
theorem ggL_law_X1_dump : GoodIn wsL_law wsX1_dump := goodIn_r _ [90, 39, 40, 22, 21, 80, 81, 5, 82, 139, 140, 141, 142] (by decide +kernel) (by decide +kernel)
set_option maxRecDepth 20000 in
theorem gL_law_X1_dump : GoodIn wsL_law (wsV RL 41 RX1 yX1_dump wsX1_dump) := goodIn_app (goodIn_of _ (by decide +kernel)) ggL_law_X1_dump
set_option maxRecDepth 20000 in
theorem ggL_law_X0_check : GoodIn wsL_law wsX0_check := goodIn_r _ [94, 13, 45, 46, 2, 47, 95, 96, 97, 98, 99, 100, 101, 102, 103, 136, 137, 138] (by decide +kernel) (by decide +kernel)
set_option maxRecDepth 20000 in
theorem gL_law_X0_check : GoodIn wsL_law (wsV RL 42 RX0 yX0_check wsX0_check) := goodIn_app (goodIn_of _ (by decide +kernel)) ggL_law_X0_check
set_option maxRecDepth 20000 in
theorem ggL_law_X1_check : GoodIn wsL_law wsX1_check := goodIn_r _ [107, 39, 21, 80, 81, 5, 82, 108, 109, 110, 111, 139, 140, 141, 142] (by decide +kernel) (by decide +kernel)
set_option maxRecDepth 20000 in
theorem gL_law_X1_check : GoodIn wsL_law (wsV RL 46 RX1 yX1_check wsX1_check) := goodIn_app (goodIn_of _ (by decide +kernel)) ggL_law_X1_check
set_option maxRecDepth 20000 in
theorem ggL_law_X0_rowCheck : GoodIn wsL_law wsX0_rowCheck := goodIn_r _ [115, 15, 14, 45, 46, 2, 47, 95, 96, 97, 98, 99, 100, 101, 102, 103, 136, 137, 138] (by decide +kernel) (by decide +kernel)
set_option maxRecDepth 20000 in
theorem gL_law_X0_rowCheck : GoodIn wsL_law (wsV RL 47 RX0 yX0_rowCheck wsX0_rowCheck) := goodIn_app (goodIn_of _ (by decide +kernel)) ggL_law_X0_rowCheck
set_option maxRecDepth 20000 in
theorem ggL_law_X1_rowCheck : GoodIn wsL_law wsX1_rowCheck := goodIn_r _ [119, 39, 40, 22, 80, 81, 5, 82, 108, 109, 110, 111, 139, 140, 141, 142] (by decide +kernel) (by decide +kernel)
set_option maxRecDepth 20000 in
theorem gL_law_X1_rowCheck : GoodIn wsL_law (wsV RL 50 RX1 yX1_rowCheck wsX1_rowCheck) := goodIn_app (goodIn_of _ (by decide +kernel)) ggL_law_X1_rowCheck
set_option maxRecDepth 20000 in
theorem ggL_law_X0_seal : GoodIn wsL_law wsX0_seal := goodIn_r _ [123, 14, 15, 27, 28, 29, 2, 30, 95, 96, 97, 98, 99, 100, 101, 102, 103, 31, 32, 33, 34, 136, 137, 138] (by decide +kernel) (by decide +kernel)
set_option maxRecDepth 20000 in
theorem gL_law_X0_seal : GoodIn wsL_law (wsV RL 51 RX0 yX0_seal wsX0_seal) := goodIn_app (goodIn_of _ (by decide +kernel)) ggL_law_X0_seal
set_option maxRecDepth 20000 in
theorem ggL_law_X1_seal : GoodIn wsL_law wsX1_seal := goodIn_r _ [127, 39, 40, 22, 108, 109, 5, 110, 111, 139, 140, 141, 142] (by decide +kernel) (by decide +kernel)
set_option maxRecDepth 20000 in
theorem gL_law_X1_seal : GoodIn wsL_law (wsV RL 55 RX1 yX1_seal wsX1_seal) := goodIn_app (goodIn_of _ (by decide +kernel)) ggL_law_X1_seal
set_option maxRecDepth 20000 in
theorem ggL_law_X0_at : GoodIn wsL_law wsX0_at := goodIn_r _ [131, 13, 45, 46, 2, 47, 136, 137, 138] (by decide +kernel) (by decide +kernel)
set_option maxRecDepth 20000 in
theorem gL_law_X0_at : GoodIn wsL_law (wsV RL 56 RX0 yX0_at wsX0_at) := goodIn_app (goodIn_of _ (by decide +kernel)) ggL_law_X0_at
set_option maxRecDepth 20000 in
theorem ggL_law_X1_at : GoodIn wsL_law wsX1_at := goodIn_r _ [135, 39, 21, 139, 140, 141, 142] (by decide +kernel) (by decide +kernel)
set_option maxRecDepth 20000 in
theorem gL_law_X1_at : GoodIn wsL_law (wsV RL 59 RX1 yX1_at wsX1_at) := goodIn_app (goodIn_of _ (by decide +kernel)) ggL_law_X1_at
theorem dL_law_0 : decode cL_law 0 = .ok (.new 7, 3) := by decide +kernel
theorem dL_law_3 : decode cL_law 3 = .ok (.dup, 1) := by decide +kernel
theorem dL_law_4 : decode cL_law 4 = .ok (.invokespecial 9, 3) := by decide +kernel
theorem dL_law_7 : decode cL_law 7 = .ok (.astore_n 1, 1) := by decide +kernel
theorem dL_law_8 : decode cL_law 8 = .ok (.new 10, 3) := by decide +kernel
theorem dL_law_11 : decode cL_law 11 = .ok (.dup, 1) := by decide +kernel
theorem dL_law_12 : decode cL_law 12 = .ok (.invokespecial 12, 3) := by decide +kernel
theorem dL_law_15 : decode cL_law 15 = .ok (.astore_n 2, 1) := by decide +kernel
theorem dL_law_16 : decode cL_law 16 = .ok (.iconst 0, 1) := by decide +kernel
theorem dL_law_17 : decode cL_law 17 = .ok (.istore_n 3, 1) := by decide +kernel
theorem dL_law_18 : decode cL_law 18 = .ok (.iload_n 3, 1) := by decide +kernel
theorem dL_law_19 : decode cL_law 19 = .ok (.aload_n 0, 1) := by decide +kernel
theorem dL_law_20 : decode cL_law 20 = .ok (.arraylength, 1) := by decide +kernel
theorem dL_law_21 : decode cL_law 21 = .ok (.iconst 4, 1) := by decide +kernel
theorem dL_law_22 : decode cL_law 22 = .ok (.isub, 1) := by decide +kernel
theorem dL_law_23 : decode cL_law 23 = .ok (.if_icmp .gt 321, 3) := by decide +kernel
theorem dL_law_26 : decode cL_law 26 = .ok (.aload_n 0, 1) := by decide +kernel
theorem dL_law_27 : decode cL_law 27 = .ok (.iload_n 3, 1) := by decide +kernel
theorem dL_law_28 : decode cL_law 28 = .ok (.iaload, 1) := by decide +kernel
theorem dL_law_29 : decode cL_law 29 = .ok (.bipush 15, 2) := by decide +kernel
theorem dL_law_31 : decode cL_law 31 = .ok (.iand, 1) := by decide +kernel
theorem dL_law_32 : decode cL_law 32 = .ok (.tableswitch 306 0 9 #[56, 79, 102, 115, 138, 181, 214, 247, 270, 283], 56) := by decide +kernel
theorem dL_law_88 : decode cL_law 88 = .ok (.aload_n 1, 1) := by decide +kernel
theorem dL_law_89 : decode cL_law 89 = .ok (.aload_n 0, 1) := by decide +kernel
theorem dL_law_90 : decode cL_law 90 = .ok (.iload_n 3, 1) := by decide +kernel
theorem dL_law_91 : decode cL_law 91 = .ok (.iconst 1, 1) := by decide +kernel
theorem dL_law_92 : decode cL_law 92 = .ok (.iadd, 1) := by decide +kernel
theorem dL_law_93 : decode cL_law 93 = .ok (.iaload, 1) := by decide +kernel
theorem dL_law_94 : decode cL_law 94 = .ok (.invokevirtual 13, 3) := by decide +kernel
theorem dL_law_97 : decode cL_law 97 = .ok (.aload_n 2, 1) := by decide +kernel
theorem dL_law_98 : decode cL_law 98 = .ok (.aload_n 0, 1) := by decide +kernel
theorem dL_law_99 : decode cL_law 99 = .ok (.iload_n 3, 1) := by decide +kernel
theorem dL_law_100 : decode cL_law 100 = .ok (.iconst 1, 1) := by decide +kernel
theorem dL_law_101 : decode cL_law 101 = .ok (.iadd, 1) := by decide +kernel
theorem dL_law_102 : decode cL_law 102 = .ok (.iaload, 1) := by decide +kernel
theorem dL_law_103 : decode cL_law 103 = .ok (.invokevirtual 17, 3) := by decide +kernel
theorem dL_law_106 : decode cL_law 106 = .ok (.if_icmp .eq 232, 3) := by decide +kernel
theorem dL_law_109 : decode cL_law 109 = .ok (.iconst 0, 1) := by decide +kernel
theorem dL_law_110 : decode cL_law 110 = .ok (.ireturn, 1) := by decide +kernel
theorem dL_law_111 : decode cL_law 111 = .ok (.aload_n 1, 1) := by decide +kernel
theorem dL_law_112 : decode cL_law 112 = .ok (.aload_n 0, 1) := by decide +kernel
theorem dL_law_113 : decode cL_law 113 = .ok (.iload_n 3, 1) := by decide +kernel
theorem dL_law_114 : decode cL_law 114 = .ok (.iconst 1, 1) := by decide +kernel
theorem dL_law_115 : decode cL_law 115 = .ok (.iadd, 1) := by decide +kernel
theorem dL_law_116 : decode cL_law 116 = .ok (.iaload, 1) := by decide +kernel
theorem dL_law_117 : decode cL_law 117 = .ok (.invokevirtual 18, 3) := by decide +kernel
theorem dL_law_120 : decode cL_law 120 = .ok (.aload_n 2, 1) := by decide +kernel
theorem dL_law_121 : decode cL_law 121 = .ok (.aload_n 0, 1) := by decide +kernel
theorem dL_law_122 : decode cL_law 122 = .ok (.iload_n 3, 1) := by decide +kernel
theorem dL_law_123 : decode cL_law 123 = .ok (.iconst 1, 1) := by decide +kernel
theorem dL_law_124 : decode cL_law 124 = .ok (.iadd, 1) := by decide +kernel
theorem dL_law_125 : decode cL_law 125 = .ok (.iaload, 1) := by decide +kernel
theorem dL_law_126 : decode cL_law 126 = .ok (.invokevirtual 22, 3) := by decide +kernel
theorem dL_law_129 : decode cL_law 129 = .ok (.if_icmp .eq 209, 3) := by decide +kernel
theorem dL_law_132 : decode cL_law 132 = .ok (.iconst 0, 1) := by decide +kernel
theorem dL_law_133 : decode cL_law 133 = .ok (.ireturn, 1) := by decide +kernel
theorem dL_law_134 : decode cL_law 134 = .ok (.aload_n 1, 1) := by decide +kernel
theorem dL_law_135 : decode cL_law 135 = .ok (.invokevirtual 23, 3) := by decide +kernel
theorem dL_law_138 : decode cL_law 138 = .ok (.aload_n 2, 1) := by decide +kernel
theorem dL_law_139 : decode cL_law 139 = .ok (.invokevirtual 27, 3) := by decide +kernel
theorem dL_law_142 : decode cL_law 142 = .ok (.if_icmp .eq 196, 3) := by decide +kernel
theorem dL_law_145 : decode cL_law 145 = .ok (.iconst 0, 1) := by decide +kernel
theorem dL_law_146 : decode cL_law 146 = .ok (.ireturn, 1) := by decide +kernel
theorem dL_law_147 : decode cL_law 147 = .ok (.aload_n 1, 1) := by decide +kernel
theorem dL_law_148 : decode cL_law 148 = .ok (.aload_n 0, 1) := by decide +kernel
theorem dL_law_149 : decode cL_law 149 = .ok (.iload_n 3, 1) := by decide +kernel
theorem dL_law_150 : decode cL_law 150 = .ok (.iconst 1, 1) := by decide +kernel
theorem dL_law_151 : decode cL_law 151 = .ok (.iadd, 1) := by decide +kernel
theorem dL_law_152 : decode cL_law 152 = .ok (.iaload, 1) := by decide +kernel
theorem dL_law_153 : decode cL_law 153 = .ok (.invokevirtual 28, 3) := by decide +kernel
theorem dL_law_156 : decode cL_law 156 = .ok (.aload_n 2, 1) := by decide +kernel
theorem dL_law_157 : decode cL_law 157 = .ok (.aload_n 0, 1) := by decide +kernel
theorem dL_law_158 : decode cL_law 158 = .ok (.iload_n 3, 1) := by decide +kernel
theorem dL_law_159 : decode cL_law 159 = .ok (.iconst 1, 1) := by decide +kernel
theorem dL_law_160 : decode cL_law 160 = .ok (.iadd, 1) := by decide +kernel
theorem dL_law_161 : decode cL_law 161 = .ok (.iaload, 1) := by decide +kernel
theorem dL_law_162 : decode cL_law 162 = .ok (.invokevirtual 31, 3) := by decide +kernel
theorem dL_law_165 : decode cL_law 165 = .ok (.if_icmp .eq 173, 3) := by decide +kernel
theorem dL_law_168 : decode cL_law 168 = .ok (.iconst 0, 1) := by decide +kernel
theorem dL_law_169 : decode cL_law 169 = .ok (.ireturn, 1) := by decide +kernel
theorem dL_law_170 : decode cL_law 170 = .ok (.aload_n 1, 1) := by decide +kernel
theorem dL_law_171 : decode cL_law 171 = .ok (.aload_n 0, 1) := by decide +kernel
theorem dL_law_172 : decode cL_law 172 = .ok (.iload_n 3, 1) := by decide +kernel
theorem dL_law_173 : decode cL_law 173 = .ok (.iconst 1, 1) := by decide +kernel
theorem dL_law_174 : decode cL_law 174 = .ok (.iadd, 1) := by decide +kernel
theorem dL_law_175 : decode cL_law 175 = .ok (.iaload, 1) := by decide +kernel
theorem dL_law_176 : decode cL_law 176 = .ok (.aload_n 0, 1) := by decide +kernel
theorem dL_law_177 : decode cL_law 177 = .ok (.iload_n 3, 1) := by decide +kernel
theorem dL_law_178 : decode cL_law 178 = .ok (.iconst 2, 1) := by decide +kernel
theorem dL_law_179 : decode cL_law 179 = .ok (.iadd, 1) := by decide +kernel
theorem dL_law_180 : decode cL_law 180 = .ok (.iaload, 1) := by decide +kernel
theorem dL_law_181 : decode cL_law 181 = .ok (.aload_n 0, 1) := by decide +kernel
theorem dL_law_182 : decode cL_law 182 = .ok (.iload_n 3, 1) := by decide +kernel
theorem dL_law_183 : decode cL_law 183 = .ok (.iconst 3, 1) := by decide +kernel
theorem dL_law_184 : decode cL_law 184 = .ok (.iadd, 1) := by decide +kernel
theorem dL_law_185 : decode cL_law 185 = .ok (.iaload, 1) := by decide +kernel
theorem dL_law_186 : decode cL_law 186 = .ok (.invokevirtual 32, 3) := by decide +kernel
theorem dL_law_189 : decode cL_law 189 = .ok (.aload_n 2, 1) := by decide +kernel
theorem dL_law_190 : decode cL_law 190 = .ok (.aload_n 0, 1) := by decide +kernel
theorem dL_law_191 : decode cL_law 191 = .ok (.iload_n 3, 1) := by decide +kernel
theorem dL_law_192 : decode cL_law 192 = .ok (.iconst 1, 1) := by decide +kernel
theorem dL_law_193 : decode cL_law 193 = .ok (.iadd, 1) := by decide +kernel
theorem dL_law_194 : decode cL_law 194 = .ok (.iaload, 1) := by decide +kernel
theorem dL_law_195 : decode cL_law 195 = .ok (.aload_n 0, 1) := by decide +kernel
theorem dL_law_196 : decode cL_law 196 = .ok (.iload_n 3, 1) := by decide +kernel
theorem dL_law_197 : decode cL_law 197 = .ok (.iconst 2, 1) := by decide +kernel
theorem dL_law_198 : decode cL_law 198 = .ok (.iadd, 1) := by decide +kernel
theorem dL_law_199 : decode cL_law 199 = .ok (.iaload, 1) := by decide +kernel
theorem dL_law_200 : decode cL_law 200 = .ok (.aload_n 0, 1) := by decide +kernel
theorem dL_law_201 : decode cL_law 201 = .ok (.iload_n 3, 1) := by decide +kernel
theorem dL_law_202 : decode cL_law 202 = .ok (.iconst 3, 1) := by decide +kernel
theorem dL_law_203 : decode cL_law 203 = .ok (.iadd, 1) := by decide +kernel
theorem dL_law_204 : decode cL_law 204 = .ok (.iaload, 1) := by decide +kernel
theorem dL_law_205 : decode cL_law 205 = .ok (.invokevirtual 36, 3) := by decide +kernel
theorem dL_law_208 : decode cL_law 208 = .ok (.if_icmp .eq 130, 3) := by decide +kernel
theorem dL_law_211 : decode cL_law 211 = .ok (.iconst 0, 1) := by decide +kernel
theorem dL_law_212 : decode cL_law 212 = .ok (.ireturn, 1) := by decide +kernel
theorem dL_law_213 : decode cL_law 213 = .ok (.aload_n 1, 1) := by decide +kernel
theorem dL_law_214 : decode cL_law 214 = .ok (.aload_n 0, 1) := by decide +kernel
theorem dL_law_215 : decode cL_law 215 = .ok (.iload_n 3, 1) := by decide +kernel
theorem dL_law_216 : decode cL_law 216 = .ok (.iconst 1, 1) := by decide +kernel
theorem dL_law_217 : decode cL_law 217 = .ok (.iadd, 1) := by decide +kernel
theorem dL_law_218 : decode cL_law 218 = .ok (.iaload, 1) := by decide +kernel
theorem dL_law_219 : decode cL_law 219 = .ok (.aload_n 0, 1) := by decide +kernel
theorem dL_law_220 : decode cL_law 220 = .ok (.iload_n 3, 1) := by decide +kernel
theorem dL_law_221 : decode cL_law 221 = .ok (.iconst 2, 1) := by decide +kernel
theorem dL_law_222 : decode cL_law 222 = .ok (.iadd, 1) := by decide +kernel
theorem dL_law_223 : decode cL_law 223 = .ok (.iaload, 1) := by decide +kernel
theorem dL_law_224 : decode cL_law 224 = .ok (.invokevirtual 37, 3) := by decide +kernel
theorem dL_law_227 : decode cL_law 227 = .ok (.aload_n 2, 1) := by decide +kernel
theorem dL_law_228 : decode cL_law 228 = .ok (.aload_n 0, 1) := by decide +kernel
theorem dL_law_229 : decode cL_law 229 = .ok (.iload_n 3, 1) := by decide +kernel
theorem dL_law_230 : decode cL_law 230 = .ok (.iconst 1, 1) := by decide +kernel
theorem dL_law_231 : decode cL_law 231 = .ok (.iadd, 1) := by decide +kernel
theorem dL_law_232 : decode cL_law 232 = .ok (.iaload, 1) := by decide +kernel
theorem dL_law_233 : decode cL_law 233 = .ok (.aload_n 0, 1) := by decide +kernel
theorem dL_law_234 : decode cL_law 234 = .ok (.iload_n 3, 1) := by decide +kernel
theorem dL_law_235 : decode cL_law 235 = .ok (.iconst 2, 1) := by decide +kernel
theorem dL_law_236 : decode cL_law 236 = .ok (.iadd, 1) := by decide +kernel
theorem dL_law_237 : decode cL_law 237 = .ok (.iaload, 1) := by decide +kernel
theorem dL_law_238 : decode cL_law 238 = .ok (.invokevirtual 41, 3) := by decide +kernel
theorem dL_law_241 : decode cL_law 241 = .ok (.if_icmp .eq 97, 3) := by decide +kernel
theorem dL_law_244 : decode cL_law 244 = .ok (.iconst 0, 1) := by decide +kernel
theorem dL_law_245 : decode cL_law 245 = .ok (.ireturn, 1) := by decide +kernel
theorem dL_law_246 : decode cL_law 246 = .ok (.aload_n 1, 1) := by decide +kernel
theorem dL_law_247 : decode cL_law 247 = .ok (.aload_n 0, 1) := by decide +kernel
theorem dL_law_248 : decode cL_law 248 = .ok (.iload_n 3, 1) := by decide +kernel
theorem dL_law_249 : decode cL_law 249 = .ok (.iconst 1, 1) := by decide +kernel
theorem dL_law_250 : decode cL_law 250 = .ok (.iadd, 1) := by decide +kernel
theorem dL_law_251 : decode cL_law 251 = .ok (.iaload, 1) := by decide +kernel
theorem dL_law_252 : decode cL_law 252 = .ok (.aload_n 0, 1) := by decide +kernel
theorem dL_law_253 : decode cL_law 253 = .ok (.iload_n 3, 1) := by decide +kernel
theorem dL_law_254 : decode cL_law 254 = .ok (.iconst 2, 1) := by decide +kernel
theorem dL_law_255 : decode cL_law 255 = .ok (.iadd, 1) := by decide +kernel
theorem dL_law_256 : decode cL_law 256 = .ok (.iaload, 1) := by decide +kernel
theorem dL_law_257 : decode cL_law 257 = .ok (.invokevirtual 42, 3) := by decide +kernel
theorem dL_law_260 : decode cL_law 260 = .ok (.aload_n 2, 1) := by decide +kernel
theorem dL_law_261 : decode cL_law 261 = .ok (.aload_n 0, 1) := by decide +kernel
theorem dL_law_262 : decode cL_law 262 = .ok (.iload_n 3, 1) := by decide +kernel
theorem dL_law_263 : decode cL_law 263 = .ok (.iconst 1, 1) := by decide +kernel
theorem dL_law_264 : decode cL_law 264 = .ok (.iadd, 1) := by decide +kernel
theorem dL_law_265 : decode cL_law 265 = .ok (.iaload, 1) := by decide +kernel
theorem dL_law_266 : decode cL_law 266 = .ok (.aload_n 0, 1) := by decide +kernel
theorem dL_law_267 : decode cL_law 267 = .ok (.iload_n 3, 1) := by decide +kernel
theorem dL_law_268 : decode cL_law 268 = .ok (.iconst 2, 1) := by decide +kernel
theorem dL_law_269 : decode cL_law 269 = .ok (.iadd, 1) := by decide +kernel
theorem dL_law_270 : decode cL_law 270 = .ok (.iaload, 1) := by decide +kernel
theorem dL_law_271 : decode cL_law 271 = .ok (.invokevirtual 46, 3) := by decide +kernel
theorem dL_law_274 : decode cL_law 274 = .ok (.if_icmp .eq 64, 3) := by decide +kernel
theorem dL_law_277 : decode cL_law 277 = .ok (.iconst 0, 1) := by decide +kernel
theorem dL_law_278 : decode cL_law 278 = .ok (.ireturn, 1) := by decide +kernel
theorem dL_law_279 : decode cL_law 279 = .ok (.aload_n 1, 1) := by decide +kernel
theorem dL_law_280 : decode cL_law 280 = .ok (.aload_n 0, 1) := by decide +kernel
theorem dL_law_281 : decode cL_law 281 = .ok (.iload_n 3, 1) := by decide +kernel
theorem dL_law_282 : decode cL_law 282 = .ok (.iconst 1, 1) := by decide +kernel
theorem dL_law_283 : decode cL_law 283 = .ok (.iadd, 1) := by decide +kernel
theorem dL_law_284 : decode cL_law 284 = .ok (.iaload, 1) := by decide +kernel
theorem dL_law_285 : decode cL_law 285 = .ok (.invokevirtual 47, 3) := by decide +kernel
theorem dL_law_288 : decode cL_law 288 = .ok (.aload_n 2, 1) := by decide +kernel
theorem dL_law_289 : decode cL_law 289 = .ok (.aload_n 0, 1) := by decide +kernel
theorem dL_law_290 : decode cL_law 290 = .ok (.iload_n 3, 1) := by decide +kernel
theorem dL_law_291 : decode cL_law 291 = .ok (.iconst 1, 1) := by decide +kernel
theorem dL_law_292 : decode cL_law 292 = .ok (.iadd, 1) := by decide +kernel
theorem dL_law_293 : decode cL_law 293 = .ok (.iaload, 1) := by decide +kernel
theorem dL_law_294 : decode cL_law 294 = .ok (.invokevirtual 50, 3) := by decide +kernel
theorem dL_law_297 : decode cL_law 297 = .ok (.if_icmp .eq 41, 3) := by decide +kernel
theorem dL_law_300 : decode cL_law 300 = .ok (.iconst 0, 1) := by decide +kernel
theorem dL_law_301 : decode cL_law 301 = .ok (.ireturn, 1) := by decide +kernel
theorem dL_law_302 : decode cL_law 302 = .ok (.aload_n 1, 1) := by decide +kernel
theorem dL_law_303 : decode cL_law 303 = .ok (.invokevirtual 51, 3) := by decide +kernel
theorem dL_law_306 : decode cL_law 306 = .ok (.aload_n 2, 1) := by decide +kernel
theorem dL_law_307 : decode cL_law 307 = .ok (.invokevirtual 55, 3) := by decide +kernel
theorem dL_law_310 : decode cL_law 310 = .ok (.if_icmp .eq 28, 3) := by decide +kernel
theorem dL_law_313 : decode cL_law 313 = .ok (.iconst 0, 1) := by decide +kernel
theorem dL_law_314 : decode cL_law 314 = .ok (.ireturn, 1) := by decide +kernel
theorem dL_law_315 : decode cL_law 315 = .ok (.aload_n 1, 1) := by decide +kernel
theorem dL_law_316 : decode cL_law 316 = .ok (.aload_n 0, 1) := by decide +kernel
theorem dL_law_317 : decode cL_law 317 = .ok (.iload_n 3, 1) := by decide +kernel
theorem dL_law_318 : decode cL_law 318 = .ok (.iconst 1, 1) := by decide +kernel
theorem dL_law_319 : decode cL_law 319 = .ok (.iadd, 1) := by decide +kernel
theorem dL_law_320 : decode cL_law 320 = .ok (.iaload, 1) := by decide +kernel
theorem dL_law_321 : decode cL_law 321 = .ok (.invokevirtual 56, 3) := by decide +kernel
theorem dL_law_324 : decode cL_law 324 = .ok (.aload_n 2, 1) := by decide +kernel
theorem dL_law_325 : decode cL_law 325 = .ok (.aload_n 0, 1) := by decide +kernel
theorem dL_law_326 : decode cL_law 326 = .ok (.iload_n 3, 1) := by decide +kernel
theorem dL_law_327 : decode cL_law 327 = .ok (.iconst 1, 1) := by decide +kernel
theorem dL_law_328 : decode cL_law 328 = .ok (.iadd, 1) := by decide +kernel
theorem dL_law_329 : decode cL_law 329 = .ok (.iaload, 1) := by decide +kernel
theorem dL_law_330 : decode cL_law 330 = .ok (.invokevirtual 59, 3) := by decide +kernel
theorem dL_law_333 : decode cL_law 333 = .ok (.if_icmp .eq 5, 3) := by decide +kernel
theorem dL_law_336 : decode cL_law 336 = .ok (.iconst 0, 1) := by decide +kernel
theorem dL_law_337 : decode cL_law 337 = .ok (.ireturn, 1) := by decide +kernel
theorem dL_law_338 : decode cL_law 338 = .ok (.iinc 3 4, 3) := by decide +kernel
theorem dL_law_341 : decode cL_law 341 = .ok (.goto (-323), 3) := by decide +kernel
theorem dL_law_344 : decode cL_law 344 = .ok (.iconst 1, 1) := by decide +kernel
theorem dL_law_345 : decode cL_law 345 = .ok (.ireturn, 1) := by decide +kernel
abbrev vwCl : List vw_C := [(RX0, TX0, 3), (RX1, TX1, 4)]
end
section
/-! what a state is: the memory's cells, the row's cells, the row's size; and what each method makes of it (the class's own words) -/
abbrev Bk_ : Type := (Nat → Int32) × (Nat → Int32) × Int32
abbrev at_W {S : Type} (dC : Nat → ClassId) (dI : Nat → Nat → Nat) (A : Nat → Prop) (tys : List (ClassId × FieldType)) (wf : S → va_W) (u : S) (t : State) : Prop := va_P (dC, dI) vwCl (wf u) t.heap ∧ va_K (dC, dI) vwCl tys t ∧ va_D A (wf u)
def mb_part (a b c : Int32) : Int32 := if a < 0 then 0 else if b < 0 then 0 else if c - a < b then 0 else 1
def mb_room (n z : Int32) : Int32 := if 512 - z < n then 0 else 1
def mb_app (u : Bk_) (b : Int32) : Bk_ := (u.1, upd u.2.1 u.2.2.toNatClampNeg (b &&& 255), u.2.2 + 1)
def mb_dbl (c : Int32) : Int32 := if c * 2 < 65536 then c * 2 else (c * 2) ^^^ 69665
def mb_it : Nat → Int32 → Int32
  | 0, c => c
  | n + 1, c => mb_it n (mb_dbl c)
def mb_cw (c b : Int32) : Int32 := mb_it 8 (c ^^^ (b * 256))
def mb_ck (f : Nat → Int32) (a : Nat) : Nat → Int32
  | 0 => 65535
  | n + 1 => mb_cw (mb_ck f a n) (f (a + n))
def mb_put (u : Bk_) (b : Int32) : Int32 × Bk_ := if mb_room 1 u.2.2 = 0 then (-1, u) else (u.2.2 + 1, mb_app u b)
def mb_cut (u : Bk_) (n : Int32) : Int32 × Bk_ := if mb_part 0 n u.2.2 = 0 then (0, u) else (1, (u.1, u.2.1, n))
def mb_size (u : Bk_) : Int32 × Bk_ := (u.2.2, u)
def mb_rowAt (u : Bk_) (k : Int32) : Int32 × Bk_ := if mb_part k 1 u.2.2 = 0 then (-1, u) else (u.2.1 k.toNatClampNeg, u)
def mb_load (u : Bk_) (k n a : Int32) : Int32 × Bk_ := if n < 1 then (0, u) else if mb_part k n u.2.2 = 0 then (0, u) else if mb_part a n 4096 = 0 then (0, u) else (1, (va_cpy u.2.1 u.1 k.toNatClampNeg a.toNatClampNeg n.toNatClampNeg, u.2.1, u.2.2))
def mb_dump (u : Bk_) (a n : Int32) : Int32 × Bk_ := if n < 1 then (0, u) else if mb_part a n 4096 = 0 then (0, u) else if mb_room n u.2.2 = 0 then (0, u) else (1, (u.1, va_cpy u.1 u.2.1 a.toNatClampNeg u.2.2.toNatClampNeg n.toNatClampNeg, u.2.2 + n))
def mb_check (u : Bk_) (a n : Int32) : Int32 × Bk_ := if mb_part a n 4096 = 0 then (-1, u) else (mb_ck u.1 a.toNatClampNeg n.toNatClampNeg, u)
def mb_rowCheck (u : Bk_) (n : Int32) : Int32 × Bk_ := if mb_part 0 n u.2.2 = 0 then (-1, u) else (mb_ck u.2.1 0 n.toNatClampNeg, u)
def mb_seal (u : Bk_) : Int32 × Bk_ := if mb_room 2 u.2.2 = 0 then (0, u) else (1, mb_app (mb_app u (mb_ck u.2.1 0 u.2.2.toNatClampNeg >>> ((8 : Int32) &&& 31))) (mb_ck u.2.1 0 u.2.2.toNatClampNeg))
def mb_at (u : Bk_) (k : Int32) : Int32 × Bk_ := if mb_part k 1 4096 = 0 then (-1, u) else (u.1 k.toNatClampNeg, u)
/-- the size is one -/
def mb_ok (u : Bk_) : Prop := 0 ≤ u.2.2.toInt ∧ u.2.2.toInt ≤ 512
theorem mb_lt {x y : Int32} : x < y ↔ x.toInt < y.toInt := Int32.lt_iff_toInt_lt
theorem mb_le {x y : Int32} : x ≤ y ↔ x.toInt ≤ y.toInt := Int32.le_iff_toInt_le
theorem mb_cl (x : Int32) : x.toNatClampNeg = x.toInt.toNat := rfl
theorem mb_0 : (0 : Int32).toInt = 0 := by decide
theorem mb_1 : (1 : Int32).toInt = 1 := by decide
theorem mb_2 : (2 : Int32).toInt = 2 := by decide
theorem mb_512 : (512 : Int32).toInt = 512 := by decide
theorem mb_4096 : (4096 : Int32).toInt = 4096 := by decide
theorem mb_sub {a c : Int32} (ha : 0 ≤ a.toInt) (hc : 0 ≤ c.toInt) : (c - a).toInt = c.toInt - a.toInt := by
  rw [Int32.toInt_sub]
  have h1 := Int32.toInt_lt a
  have h2 := Int32.toInt_lt c
  exact Int.bmod_eq_of_le_mul_two (by omega) (by omega)
theorem mb_add {a c : Int32} (ha : 0 ≤ a.toInt) (hc : 0 ≤ c.toInt) (h : a.toInt + c.toInt < 2 ^ 31) : (a + c).toInt = a.toInt + c.toInt := by
  rw [Int32.toInt_add]
  exact Int.bmod_eq_of_le_mul_two (by omega) (by omega)
theorem mb_part_iff {a b c : Int32} (hc : 0 ≤ c.toInt) : ¬ mb_part a b c = 0 ↔ 0 ≤ a.toInt ∧ 0 ≤ b.toInt ∧ a.toInt + b.toInt ≤ c.toInt := by
  unfold mb_part
  by_cases h1 : a < 0
  · rw [if_pos h1]; rw [mb_lt, mb_0] at h1
    exact ⟨fun h => absurd rfl h, fun h => by omega⟩
  · rw [if_neg h1]
    rw [mb_lt, mb_0] at h1
    by_cases h2 : b < 0
    · rw [if_pos h2]; rw [mb_lt, mb_0] at h2
      exact ⟨fun h => absurd rfl h, fun h => by omega⟩
    · rw [if_neg h2]
      rw [mb_lt, mb_0] at h2
      by_cases h3 : c - a < b
      · rw [if_pos h3]; rw [mb_lt, mb_sub (by omega) hc] at h3
        exact ⟨fun h => absurd rfl h, fun h => by omega⟩
      · rw [if_neg h3]; rw [mb_lt, mb_sub (by omega) hc] at h3
        exact ⟨fun _ => by omega, fun _ => by decide⟩
theorem mb_room_iff {n z : Int32} (hz : 0 ≤ z.toInt) : ¬ mb_room n z = 0 ↔ n.toInt + z.toInt ≤ 512 := by
  unfold mb_room
  by_cases h3 : 512 - z < n
  · rw [if_pos h3]; rw [mb_lt, mb_sub hz (by decide), mb_512] at h3
    exact ⟨fun h => absurd rfl h, fun h => by omega⟩
  · rw [if_neg h3]; rw [mb_lt, mb_sub hz (by decide), mb_512] at h3
    exact ⟨fun _ => by omega, fun _ => by decide⟩
theorem mb_in {k : Int32} {n : Nat} (h0 : 0 ≤ k.toInt) (h : k.toInt < n) : vp_in k n := vp_in_iff.mpr ⟨h0, h⟩
theorem mb_n0 {k : Int32} (h : 0 ≤ k.toInt) : ¬ k < 0 := by rw [mb_lt, mb_0]; omega
theorem mb_nI {k : Int32} (h : 0 ≤ k.toInt) : k = nI k.toNatClampNeg := by
  obtain ⟨j, hj, e⟩ := nI_of (mb_n0 h)
  rw [e, nI_clamp hj]
abbrev at_N {S : Type} (dC : Nat → ClassId) (dI : Nat → Nat → Nat) (A : Nat → Prop) (wf : S → va_W) (tf : S → List (ClassId × FieldType)) (u : S) (t : State) : Prop := va_P (dC, dI) vwCl (wf u) t.heap ∧ va_K (dC, dI) vwCl (tf u) t ∧ va_D A (wf u)
end
section
abbrev bw_X0 (h0 h1 h2 : Nat) (cA cB : ClassId) (u : Bk_) : va_W := [(h0, .inr (0, [.ref h1, .ref h2, .int u.2.2])), (h1, .inl (cA, 4096, .inl u.1)), (h2, .inl (cB, 512, .inl u.2.1))]
set_option maxHeartbeats 4000000 in
set_option maxRecDepth 100000 in
/-- isPart: its answer alone -/
theorem c_isPart (l : Launch) (dC : Nat → ClassId) (dI : Nat → Nat → Nat) (sz : Nat) (a b k : Int32)  : Met l yX0_isPart wsX0_isPart ({ frames := 0, cells := 0, slots := 0, locals := 0 }) (va_Pc [.int a, .int b, .int k] (fun U => U.heap.size = sz ∧ va_P (dC, dI) vwCl [] U.heap ∧ va_K (dC, dI) vwCl [] U ∧ va_D (fun _ => True) [])) (va_Qi (fun (r : Int32) (u2 : Unit) => mb_part a b k = r) (at_W dC dI (va_A [] sz) [] (fun _ => [])) (va_A [] sz)) 0 0 (va_A [] sz) := by
  refine Met.ofW (cc := cX0_isPart) (maxL := 3) (ret := (some .boolean)) (by decide) rfl ?_
  intro p e s m args below meth c s₁ B hml hv
  obtain ⟨rfl, hsz, hP, hK, hD0⟩ := hv
  have hx := B.exec
  have hb := B.bytes
  have hr := B.returns
  have hts := atoms_spec (ws := wsX0_isPart) B.pre
  have hown : s.vm.findClass RX0 = some m.cls := findClass_of_methodNamed B.named
  have hlocks := B.notSynchronized
  subst hsz
  have hD := hD0.self (sz := s.heap.size)
  generalize hAe : va_A [] s.heap.size = A at hD ⊢
  have hA : ∀ q : Nat, s.heap.size ≤ q → A q := fun q h => by rw [← hAe]; exact Or.inr h
  have hS : va_S A s.heap s.heap [] := va_S.rf
  have hP : va_P (dC, dI) vwCl [] s.heap := hP
  have hl := lv_entry ([.int a, .int b, .int k]) (n := 3) (Nat.le_of_ble_eq_true rfl)
  rw [lg_entry_eq]
  generalize (lg_sl ([.int a, .int b, .int k]) ++ List.replicate (3 - (lg_sl ([.int a, .int b, .int k])).length) Slot.unset).toArray = ls at hl ⊢
  have hl : lv_has ls 3 [(0, .int a), (1, .int b), (2, .int k)] := hl
  refine lv_iload_n hx hb dX0_isPart_0 rfl (lv_at hl 0 rfl) ?_
  refine lv_if_lt (tgt := 19) hx hb dX0_isPart_1 (by decide) (fun c1 => ?_) (fun c1 => ?_)
  · refine lv_iconst (v := 0) hx hb dX0_isPart_19 (by decide) ?_
    have hP9 := hP.sub (ws' := []) [] rfl
    have hD9 := hD.sub (ws' := []) [] (by decide) rfl
    exact W.zret (v := 0) hx hb hr (by decide) (fun t ht hW => ⟨⟨0, (), rfl, by unfold mb_part; rw [if_pos c1], by rw [ht]; exact hP9, va_K.moved hW.alike hK, hD9⟩, hS.F ht⟩) hS.2.2 dX0_isPart_20
  · refine lv_iload_n hx hb dX0_isPart_4 rfl (lv_at hl 1 rfl) ?_
    refine lv_if_lt (tgt := 19) hx hb dX0_isPart_5 (by decide) (fun c2 => ?_) (fun c2 => ?_)
    · refine lv_iconst (v := 0) hx hb dX0_isPart_19 (by decide) ?_
      have hP9 := hP.sub (ws' := []) [] rfl
      have hD9 := hD.sub (ws' := []) [] (by decide) rfl
      exact W.zret (v := 0) hx hb hr (by decide) (fun t ht hW => ⟨⟨0, (), rfl, by unfold mb_part; rw [if_neg c1, if_pos c2], by rw [ht]; exact hP9, va_K.moved hW.alike hK, hD9⟩, hS.F ht⟩) hS.2.2 dX0_isPart_20
    · refine lv_iload_n hx hb dX0_isPart_8 rfl (lv_at hl 1 rfl) ?_
      refine lv_iload_n hx hb dX0_isPart_9 rfl (lv_at hl 2 rfl) ?_
      refine lv_iload_n hx hb dX0_isPart_10 rfl (lv_at hl 0 rfl) ?_
      refine lv_isub hx hb dX0_isPart_11 ?_
      refine lv_icmp_gt (tgt := 19) hx hb dX0_isPart_12 (by decide) (fun c3 => ?_) (fun c3 => ?_)
      · refine lv_iconst (v := 0) hx hb dX0_isPart_19 (by decide) ?_
        have hP9 := hP.sub (ws' := []) [] rfl
        have hD9 := hD.sub (ws' := []) [] (by decide) rfl
        exact W.zret (v := 0) hx hb hr (by decide) (fun t ht hW => ⟨⟨0, (), rfl, by unfold mb_part; rw [if_neg c1, if_neg c2, if_pos c3], by rw [ht]; exact hP9, va_K.moved hW.alike hK, hD9⟩, hS.F ht⟩) hS.2.2 dX0_isPart_20
      · refine lv_iconst (v := 1) hx hb dX0_isPart_15 (by decide) ?_
        refine lv_goto (tgt := 20) hx hb dX0_isPart_16 (by decide) ?_
        have hP9 := hP.sub (ws' := []) [] rfl
        have hD9 := hD.sub (ws' := []) [] (by decide) rfl
        exact W.zret (v := 1) hx hb hr (by decide) (fun t ht hW => ⟨⟨1, (), rfl, by unfold mb_part; rw [if_neg c1, if_neg c2, if_neg c3], by rw [ht]; exact hP9, va_K.moved hW.alike hK, hD9⟩, hS.F ht⟩) hS.2.2 dX0_isPart_20
set_option maxHeartbeats 4000000 in
set_option maxRecDepth 100000 in
/-- hasRoom: its answer alone -/
theorem c_hasRoom (l : Launch) (dC : Nat → ClassId) (dI : Nat → Nat → Nat) (sz : Nat) (h0 h1 h2 : Nat) (cA cB : ClassId) (u : Bk_) (n : Int32)  : Met l yX0_hasRoom wsX0_hasRoom ({ frames := 0, cells := 0, slots := 0, locals := 0 }) (va_Pc [.ref h0, .int n] (fun U => U.heap.size = sz ∧ va_P (dC, dI) vwCl [(h0, .inr (0, [.ref h1, .ref h2, .int u.2.2])), (h1, .inl (cA, 4096, .inl u.1)), (h2, .inl (cB, 512, .inl u.2.1))] U.heap ∧ va_K (dC, dI) vwCl [(cA, .int), (cB, .int)] U ∧ va_D (fun _ => True) [(h0, .inr (0, [.ref h1, .ref h2, .int u.2.2])), (h1, .inl (cA, 4096, .inl u.1)), (h2, .inl (cB, 512, .inl u.2.1))])) (va_Qi (fun (r : Int32) (u2 : Bk_) => mb_room n u.2.2 = r ∧ u = u2) (at_W dC dI (va_A [(h0, .inr (0, [.ref h1, .ref h2, .int u.2.2])), (h1, .inl (cA, 4096, .inl u.1)), (h2, .inl (cB, 512, .inl u.2.1))] sz) [(cA, .int), (cB, .int)] (bw_X0 h0 h1 h2 cA cB)) (va_A [(h0, .inr (0, [.ref h1, .ref h2, .int u.2.2])), (h1, .inl (cA, 4096, .inl u.1)), (h2, .inl (cB, 512, .inl u.2.1))] sz)) 0 0 (va_A [(h0, .inr (0, [.ref h1, .ref h2, .int u.2.2])), (h1, .inl (cA, 4096, .inl u.1)), (h2, .inl (cB, 512, .inl u.2.1))] sz) := by
  refine Met.ofW (cc := cX0_hasRoom) (maxL := 2) (ret := (some .boolean)) (by decide) rfl ?_
  intro p e s m args below meth c s₁ B hml hv
  obtain ⟨rfl, hsz, hP, hK, hD0⟩ := hv
  have hx := B.exec
  have hb := B.bytes
  have hr := B.returns
  have hts := atoms_spec (ws := wsX0_hasRoom) B.pre
  have hown : s.vm.findClass RX0 = some m.cls := findClass_of_methodNamed B.named
  have hlocks := B.notSynchronized
  subst hsz
  have hD := hD0.self (sz := s.heap.size)
  generalize hAe : va_A [(h0, .inr (0, [.ref h1, .ref h2, .int u.2.2])), (h1, .inl (cA, 4096, .inl u.1)), (h2, .inl (cB, 512, .inl u.2.1))] s.heap.size = A at hD ⊢
  have hA : ∀ q : Nat, s.heap.size ≤ q → A q := fun q h => by rw [← hAe]; exact Or.inr h
  have hS : va_S A s.heap s.heap [] := va_S.rf
  have hP : va_P (dC, dI) vwCl [(h0, .inr (0, [.ref h1, .ref h2, .int u.2.2])), (h1, .inl (cA, 4096, .inl u.1)), (h2, .inl (cB, 512, .inl u.2.1))] s.heap := hP
  have hl := lv_entry ([.ref h0, .int n]) (n := 2) (Nat.le_of_ble_eq_true rfl)
  rw [lg_entry_eq]
  generalize (lg_sl ([.ref h0, .int n]) ++ List.replicate (2 - (lg_sl ([.ref h0, .int n])).length) Slot.unset).toArray = ls at hl ⊢
  have hl : lv_has ls 2 [(0, .ref h0), (1, .int n)] := hl
  refine lv_iload_n hx hb dX0_hasRoom_0 rfl (lv_at hl 1 rfl) ?_
  refine lv_sipush (v := 512) hx hb dX0_hasRoom_1 (by decide) ?_
  refine lv_aload_n hx hb dX0_hasRoom_4 rfl (lv_at hl 0 rfl) ?_
  refine va_get (D := (dC, dI)) (ci := 0) (v := .int u.2.2) (C := RX0) (T := TX0) (N := 3) hx hb hts (by decide +kernel) hown hK hP 0 rfl rfl 2 (by decide) (hts (.fieldLink RX0 16 "MemoryBank" "rowSize" "I") (by decide +kernel)) (fun _ h9 => h9) rfl dX0_hasRoom_5 ?_
  refine lv_isub hx hb dX0_hasRoom_8 ?_
  refine lv_icmp_gt (tgt := 16) hx hb dX0_hasRoom_9 (by decide) (fun c1 => ?_) (fun c1 => ?_)
  · refine lv_iconst (v := 0) hx hb dX0_hasRoom_16 (by decide) ?_
    have hP9 := hP.sub (ws' := [(h0, .inr (0, [.ref h1, .ref h2, .int u.2.2])), (h1, .inl (cA, 4096, .inl u.1)), (h2, .inl (cB, 512, .inl u.2.1))]) [0, 1, 2] rfl
    have hD9 := hD.sub (ws' := [(h0, .inr (0, [.ref h1, .ref h2, .int u.2.2])), (h1, .inl (cA, 4096, .inl u.1)), (h2, .inl (cB, 512, .inl u.2.1))]) [0, 1, 2] (by decide) rfl
    exact W.zret (v := 0) hx hb hr (by decide) (fun t ht hW => ⟨⟨0, u, rfl, ⟨by unfold mb_room; rw [if_pos c1], rfl⟩, by rw [ht]; exact hP9, va_K.moved hW.alike hK, hD9⟩, hS.F ht⟩) hS.2.2 dX0_hasRoom_17
  · refine lv_iconst (v := 1) hx hb dX0_hasRoom_12 (by decide) ?_
    refine lv_goto (tgt := 17) hx hb dX0_hasRoom_13 (by decide) ?_
    have hP9 := hP.sub (ws' := [(h0, .inr (0, [.ref h1, .ref h2, .int u.2.2])), (h1, .inl (cA, 4096, .inl u.1)), (h2, .inl (cB, 512, .inl u.2.1))]) [0, 1, 2] rfl
    have hD9 := hD.sub (ws' := [(h0, .inr (0, [.ref h1, .ref h2, .int u.2.2])), (h1, .inl (cA, 4096, .inl u.1)), (h2, .inl (cB, 512, .inl u.2.1))]) [0, 1, 2] (by decide) rfl
    exact W.zret (v := 1) hx hb hr (by decide) (fun t ht hW => ⟨⟨1, u, rfl, ⟨by unfold mb_room; rw [if_neg c1], rfl⟩, by rw [ht]; exact hP9, va_K.moved hW.alike hK, hD9⟩, hS.F ht⟩) hS.2.2 dX0_hasRoom_17
set_option maxHeartbeats 4000000 in
set_option maxRecDepth 100000 in
/-- append: a byte more -/
theorem c_append (l : Launch) (dC : Nat → ClassId) (dI : Nat → Nat → Nat) (sz : Nat) (h0 h1 h2 : Nat) (cA cB : ClassId) (u : Bk_) (b : Int32) (hu : 0 ≤ u.2.2.toInt ∧ u.2.2.toInt < 512) : Met l yX0_append wsX0_append ({ frames := 0, cells := 0, slots := 0, locals := 0 }) (va_Pc [.ref h0, .int b] (fun U => U.heap.size = sz ∧ va_P (dC, dI) vwCl [(h0, .inr (0, [.ref h1, .ref h2, .int u.2.2])), (h1, .inl (cA, 4096, .inl u.1)), (h2, .inl (cB, 512, .inl u.2.1))] U.heap ∧ va_K (dC, dI) vwCl [(cA, .int), (cB, .int)] U ∧ va_D (fun _ => True) [(h0, .inr (0, [.ref h1, .ref h2, .int u.2.2])), (h1, .inl (cA, 4096, .inl u.1)), (h2, .inl (cB, 512, .inl u.2.1))])) (va_Qv (fun (u2 : Bk_) => u2 = mb_app u b) (at_W dC dI (va_A [(h0, .inr (0, [.ref h1, .ref h2, .int u.2.2])), (h1, .inl (cA, 4096, .inl u.1)), (h2, .inl (cB, 512, .inl u.2.1))] sz) [(cA, .int), (cB, .int)] (bw_X0 h0 h1 h2 cA cB)) (va_A [(h0, .inr (0, [.ref h1, .ref h2, .int u.2.2])), (h1, .inl (cA, 4096, .inl u.1)), (h2, .inl (cB, 512, .inl u.2.1))] sz)) 0 0 (va_A [(h0, .inr (0, [.ref h1, .ref h2, .int u.2.2])), (h1, .inl (cA, 4096, .inl u.1)), (h2, .inl (cB, 512, .inl u.2.1))] sz) := by
  refine Met.ofW (cc := cX0_append) (maxL := 2) (ret := none) (by decide) rfl ?_
  intro p e s m args below meth c s₁ B hml hv
  obtain ⟨rfl, hsz, hP, hK, hD0⟩ := hv
  have hx := B.exec
  have hb := B.bytes
  have hr := B.returns
  have hts := atoms_spec (ws := wsX0_append) B.pre
  have hown : s.vm.findClass RX0 = some m.cls := findClass_of_methodNamed B.named
  have hlocks := B.notSynchronized
  subst hsz
  have hD := hD0.self (sz := s.heap.size)
  generalize hAe : va_A [(h0, .inr (0, [.ref h1, .ref h2, .int u.2.2])), (h1, .inl (cA, 4096, .inl u.1)), (h2, .inl (cB, 512, .inl u.2.1))] s.heap.size = A at hD ⊢
  have hA : ∀ q : Nat, s.heap.size ≤ q → A q := fun q h => by rw [← hAe]; exact Or.inr h
  have hS : va_S A s.heap s.heap [] := va_S.rf
  have hP : va_P (dC, dI) vwCl [(h0, .inr (0, [.ref h1, .ref h2, .int u.2.2])), (h1, .inl (cA, 4096, .inl u.1)), (h2, .inl (cB, 512, .inl u.2.1))] s.heap := hP
  have hl := lv_entry ([.ref h0, .int b]) (n := 2) (Nat.le_of_ble_eq_true rfl)
  rw [lg_entry_eq]
  generalize (lg_sl ([.ref h0, .int b]) ++ List.replicate (2 - (lg_sl ([.ref h0, .int b])).length) Slot.unset).toArray = ls at hl ⊢
  have hl : lv_has ls 2 [(0, .ref h0), (1, .int b)] := hl
  refine lv_aload_n hx hb dX0_append_0 rfl (lv_at hl 0 rfl) ?_
  refine va_get (D := (dC, dI)) (ci := 0) (v := .ref h2) (C := RX0) (T := TX0) (N := 3) hx hb hts (by decide +kernel) hown hK hP 0 rfl rfl 1 (by decide) (hts (.fieldLink RX0 13 "MemoryBank" "row" "[I") (by decide +kernel)) (fun _ h9 => h9) rfl dX0_append_1 ?_
  refine lv_aload_n hx hb dX0_append_4 rfl (lv_at hl 0 rfl) ?_
  refine va_get (D := (dC, dI)) (ci := 0) (v := .int u.2.2) (C := RX0) (T := TX0) (N := 3) hx hb hts (by decide +kernel) hown hK hP 0 rfl rfl 2 (by decide) (hts (.fieldLink RX0 16 "MemoryBank" "rowSize" "I") (by decide +kernel)) (fun _ h9 => h9) rfl dX0_append_5 ?_
  refine lv_iload_n hx hb dX0_append_8 rfl (lv_at hl 1 rfl) ?_
  refine lv_sipush (v := 255) hx hb dX0_append_9 (by decide) ?_
  refine lv_iand hx hb dX0_append_12 ?_
  refine va_iast hx hb hK hP hD hS 2 1 rfl rfl (mb_in hu.1 hu.2) dX0_append_13 (fun H locs hP hD hS => ?_)
  have hP : va_P (dC, dI) vwCl [(h0, .inr (0, [.ref h1, .ref h2, .int u.2.2])), (h1, .inl (cA, 4096, .inl u.1)), (h2, .inl (cB, 512, .inl (upd u.2.1 (u.2.2).toNatClampNeg (b &&& 255))))] H := hP
  have hD : va_D A [(h0, .inr (0, [.ref h1, .ref h2, .int u.2.2])), (h1, .inl (cA, 4096, .inl u.1)), (h2, .inl (cB, 512, .inl (upd u.2.1 (u.2.2).toNatClampNeg (b &&& 255))))] := hD
  refine lv_aload_n hx hb dX0_append_14 rfl (lv_at hl 0 rfl) ?_
  refine lv_dup hx hb dX0_append_15 rfl ?_
  refine va_get (D := (dC, dI)) (ci := 0) (v := .int u.2.2) (C := RX0) (T := TX0) (N := 3) hx hb hts (by decide +kernel) hown hK hP 0 rfl rfl 2 (by decide) (hts (.fieldLink RX0 16 "MemoryBank" "rowSize" "I") (by decide +kernel)) (fun _ h9 => h9) rfl dX0_append_16 ?_
  refine lv_iconst (v := 1) hx hb dX0_append_19 (by decide) ?_
  refine lv_iadd hx hb dX0_append_20 ?_
  refine va_put (D := (dC, dI)) (ci := 0) (v := .int (u.2.2 + 1)) (ty := .int) (C := RX0) (T := TX0) (N := 3) hx hb hts (by decide +kernel) tyX0 tyX0_ok nmX0 hown hK hP hD hS 0 rfl rfl 2 (by decide) (hts (.fieldLink RX0 16 "MemoryBank" "rowSize" "I") (by decide +kernel)) (fun _ h9 => h9) rfl (by decide +kernel) rfl rfl (Nat.le_of_ble_eq_true rfl) dX0_append_21 (fun H locs hP hD hS => ?_)
  have hP : va_P (dC, dI) vwCl [(h0, .inr (0, [.ref h1, .ref h2, .int (u.2.2 + 1)])), (h1, .inl (cA, 4096, .inl u.1)), (h2, .inl (cB, 512, .inl (upd u.2.1 (u.2.2).toNatClampNeg (b &&& 255))))] H := hP
  have hD : va_D A [(h0, .inr (0, [.ref h1, .ref h2, .int (u.2.2 + 1)])), (h1, .inl (cA, 4096, .inl u.1)), (h2, .inl (cB, 512, .inl (upd u.2.1 (u.2.2).toNatClampNeg (b &&& 255))))] := hD
  have hP9 := hP.sub (ws' := [(h0, .inr (0, [.ref h1, .ref h2, .int (u.2.2 + 1)])), (h1, .inl (cA, 4096, .inl u.1)), (h2, .inl (cB, 512, .inl (upd u.2.1 (u.2.2).toNatClampNeg (b &&& 255))))]) [0, 1, 2] rfl
  have hD9 := hD.sub (ws' := [(h0, .inr (0, [.ref h1, .ref h2, .int (u.2.2 + 1)])), (h1, .inl (cA, 4096, .inl u.1)), (h2, .inl (cB, 512, .inl (upd u.2.1 (u.2.2).toNatClampNeg (b &&& 255))))]) [0, 1, 2] (by decide) rfl
  exact W.vret hx hb hr (fun t ht hW => ⟨⟨mb_app u b, rfl, rfl, by rw [ht]; exact hP9, va_K.moved hW.alike hK, hD9⟩, hS.F ht⟩) hS.2.2 dX0_append_24
set_option maxHeartbeats 4000000 in
set_option maxRecDepth 100000 in
theorem lp_checkWith {p : Program} {l : Launch} {e : Env} {R : Room} {s : State} {m : MethodId} {args : Array Value} {below : List Frame} {meth : Method} {c : Code} {cells slots : Nat} {Q : State → Prop} {H : Heap} {locs : List Loc} (hx : p.tables.exec = Jvm.exec) (hb : c.code = cX0_checkWith) (hown : s.vm.findClass RX0 = some m.cls) (hts : ∀ w ∈ wsX0_checkWith, w.before args s = true) (x0 x1 : Int32) : ∀ (n k : Nat) (x : Int32), k + n = 8 → (∀ ls : Array Slot, lv_has ls 4 [(0, .int x0), (1, .int x1), (2, .int (mb_it n x)), (3, .int (nI 8))] → W p l e R s m args below meth c H locs cells slots Q (F0 m 37 ls [])) → ∀ ls : Array Slot, lv_has ls 4 [(0, .int x0), (1, .int x1), (2, .int x), (3, .int (nI k))] → W p l e R s m args below meth c H locs cells slots Q (F0 m 10 ls []) := by
  intro n
  induction n with
  | zero =>
    intro k x hk kk ls hl
    obtain rfl : k = 8 := by omega
    refine lv_iload_n hx hb dX0_checkWith_10 rfl (lv_at hl 3 rfl) ?_
    refine lv_bipush (v := 8) hx hb dX0_checkWith_11 (by decide) ?_
    refine lv_icmp_ge (tgt := 37) hx hb dX0_checkWith_13 (by decide) (fun c1 => ?_) (fun c1 => ?_)
    · exact kk ls hl
    · exact absurd (by decide) c1
  | succ n ih =>
    intro k x hk kk ls hl
    refine lv_iload_n hx hb dX0_checkWith_10 rfl (lv_at hl 3 rfl) ?_
    refine lv_bipush (v := 8) hx hb dX0_checkWith_11 (by decide) ?_
    refine lv_icmp_ge (tgt := 37) hx hb dX0_checkWith_13 (by decide) (fun c1 => ?_) (fun c1 => ?_)
    · exact absurd c1 (nI_ge (b := 8) (by omega) (by omega))
    · refine lv_iload_n hx hb dX0_checkWith_16 rfl (lv_at hl 2 rfl) ?_
      refine lv_iconst (v := 2) hx hb dX0_checkWith_17 (by decide) ?_
      refine lv_imul hx hb dX0_checkWith_18 ?_
      refine lv_istore_n (lv' := [(2, .int (x * 2)), (0, .int x0), (1, .int x1), (3, .int (nI k))]) hx hb dX0_checkWith_19 rfl hl (by decide) rfl (fun ls hl => ?_)
      refine lv_iload_n hx hb dX0_checkWith_20 rfl (lv_at hl 0 rfl) ?_
      refine lv_ldc (v := (65536)) hx hb hown (hts (.constant RX0 47 (65536)) (by decide +kernel)) dX0_checkWith_21 ?_
      refine lv_icmp_lt (tgt := 31) hx hb dX0_checkWith_23 (by decide) (fun c2 => ?_) (fun c2 => ?_)
      · have ed : mb_dbl x = (x * 2) := by unfold mb_dbl; rw [if_pos c2]
        refine lv_iinc (v := nI (k + 1)) (lv' := [(3, .int (nI (k + 1))), (2, .int (x * 2)), (0, .int x0), (1, .int x1)]) hx hb dX0_checkWith_31 hl (k := 3) rfl (by rw [← nI_1]; rfl) (by decide) rfl (fun ls hl => ?_)
        refine lv_goto (tgt := 10) hx hb dX0_checkWith_34 (by decide) ?_
        refine ih (k + 1) _ (by omega) ?_ ls (lv_sub hl [2, 3, 1, 0] rfl)
        rw [← ed]
        exact kk
      · refine lv_iload_n hx hb dX0_checkWith_26 rfl (lv_at hl 0 rfl) ?_
        refine lv_ldc (v := (69665)) hx hb hown (hts (.constant RX0 48 (69665)) (by decide +kernel)) dX0_checkWith_27 ?_
        refine lv_ixor hx hb dX0_checkWith_29 ?_
        refine lv_istore_n (lv' := [(2, .int ((x * 2) ^^^ (69665))), (0, .int x0), (1, .int x1), (3, .int (nI k))]) hx hb dX0_checkWith_30 rfl hl (by decide) rfl (fun ls hl => ?_)
        have ed : mb_dbl x = ((x * 2) ^^^ (69665)) := by unfold mb_dbl; rw [if_neg c2]
        refine lv_iinc (v := nI (k + 1)) (lv' := [(3, .int (nI (k + 1))), (2, .int ((x * 2) ^^^ (69665))), (0, .int x0), (1, .int x1)]) hx hb dX0_checkWith_31 hl (k := 3) rfl (by rw [← nI_1]; rfl) (by decide) rfl (fun ls hl => ?_)
        refine lv_goto (tgt := 10) hx hb dX0_checkWith_34 (by decide) ?_
        refine ih (k + 1) _ (by omega) ?_ ls (lv_sub hl [2, 3, 1, 0] rfl)
        rw [← ed]
        exact kk
set_option maxHeartbeats 4000000 in
set_option maxRecDepth 100000 in
/-- checkWith: one byte more of the check -/
theorem c_checkWith (l : Launch) (dC : Nat → ClassId) (dI : Nat → Nat → Nat) (sz : Nat) (a b : Int32)  : Met l yX0_checkWith wsX0_checkWith ({ frames := 0, cells := 0, slots := 0, locals := 0 }) (va_Pc [.int a, .int b] (fun U => U.heap.size = sz ∧ va_P (dC, dI) vwCl [] U.heap ∧ va_K (dC, dI) vwCl [] U ∧ va_D (fun _ => True) [])) (va_Qi (fun (r : Int32) (u2 : Unit) => mb_cw a b = r) (at_W dC dI (va_A [] sz) [] (fun _ => [])) (va_A [] sz)) 0 0 (va_A [] sz) := by
  refine Met.ofW (cc := cX0_checkWith) (maxL := 4) (ret := (some .int)) (by decide) rfl ?_
  intro p e s m args below meth c s₁ B hml hv
  obtain ⟨rfl, hsz, hP, hK, hD0⟩ := hv
  have hx := B.exec
  have hb := B.bytes
  have hr := B.returns
  have hts := atoms_spec (ws := wsX0_checkWith) B.pre
  have hown : s.vm.findClass RX0 = some m.cls := findClass_of_methodNamed B.named
  have hlocks := B.notSynchronized
  subst hsz
  have hD := hD0.self (sz := s.heap.size)
  generalize hAe : va_A [] s.heap.size = A at hD ⊢
  have hA : ∀ q : Nat, s.heap.size ≤ q → A q := fun q h => by rw [← hAe]; exact Or.inr h
  have hS : va_S A s.heap s.heap [] := va_S.rf
  have hP : va_P (dC, dI) vwCl [] s.heap := hP
  have hl := lv_entry ([.int a, .int b]) (n := 4) (Nat.le_of_ble_eq_true rfl)
  rw [lg_entry_eq]
  generalize (lg_sl ([.int a, .int b]) ++ List.replicate (4 - (lg_sl ([.int a, .int b])).length) Slot.unset).toArray = ls at hl ⊢
  have hl : lv_has ls 4 [(0, .int a), (1, .int b)] := hl
  refine lv_iload_n hx hb dX0_checkWith_0 rfl (lv_at hl 0 rfl) ?_
  refine lv_iload_n hx hb dX0_checkWith_1 rfl (lv_at hl 1 rfl) ?_
  refine lv_sipush (v := 256) hx hb dX0_checkWith_2 (by decide) ?_
  refine lv_imul hx hb dX0_checkWith_5 ?_
  refine lv_ixor hx hb dX0_checkWith_6 ?_
  refine lv_istore_n (lv' := [(2, .int (a ^^^ (b * 256))), (0, .int a), (1, .int b)]) hx hb dX0_checkWith_7 rfl hl (by decide) rfl (fun ls hl => ?_)
  refine lv_iconst (v := 0) hx hb dX0_checkWith_8 (by decide) ?_
  refine lv_istore_n (lv' := [(3, .int 0), (2, .int (a ^^^ (b * 256))), (0, .int a), (1, .int b)]) hx hb dX0_checkWith_9 rfl hl (by decide) rfl (fun ls hl => ?_)
  refine lp_checkWith hx hb hown hts a b 8 0 _ (by omega) ?_ ls (lv_sub hl [2, 3, 1, 0] rfl)
  intro ls hl
  refine lv_iload_n hx hb dX0_checkWith_37 rfl (lv_at hl 2 rfl) ?_
  have hP9 := hP.sub (ws' := []) [] rfl
  have hD9 := hD.sub (ws' := []) [] (by decide) rfl
  exact W.iret (v := (mb_it 8 (a ^^^ (b * 256)))) hx hb hr (fun t ht hW => ⟨⟨(mb_it 8 (a ^^^ (b * 256))), (), rfl, rfl, by rw [ht]; exact hP9, va_K.moved hW.alike hK, hD9⟩, hS.F ht⟩) hS.2.2 dX0_checkWith_38
set_option maxHeartbeats 4000000 in
set_option maxRecDepth 100000 in
theorem lp_checkOf {p : Program} {l : Launch} {e : Env} {R : Room} {s : State} {m : MethodId} {args : Array Value} {below : List Frame} {meth : Method} {c : Code} {cells slots : Nat} {Q : State → Prop} {A : Nat → Prop} {H0 : Heap} (hx : p.tables.exec = Jvm.exec) (hb : c.code = cX0_checkOf) (hml : c.maxLocals = 5) (hown : s.vm.findClass RX0 = some m.cls) (hts : ∀ w ∈ wsX0_checkOf, w.before args s = true) (hA : ∀ q : Nat, H0.size ≤ q → A q) (dC : Nat → ClassId) (dI : Nat → Nat → Nat) (h1 : Nat) (cA : ClassId) (n1 : Nat) (f : Nat → Int32) (a n : Nat) (hn : a + n ≤ n1) (hn1 : n1 < 2 ^ 31) (hR : 1 ≤ R.frames ∧ 23 ≤ R.locals) (hR2 : cells ≤ R.cells ∧ slots ≤ R.slots) (hK : va_K (dC, dI) vwCl [(cA, .int)] s) :
    ∀ (j k : Nat), k + j = n → ∀ (H : Heap) (locs : List Loc), va_P (dC, dI) vwCl [(h1, .inl (cA, n1, .inl f))] H → va_D A [(h1, .inl (cA, n1, .inl f))] → va_S A H0 H locs → (∀ (H : Heap) (locs : List Loc), va_P (dC, dI) vwCl [(h1, .inl (cA, n1, .inl f))] H → va_S A H0 H locs → ∀ ls : Array Slot, lv_has ls 5 [(0, .ref h1), (1, .int (nI a)), (2, .int (nI n)), (3, .int (mb_ck f a n)), (4, .int (nI n))] → W p l e R s m args below meth c H locs cells slots Q (F0 m 29 ls [])) → ∀ ls : Array Slot, lv_has ls 5 [(0, .ref h1), (1, .int (nI a)), (2, .int (nI n)), (3, .int (mb_ck f a k)), (4, .int (nI k))] → W p l e R s m args below meth c H locs cells slots Q (F0 m 6 ls []) := by
  intro j
  induction j with
  | zero =>
    intro k hk H locs hP hD hS kk ls hl
    obtain rfl : k = n := by omega
    refine lv_iload hx hb dX0_checkOf_6 (lv_at hl 4 rfl) ?_
    refine lv_iload_n hx hb dX0_checkOf_8 rfl (lv_at hl 2 rfl) ?_
    refine lv_icmp_ge (tgt := 29) hx hb dX0_checkOf_9 (by decide) (fun c1 => ?_) (fun c1 => ?_)
    · exact kk H locs hP hS ls hl
    · exact absurd (nI_le (Nat.le_refl _) (by omega)) c1
  | succ j ih =>
    intro k hk H locs hP hD hS kk ls hl
    refine lv_iload hx hb dX0_checkOf_6 (lv_at hl 4 rfl) ?_
    refine lv_iload_n hx hb dX0_checkOf_8 rfl (lv_at hl 2 rfl) ?_
    refine lv_icmp_ge (tgt := 29) hx hb dX0_checkOf_9 (by decide) (fun c1 => ?_) (fun c1 => ?_)
    · exact absurd c1 (nI_ge (by omega) (by omega))
    · refine lv_iload_n hx hb dX0_checkOf_12 rfl (lv_at hl 3 rfl) ?_
      refine lv_aload_n hx hb dX0_checkOf_13 rfl (lv_at hl 0 rfl) ?_
      refine lv_iload_n hx hb dX0_checkOf_14 rfl (lv_at hl 1 rfl) ?_
      refine lv_iload hx hb dX0_checkOf_15 (lv_at hl 4 rfl) ?_
      refine lv_iadd hx hb dX0_checkOf_17 ?_
      have hi : nI a + nI k = nI (a + k) := nI_add a k
      refine va_iald hx hb hK hP 0 0 rfl rfl (by rw [hi]; exact vp_in_nI (by omega) (by omega)) dX0_checkOf_18 ?_
      have hc : f (nI a + nI k).toNatClampNeg = f (a + k) := by rw [hi, nI_clamp (by omega)]
      have hPc := hP.sub (ws' := []) [] rfl
      have hDc := hD.sub (ws' := []) [] (by decide) rfl
      have hKc := hK.sub (tys' := []) [] rfl
      have hFc := va_free (wc := []) hD hS hA [] rfl
      refine va_calli (va_runS (As := [.int (mb_ck f a k), .int (f (((nI a) + (nI k))).toNatClampNeg)]) (rest := []) ⟨hx, hb, hml, hown, hts⟩ (c_checkWith l dC dI H.size (mb_ck f a k) (f (nI a + nI k).toNatClampNeg)) (va_cwS 2 hts gX0_checkOf_X0_checkWith rfl rfl rfl (by decide +kernel) ⟨hR.1, hR.2⟩) ⟨fun a U g mk q => by obtain ⟨q0, q1, qP, qK, qD⟩ := q; exact ⟨q0, q1, qP, va_K.moved (u := U) (U := U.calling g mk a) (Vm.Alike.refl U.vm) qK, qD⟩, fun U hU hW => ⟨rfl, by rw [hU], by rw [hU]; exact hPc, va_K.moved hW.alike hKc, hDc.weaken (fun _ _ _ _ => trivial)⟩⟩ rfl rfl hl.1 rfl (lv_room (Nat.le_of_ble_eq_true rfl)) dX0_checkOf_19 ⟨hR2.1, hR2.2⟩) hS (fun q _ h => hFc q h) hFc (fun r1 u1 t H1 locs ht hvm hw_u1 hB hz1 hk1 hS => ?_)
      obtain ⟨hP1, hK1, hD1⟩ := hB
      rw [ht] at hP1
      obtain ⟨hP, hD⟩ := va_join (wr := [(h1, .inl (cA, n1, .inl f))]) (w1 := []) hP hD [] [0] rfl rfl (by decide) (by decide) hk1 hFc hP1 hD1
      clear hPc hDc hFc hk1 hP1 hD1 ht
      generalize H1 = H at hP hS ⊢
      have hP : va_P (dC, dI) vwCl [(h1, .inl (cA, n1, .inl f))] H := hP
      have hD : va_D A [(h1, .inl (cA, n1, .inl f))] := hD
      rw [hc] at hw_u1
      have er : mb_ck f a (k + 1) = r1 := hw_u1
      refine lv_istore_n (lv' := [(3, .int r1), (0, .ref h1), (1, .int (nI a)), (2, .int (nI n)), (4, .int (nI k))]) hx hb dX0_checkOf_22 rfl hl (by decide) rfl (fun ls hl => ?_)
      refine lv_iinc (v := nI (k + 1)) (lv' := [(4, .int (nI (k + 1))), (3, .int r1), (0, .ref h1), (1, .int (nI a)), (2, .int (nI n))]) hx hb dX0_checkOf_23 hl (k := 4) rfl (by rw [← nI_1]; rfl) (by decide) rfl (fun ls hl => ?_)
      refine lv_goto (tgt := 6) hx hb dX0_checkOf_26 (by decide) ?_
      have hl2 := lv_sub hl [2, 3, 4, 1, 0] rfl
      rw [← er] at hl2
      exact ih (k + 1) (by omega) _ _ hP hD hS kk ls hl2
set_option maxHeartbeats 4000000 in
set_option maxRecDepth 100000 in
/-- checkOf: the check of n cells from a on -/
theorem c_checkOf (l : Launch) (dC : Nat → ClassId) (dI : Nat → Nat → Nat) (sz : Nat) (h1 : Nat) (cA : ClassId) (n1 : Nat) (f : Nat → Int32) (a n : Nat) (hn : a + n ≤ n1) (hn1 : n1 < 2 ^ 31) : Met l yX0_checkOf wsX0_checkOf ({ frames := 1, cells := 0, slots := 0, locals := 23 }) (va_Pc [.ref h1, .int (nI a), .int (nI n)] (fun U => U.heap.size = sz ∧ va_P (dC, dI) vwCl [(h1, .inl (cA, n1, .inl f))] U.heap ∧ va_K (dC, dI) vwCl [(cA, .int)] U ∧ va_D (fun _ => True) [(h1, .inl (cA, n1, .inl f))])) (va_Qi (fun (r : Int32) (u2 : Unit) => mb_ck f a n = r) (at_W dC dI (va_A [(h1, .inl (cA, n1, .inl f))] sz) [(cA, .int)] (fun _ => [(h1, .inl (cA, n1, .inl f))])) (va_A [(h1, .inl (cA, n1, .inl f))] sz)) 0 0 (va_A [(h1, .inl (cA, n1, .inl f))] sz) := by
  refine Met.ofW (cc := cX0_checkOf) (maxL := 5) (ret := (some .int)) (by decide) rfl ?_
  intro p e s m args below meth c s₁ B hml hv
  obtain ⟨rfl, hsz, hP, hK, hD0⟩ := hv
  have hx := B.exec
  have hb := B.bytes
  have hr := B.returns
  have hts := atoms_spec (ws := wsX0_checkOf) B.pre
  have hown : s.vm.findClass RX0 = some m.cls := findClass_of_methodNamed B.named
  have hlocks := B.notSynchronized
  subst hsz
  have hD := hD0.self (sz := s.heap.size)
  generalize hAe : va_A [(h1, .inl (cA, n1, .inl f))] s.heap.size = A at hD ⊢
  have hA : ∀ q : Nat, s.heap.size ≤ q → A q := fun q h => by rw [← hAe]; exact Or.inr h
  have hS : va_S A s.heap s.heap [] := va_S.rf
  have hP : va_P (dC, dI) vwCl [(h1, .inl (cA, n1, .inl f))] s.heap := hP
  have hl := lv_entry ([.ref h1, .int (nI a), .int (nI n)]) (n := 5) (Nat.le_of_ble_eq_true rfl)
  rw [lg_entry_eq]
  generalize (lg_sl ([.ref h1, .int (nI a), .int (nI n)]) ++ List.replicate (5 - (lg_sl ([.ref h1, .int (nI a), .int (nI n)])).length) Slot.unset).toArray = ls at hl ⊢
  have hl : lv_has ls 5 [(0, .ref h1), (1, .int (nI a)), (2, .int (nI n))] := hl
  refine lv_ldc (v := (65535)) hx hb hown (hts (.constant RX0 42 (65535)) (by decide +kernel)) dX0_checkOf_0 ?_
  refine lv_istore_n (lv' := [(3, .int (65535)), (0, .ref h1), (1, .int (nI a)), (2, .int (nI n))]) hx hb dX0_checkOf_2 rfl hl (by decide) rfl (fun ls hl => ?_)
  refine lv_iconst (v := 0) hx hb dX0_checkOf_3 (by decide) ?_
  refine lv_istore (lv' := [(4, .int 0), (3, .int (65535)), (0, .ref h1), (1, .int (nI a)), (2, .int (nI n))]) hx hb dX0_checkOf_4 hl (by decide) rfl (fun ls hl => ?_)
  refine lp_checkOf hx hb hml hown hts hA dC dI h1 cA n1 f a n hn hn1 ⟨Nat.le_of_ble_eq_true rfl, Nat.le_of_ble_eq_true rfl⟩ ⟨Nat.le_of_ble_eq_true rfl, Nat.le_of_ble_eq_true rfl⟩ hK n 0 (by omega) _ _ hP hD hS ?_ ls (lv_sub hl [2, 3, 4, 1, 0] rfl)
  intro H locs hP hS ls hl
  refine lv_iload_n hx hb dX0_checkOf_29 rfl (lv_at hl 3 rfl) ?_
  have hP9 := hP.sub (ws' := [(h1, .inl (cA, n1, .inl f))]) [0] rfl
  have hD9 := hD.sub (ws' := [(h1, .inl (cA, n1, .inl f))]) [0] (by decide) rfl
  exact W.iret (v := (mb_ck f a n)) hx hb hr (fun t ht hW => ⟨⟨(mb_ck f a n), (), rfl, rfl, by rw [ht]; exact hP9, va_K.moved hW.alike hK, hD9⟩, hS.F ht⟩) hS.2.2 dX0_checkOf_30
end
section
set_option maxHeartbeats 4000000 in
set_option maxRecDepth 100000 in
/-- put -/
theorem c_put (l : Launch) (dC : Nat → ClassId) (dI : Nat → Nat → Nat) (sz : Nat) (h0 h1 h2 : Nat) (cA cB : ClassId) (u : Bk_) (b : Int32) (hu : mb_ok u) : Met l yX0_put wsX0_put ({ frames := 1, cells := 0, slots := 0, locals := 21 }) (va_Pc [.ref h0, .int b] (fun U => U.heap.size = sz ∧ va_P (dC, dI) vwCl [(h0, .inr (0, [.ref h1, .ref h2, .int u.2.2])), (h1, .inl (cA, 4096, .inl u.1)), (h2, .inl (cB, 512, .inl u.2.1))] U.heap ∧ va_K (dC, dI) vwCl [(cA, .int), (cB, .int)] U ∧ va_D (fun _ => True) [(h0, .inr (0, [.ref h1, .ref h2, .int u.2.2])), (h1, .inl (cA, 4096, .inl u.1)), (h2, .inl (cB, 512, .inl u.2.1))])) (va_Qi (fun (r : Int32) (u2 : Bk_) => mb_put u b = (r, u2)) (at_W dC dI (va_A [(h0, .inr (0, [.ref h1, .ref h2, .int u.2.2])), (h1, .inl (cA, 4096, .inl u.1)), (h2, .inl (cB, 512, .inl u.2.1))] sz) [(cA, .int), (cB, .int)] (bw_X0 h0 h1 h2 cA cB)) (va_A [(h0, .inr (0, [.ref h1, .ref h2, .int u.2.2])), (h1, .inl (cA, 4096, .inl u.1)), (h2, .inl (cB, 512, .inl u.2.1))] sz)) 0 0 (va_A [(h0, .inr (0, [.ref h1, .ref h2, .int u.2.2])), (h1, .inl (cA, 4096, .inl u.1)), (h2, .inl (cB, 512, .inl u.2.1))] sz) := by
  refine Met.ofW (cc := cX0_put) (maxL := 2) (ret := (some .int)) (by decide) rfl ?_
  intro p e s m args below meth c s₁ B hml hv
  obtain ⟨rfl, hsz, hP, hK, hD0⟩ := hv
  have hx := B.exec
  have hb := B.bytes
  have hr := B.returns
  have hts := atoms_spec (ws := wsX0_put) B.pre
  have hown : s.vm.findClass RX0 = some m.cls := findClass_of_methodNamed B.named
  have hlocks := B.notSynchronized
  subst hsz
  have hD := hD0.self (sz := s.heap.size)
  generalize hAe : va_A [(h0, .inr (0, [.ref h1, .ref h2, .int u.2.2])), (h1, .inl (cA, 4096, .inl u.1)), (h2, .inl (cB, 512, .inl u.2.1))] s.heap.size = A at hD ⊢
  have hA : ∀ q : Nat, s.heap.size ≤ q → A q := fun q h => by rw [← hAe]; exact Or.inr h
  have hS : va_S A s.heap s.heap [] := va_S.rf
  have hP : va_P (dC, dI) vwCl [(h0, .inr (0, [.ref h1, .ref h2, .int u.2.2])), (h1, .inl (cA, 4096, .inl u.1)), (h2, .inl (cB, 512, .inl u.2.1))] s.heap := hP
  have hl := lv_entry ([.ref h0, .int b]) (n := 2) (Nat.le_of_ble_eq_true rfl)
  rw [lg_entry_eq]
  generalize (lg_sl ([.ref h0, .int b]) ++ List.replicate (2 - (lg_sl ([.ref h0, .int b])).length) Slot.unset).toArray = ls at hl ⊢
  have hl : lv_has ls 2 [(0, .ref h0), (1, .int b)] := hl
  refine lv_aload_n hx hb dX0_put_0 rfl (lv_at hl 0 rfl) ?_
  refine lv_iconst (v := 1) hx hb dX0_put_1 (by decide) ?_
  have hPc := hP.sub (ws' := [(h0, .inr (0, [.ref h1, .ref h2, .int u.2.2])), (h1, .inl (cA, 4096, .inl u.1)), (h2, .inl (cB, 512, .inl u.2.1))]) [0, 1, 2] rfl
  have hDc := hD.sub (ws' := [(h0, .inr (0, [.ref h1, .ref h2, .int u.2.2])), (h1, .inl (cA, 4096, .inl u.1)), (h2, .inl (cB, 512, .inl u.2.1))]) [0, 1, 2] (by decide) rfl
  have hKc := hK.sub (tys' := [(cA, .int), (cB, .int)]) [0, 1] rfl
  have hFc := va_free (wc := [(h0, .inr (0, [.ref h1, .ref h2, .int u.2.2])), (h1, .inl (cA, 4096, .inl u.1)), (h2, .inl (cB, 512, .inl u.2.1))]) hD hS hA [0, 1, 2] rfl
  refine va_calli (va_runV (As := [.int 1]) (rest := []) ⟨hx, hb, hml, hown, hts⟩ (c_hasRoom l dC dI s.heap.size h0 h1 h2 cA cB u 1) (cwV 1 hts gX0_put_X0_hasRoom rfl rfl rfl (by decide +kernel) ⟨Nat.le_of_ble_eq_true rfl, Nat.le_of_ble_eq_true rfl⟩) ⟨fun a U g mk q => by obtain ⟨q0, q1, qP, qK, qD⟩ := q; exact ⟨q0, q1, qP, va_K.moved (u := U) (U := U.calling g mk a) (Vm.Alike.refl U.vm) qK, qD⟩, va_recv hKc hPc (ci := 0) (q0 := 0) rfl rfl, fun U hU hW => ⟨rfl, by rw [hU], by rw [hU]; exact hPc, va_K.moved hW.alike hKc, hDc.weaken (fun _ _ _ _ => trivial)⟩⟩ rfl rfl hl.1 rfl (lv_room (Nat.le_of_ble_eq_true rfl)) dX0_put_2 ⟨Nat.le_of_ble_eq_true rfl, Nat.le_of_ble_eq_true rfl⟩) hS (fun q _ h => hFc q h) hFc (fun r1 u1 t H1 locs ht hvm hw_u1 hB hz1 hk1 hS => ?_)
  obtain ⟨hP1, hK1, hD1⟩ := hB
  rw [ht] at hP1
  obtain ⟨hP, hD⟩ := va_join (wr := []) (w1 := [(h0, .inr (0, [.ref h1, .ref h2, .int u1.2.2])), (h1, .inl (cA, 4096, .inl u1.1)), (h2, .inl (cB, 512, .inl u1.2.1))]) hP hD [0, 1, 2] [] rfl rfl (by decide) (by decide) hk1 hFc hP1 hD1
  clear hPc hDc hFc hk1 hP1 hD1 ht
  generalize H1 = H at hP hS ⊢
  have hP : va_P (dC, dI) vwCl [(h0, .inr (0, [.ref h1, .ref h2, .int u1.2.2])), (h1, .inl (cA, 4096, .inl u1.1)), (h2, .inl (cB, 512, .inl u1.2.1))] H := hP
  have hD : va_D A [(h0, .inr (0, [.ref h1, .ref h2, .int u1.2.2])), (h1, .inl (cA, 4096, .inl u1.1)), (h2, .inl (cB, 512, .inl u1.2.1))] := hD
  obtain ⟨rfl, rfl⟩ := hw_u1
  have hP : va_P (dC, dI) vwCl [(h0, .inr (0, [.ref h1, .ref h2, .int u.2.2])), (h1, .inl (cA, 4096, .inl u.1)), (h2, .inl (cB, 512, .inl u.2.1))] H := hP
  have hD : va_D A [(h0, .inr (0, [.ref h1, .ref h2, .int u.2.2])), (h1, .inl (cA, 4096, .inl u.1)), (h2, .inl (cB, 512, .inl u.2.1))] := hD
  refine lv_if_ne (tgt := 10) hx hb dX0_put_5 (by decide) (fun c1 => ?_) (fun c1 => ?_)
  · have hq := (mb_room_iff hu.1).mp c1
    rw [mb_1] at hq
    refine lv_aload_n hx hb dX0_put_10 rfl (lv_at hl 0 rfl) ?_
    refine lv_iload_n hx hb dX0_put_11 rfl (lv_at hl 1 rfl) ?_
    have hPc := hP.sub (ws' := [(h0, .inr (0, [.ref h1, .ref h2, .int u.2.2])), (h1, .inl (cA, 4096, .inl u.1)), (h2, .inl (cB, 512, .inl u.2.1))]) [0, 1, 2] rfl
    have hDc := hD.sub (ws' := [(h0, .inr (0, [.ref h1, .ref h2, .int u.2.2])), (h1, .inl (cA, 4096, .inl u.1)), (h2, .inl (cB, 512, .inl u.2.1))]) [0, 1, 2] (by decide) rfl
    have hKc := hK.sub (tys' := [(cA, .int), (cB, .int)]) [0, 1] rfl
    have hFc := va_free (wc := [(h0, .inr (0, [.ref h1, .ref h2, .int u.2.2])), (h1, .inl (cA, 4096, .inl u.1)), (h2, .inl (cB, 512, .inl u.2.1))]) hD hS hA [0, 1, 2] rfl
    refine va_callv (va_runV (As := [.int b]) (rest := []) ⟨hx, hb, hml, hown, hts⟩ (c_append l dC dI H.size h0 h1 h2 cA cB u b ⟨hu.1, by omega⟩) (cwV 1 hts gX0_put_X0_append rfl rfl rfl (by decide +kernel) ⟨Nat.le_of_ble_eq_true rfl, Nat.le_of_ble_eq_true rfl⟩) ⟨fun a U g mk q => by obtain ⟨q0, q1, qP, qK, qD⟩ := q; exact ⟨q0, q1, qP, va_K.moved (u := U) (U := U.calling g mk a) (Vm.Alike.refl U.vm) qK, qD⟩, va_recv hKc hPc (ci := 0) (q0 := 0) rfl rfl, fun U hU hW => ⟨rfl, by rw [hU], by rw [hU]; exact hPc, va_K.moved hW.alike hKc, hDc.weaken (fun _ _ _ _ => trivial)⟩⟩ rfl rfl hl.1 rfl (lv_room (Nat.le_of_ble_eq_true rfl)) dX0_put_12 ⟨Nat.le_of_ble_eq_true rfl, Nat.le_of_ble_eq_true rfl⟩) hS (fun q _ h => hFc q h) hFc (fun u2 t H1 locs ht hvm hw_u2 hB hz1 hk1 hS => ?_)
    obtain ⟨hP1, hK1, hD1⟩ := hB
    rw [ht] at hP1
    obtain ⟨hP, hD⟩ := va_join (wr := []) (w1 := [(h0, .inr (0, [.ref h1, .ref h2, .int u2.2.2])), (h1, .inl (cA, 4096, .inl u2.1)), (h2, .inl (cB, 512, .inl u2.2.1))]) hP hD [0, 1, 2] [] rfl rfl (by decide) (by decide) hk1 hFc hP1 hD1
    clear hPc hDc hFc hk1 hP1 hD1 ht
    generalize H1 = H at hP hS ⊢
    have hP : va_P (dC, dI) vwCl [(h0, .inr (0, [.ref h1, .ref h2, .int u2.2.2])), (h1, .inl (cA, 4096, .inl u2.1)), (h2, .inl (cB, 512, .inl u2.2.1))] H := hP
    have hD : va_D A [(h0, .inr (0, [.ref h1, .ref h2, .int u2.2.2])), (h1, .inl (cA, 4096, .inl u2.1)), (h2, .inl (cB, 512, .inl u2.2.1))] := hD
    subst hw_u2
    have hP : va_P (dC, dI) vwCl [(h0, .inr (0, [.ref h1, .ref h2, .int (u.2.2 + 1)])), (h1, .inl (cA, 4096, .inl u.1)), (h2, .inl (cB, 512, .inl (mb_app u b).2.1))] H := hP
    have hD : va_D A [(h0, .inr (0, [.ref h1, .ref h2, .int (u.2.2 + 1)])), (h1, .inl (cA, 4096, .inl u.1)), (h2, .inl (cB, 512, .inl (mb_app u b).2.1))] := hD
    refine lv_aload_n hx hb dX0_put_15 rfl (lv_at hl 0 rfl) ?_
    refine va_get (D := (dC, dI)) (ci := 0) (v := .int (u.2.2 + 1)) (C := RX0) (T := TX0) (N := 3) hx hb hts (by decide +kernel) hown hK hP 0 rfl rfl 2 (by decide) (hts (.fieldLink RX0 16 "MemoryBank" "rowSize" "I") (by decide +kernel)) (fun _ h9 => h9) rfl dX0_put_16 ?_
    have hP9 := hP.sub (ws' := [(h0, .inr (0, [.ref h1, .ref h2, .int (u.2.2 + 1)])), (h1, .inl (cA, 4096, .inl u.1)), (h2, .inl (cB, 512, .inl (mb_app u b).2.1))]) [0, 1, 2] rfl
    have hD9 := hD.sub (ws' := [(h0, .inr (0, [.ref h1, .ref h2, .int (u.2.2 + 1)])), (h1, .inl (cA, 4096, .inl u.1)), (h2, .inl (cB, 512, .inl (mb_app u b).2.1))]) [0, 1, 2] (by decide) rfl
    exact W.iret (v := (u.2.2 + 1)) hx hb hr (fun t ht hW => ⟨⟨(u.2.2 + 1), mb_app u b, rfl, by unfold mb_put; rw [if_neg c1], by rw [ht]; exact hP9, va_K.moved hW.alike hK, hD9⟩, hS.F ht⟩) hS.2.2 dX0_put_19
  · refine lv_iconst (v := (-1)) hx hb dX0_put_8 (by decide) ?_
    have hP9 := hP.sub (ws' := [(h0, .inr (0, [.ref h1, .ref h2, .int u.2.2])), (h1, .inl (cA, 4096, .inl u.1)), (h2, .inl (cB, 512, .inl u.2.1))]) [0, 1, 2] rfl
    have hD9 := hD.sub (ws' := [(h0, .inr (0, [.ref h1, .ref h2, .int u.2.2])), (h1, .inl (cA, 4096, .inl u.1)), (h2, .inl (cB, 512, .inl u.2.1))]) [0, 1, 2] (by decide) rfl
    exact W.iret (v := (-1)) hx hb hr (fun t ht hW => ⟨⟨(-1), u, rfl, by unfold mb_put; rw [if_pos c1], by rw [ht]; exact hP9, va_K.moved hW.alike hK, hD9⟩, hS.F ht⟩) hS.2.2 dX0_put_9
set_option maxHeartbeats 4000000 in
set_option maxRecDepth 100000 in
/-- cut -/
theorem c_cut (l : Launch) (dC : Nat → ClassId) (dI : Nat → Nat → Nat) (sz : Nat) (h0 h1 h2 : Nat) (cA cB : ClassId) (u : Bk_) (n : Int32) (hu : mb_ok u) : Met l yX0_cut wsX0_cut ({ frames := 1, cells := 0, slots := 0, locals := 22 }) (va_Pc [.ref h0, .int n] (fun U => U.heap.size = sz ∧ va_P (dC, dI) vwCl [(h0, .inr (0, [.ref h1, .ref h2, .int u.2.2])), (h1, .inl (cA, 4096, .inl u.1)), (h2, .inl (cB, 512, .inl u.2.1))] U.heap ∧ va_K (dC, dI) vwCl [(cA, .int), (cB, .int)] U ∧ va_D (fun _ => True) [(h0, .inr (0, [.ref h1, .ref h2, .int u.2.2])), (h1, .inl (cA, 4096, .inl u.1)), (h2, .inl (cB, 512, .inl u.2.1))])) (va_Qi (fun (r : Int32) (u2 : Bk_) => mb_cut u n = (r, u2)) (at_W dC dI (va_A [(h0, .inr (0, [.ref h1, .ref h2, .int u.2.2])), (h1, .inl (cA, 4096, .inl u.1)), (h2, .inl (cB, 512, .inl u.2.1))] sz) [(cA, .int), (cB, .int)] (bw_X0 h0 h1 h2 cA cB)) (va_A [(h0, .inr (0, [.ref h1, .ref h2, .int u.2.2])), (h1, .inl (cA, 4096, .inl u.1)), (h2, .inl (cB, 512, .inl u.2.1))] sz)) 0 0 (va_A [(h0, .inr (0, [.ref h1, .ref h2, .int u.2.2])), (h1, .inl (cA, 4096, .inl u.1)), (h2, .inl (cB, 512, .inl u.2.1))] sz) := by
  refine Met.ofW (cc := cX0_cut) (maxL := 2) (ret := (some .boolean)) (by decide) rfl ?_
  intro p e s m args below meth c s₁ B hml hv
  obtain ⟨rfl, hsz, hP, hK, hD0⟩ := hv
  have hx := B.exec
  have hb := B.bytes
  have hr := B.returns
  have hts := atoms_spec (ws := wsX0_cut) B.pre
  have hown : s.vm.findClass RX0 = some m.cls := findClass_of_methodNamed B.named
  have hlocks := B.notSynchronized
  subst hsz
  have hD := hD0.self (sz := s.heap.size)
  generalize hAe : va_A [(h0, .inr (0, [.ref h1, .ref h2, .int u.2.2])), (h1, .inl (cA, 4096, .inl u.1)), (h2, .inl (cB, 512, .inl u.2.1))] s.heap.size = A at hD ⊢
  have hA : ∀ q : Nat, s.heap.size ≤ q → A q := fun q h => by rw [← hAe]; exact Or.inr h
  have hS : va_S A s.heap s.heap [] := va_S.rf
  have hP : va_P (dC, dI) vwCl [(h0, .inr (0, [.ref h1, .ref h2, .int u.2.2])), (h1, .inl (cA, 4096, .inl u.1)), (h2, .inl (cB, 512, .inl u.2.1))] s.heap := hP
  have hl := lv_entry ([.ref h0, .int n]) (n := 2) (Nat.le_of_ble_eq_true rfl)
  rw [lg_entry_eq]
  generalize (lg_sl ([.ref h0, .int n]) ++ List.replicate (2 - (lg_sl ([.ref h0, .int n])).length) Slot.unset).toArray = ls at hl ⊢
  have hl : lv_has ls 2 [(0, .ref h0), (1, .int n)] := hl
  refine lv_iconst (v := 0) hx hb dX0_cut_0 (by decide) ?_
  refine lv_iload_n hx hb dX0_cut_1 rfl (lv_at hl 1 rfl) ?_
  refine lv_aload_n hx hb dX0_cut_2 rfl (lv_at hl 0 rfl) ?_
  refine va_get (D := (dC, dI)) (ci := 0) (v := .int u.2.2) (C := RX0) (T := TX0) (N := 3) hx hb hts (by decide +kernel) hown hK hP 0 rfl rfl 2 (by decide) (hts (.fieldLink RX0 16 "MemoryBank" "rowSize" "I") (by decide +kernel)) (fun _ h9 => h9) rfl dX0_cut_3 ?_
  have hPc := hP.sub (ws' := []) [] rfl
  have hDc := hD.sub (ws' := []) [] (by decide) rfl
  have hKc := hK.sub (tys' := []) [] rfl
  have hFc := va_free (wc := []) hD hS hA [] rfl
  refine va_calli (va_runS (As := [.int 0, .int n, .int u.2.2]) (rest := []) ⟨hx, hb, hml, hown, hts⟩ (c_isPart l dC dI s.heap.size 0 n u.2.2) (va_cwS 3 hts gX0_cut_X0_isPart rfl rfl rfl (by decide +kernel) ⟨Nat.le_of_ble_eq_true rfl, Nat.le_of_ble_eq_true rfl⟩) ⟨fun a U g mk q => by obtain ⟨q0, q1, qP, qK, qD⟩ := q; exact ⟨q0, q1, qP, va_K.moved (u := U) (U := U.calling g mk a) (Vm.Alike.refl U.vm) qK, qD⟩, fun U hU hW => ⟨rfl, by rw [hU], by rw [hU]; exact hPc, va_K.moved hW.alike hKc, hDc.weaken (fun _ _ _ _ => trivial)⟩⟩ rfl rfl hl.1 rfl (lv_room (Nat.le_of_ble_eq_true rfl)) dX0_cut_6 ⟨Nat.le_of_ble_eq_true rfl, Nat.le_of_ble_eq_true rfl⟩) hS (fun q _ h => hFc q h) hFc (fun r1 u1 t H1 locs ht hvm hw_u1 hB hz1 hk1 hS => ?_)
  obtain ⟨hP1, hK1, hD1⟩ := hB
  rw [ht] at hP1
  obtain ⟨hP, hD⟩ := va_join (wr := [(h0, .inr (0, [.ref h1, .ref h2, .int u.2.2])), (h1, .inl (cA, 4096, .inl u.1)), (h2, .inl (cB, 512, .inl u.2.1))]) (w1 := []) hP hD [] [0, 1, 2] rfl rfl (by decide) (by decide) hk1 hFc hP1 hD1
  clear hPc hDc hFc hk1 hP1 hD1 ht
  generalize H1 = H at hP hS ⊢
  have hP : va_P (dC, dI) vwCl [(h0, .inr (0, [.ref h1, .ref h2, .int u.2.2])), (h1, .inl (cA, 4096, .inl u.1)), (h2, .inl (cB, 512, .inl u.2.1))] H := hP
  have hD : va_D A [(h0, .inr (0, [.ref h1, .ref h2, .int u.2.2])), (h1, .inl (cA, 4096, .inl u.1)), (h2, .inl (cB, 512, .inl u.2.1))] := hD
  subst hw_u1
  refine lv_if_ne (tgt := 14) hx hb dX0_cut_9 (by decide) (fun c1 => ?_) (fun c1 => ?_)
  · refine lv_aload_n hx hb dX0_cut_14 rfl (lv_at hl 0 rfl) ?_
    refine lv_iload_n hx hb dX0_cut_15 rfl (lv_at hl 1 rfl) ?_
    refine va_put (D := (dC, dI)) (ci := 0) (v := .int n) (ty := .int) (C := RX0) (T := TX0) (N := 3) hx hb hts (by decide +kernel) tyX0 tyX0_ok nmX0 hown hK hP hD hS 0 rfl rfl 2 (by decide) (hts (.fieldLink RX0 16 "MemoryBank" "rowSize" "I") (by decide +kernel)) (fun _ h9 => h9) rfl (by decide +kernel) rfl rfl (Nat.le_of_ble_eq_true rfl) dX0_cut_16 (fun H locs hP hD hS => ?_)
    have hP : va_P (dC, dI) vwCl [(h0, .inr (0, [.ref h1, .ref h2, .int n])), (h1, .inl (cA, 4096, .inl u.1)), (h2, .inl (cB, 512, .inl u.2.1))] H := hP
    have hD : va_D A [(h0, .inr (0, [.ref h1, .ref h2, .int n])), (h1, .inl (cA, 4096, .inl u.1)), (h2, .inl (cB, 512, .inl u.2.1))] := hD
    refine lv_iconst (v := 1) hx hb dX0_cut_19 (by decide) ?_
    have hP9 := hP.sub (ws' := [(h0, .inr (0, [.ref h1, .ref h2, .int n])), (h1, .inl (cA, 4096, .inl u.1)), (h2, .inl (cB, 512, .inl u.2.1))]) [0, 1, 2] rfl
    have hD9 := hD.sub (ws' := [(h0, .inr (0, [.ref h1, .ref h2, .int n])), (h1, .inl (cA, 4096, .inl u.1)), (h2, .inl (cB, 512, .inl u.2.1))]) [0, 1, 2] (by decide) rfl
    exact W.zret (v := 1) hx hb hr (by decide) (fun t ht hW => ⟨⟨1, (u.1, u.2.1, n), rfl, by unfold mb_cut; rw [if_neg c1], by rw [ht]; exact hP9, va_K.moved hW.alike hK, hD9⟩, hS.F ht⟩) hS.2.2 dX0_cut_20
  · refine lv_iconst (v := 0) hx hb dX0_cut_12 (by decide) ?_
    have hP9 := hP.sub (ws' := [(h0, .inr (0, [.ref h1, .ref h2, .int u.2.2])), (h1, .inl (cA, 4096, .inl u.1)), (h2, .inl (cB, 512, .inl u.2.1))]) [0, 1, 2] rfl
    have hD9 := hD.sub (ws' := [(h0, .inr (0, [.ref h1, .ref h2, .int u.2.2])), (h1, .inl (cA, 4096, .inl u.1)), (h2, .inl (cB, 512, .inl u.2.1))]) [0, 1, 2] (by decide) rfl
    exact W.zret (v := 0) hx hb hr (by decide) (fun t ht hW => ⟨⟨0, u, rfl, by unfold mb_cut; rw [if_pos c1], by rw [ht]; exact hP9, va_K.moved hW.alike hK, hD9⟩, hS.F ht⟩) hS.2.2 dX0_cut_13
set_option maxHeartbeats 4000000 in
set_option maxRecDepth 100000 in
/-- size -/
theorem c_size (l : Launch) (dC : Nat → ClassId) (dI : Nat → Nat → Nat) (sz : Nat) (h0 h1 h2 : Nat) (cA cB : ClassId) (u : Bk_) (hu : mb_ok u) : Met l yX0_size wsX0_size ({ frames := 0, cells := 0, slots := 0, locals := 0 }) (va_Pc [.ref h0] (fun U => U.heap.size = sz ∧ va_P (dC, dI) vwCl [(h0, .inr (0, [.ref h1, .ref h2, .int u.2.2])), (h1, .inl (cA, 4096, .inl u.1)), (h2, .inl (cB, 512, .inl u.2.1))] U.heap ∧ va_K (dC, dI) vwCl [(cA, .int), (cB, .int)] U ∧ va_D (fun _ => True) [(h0, .inr (0, [.ref h1, .ref h2, .int u.2.2])), (h1, .inl (cA, 4096, .inl u.1)), (h2, .inl (cB, 512, .inl u.2.1))])) (va_Qi (fun (r : Int32) (u2 : Bk_) => mb_size u = (r, u2)) (at_W dC dI (va_A [(h0, .inr (0, [.ref h1, .ref h2, .int u.2.2])), (h1, .inl (cA, 4096, .inl u.1)), (h2, .inl (cB, 512, .inl u.2.1))] sz) [(cA, .int), (cB, .int)] (bw_X0 h0 h1 h2 cA cB)) (va_A [(h0, .inr (0, [.ref h1, .ref h2, .int u.2.2])), (h1, .inl (cA, 4096, .inl u.1)), (h2, .inl (cB, 512, .inl u.2.1))] sz)) 0 0 (va_A [(h0, .inr (0, [.ref h1, .ref h2, .int u.2.2])), (h1, .inl (cA, 4096, .inl u.1)), (h2, .inl (cB, 512, .inl u.2.1))] sz) := by
  refine Met.ofW (cc := cX0_size) (maxL := 1) (ret := (some .int)) (by decide) rfl ?_
  intro p e s m args below meth c s₁ B hml hv
  obtain ⟨rfl, hsz, hP, hK, hD0⟩ := hv
  have hx := B.exec
  have hb := B.bytes
  have hr := B.returns
  have hts := atoms_spec (ws := wsX0_size) B.pre
  have hown : s.vm.findClass RX0 = some m.cls := findClass_of_methodNamed B.named
  have hlocks := B.notSynchronized
  subst hsz
  have hD := hD0.self (sz := s.heap.size)
  generalize hAe : va_A [(h0, .inr (0, [.ref h1, .ref h2, .int u.2.2])), (h1, .inl (cA, 4096, .inl u.1)), (h2, .inl (cB, 512, .inl u.2.1))] s.heap.size = A at hD ⊢
  have hA : ∀ q : Nat, s.heap.size ≤ q → A q := fun q h => by rw [← hAe]; exact Or.inr h
  have hS : va_S A s.heap s.heap [] := va_S.rf
  have hP : va_P (dC, dI) vwCl [(h0, .inr (0, [.ref h1, .ref h2, .int u.2.2])), (h1, .inl (cA, 4096, .inl u.1)), (h2, .inl (cB, 512, .inl u.2.1))] s.heap := hP
  have hl := lv_entry ([.ref h0]) (n := 1) (Nat.le_of_ble_eq_true rfl)
  rw [lg_entry_eq]
  generalize (lg_sl ([.ref h0]) ++ List.replicate (1 - (lg_sl ([.ref h0])).length) Slot.unset).toArray = ls at hl ⊢
  have hl : lv_has ls 1 [(0, .ref h0)] := hl
  refine lv_aload_n hx hb dX0_size_0 rfl (lv_at hl 0 rfl) ?_
  refine va_get (D := (dC, dI)) (ci := 0) (v := .int u.2.2) (C := RX0) (T := TX0) (N := 3) hx hb hts (by decide +kernel) hown hK hP 0 rfl rfl 2 (by decide) (hts (.fieldLink RX0 16 "MemoryBank" "rowSize" "I") (by decide +kernel)) (fun _ h9 => h9) rfl dX0_size_1 ?_
  have hP9 := hP.sub (ws' := [(h0, .inr (0, [.ref h1, .ref h2, .int u.2.2])), (h1, .inl (cA, 4096, .inl u.1)), (h2, .inl (cB, 512, .inl u.2.1))]) [0, 1, 2] rfl
  have hD9 := hD.sub (ws' := [(h0, .inr (0, [.ref h1, .ref h2, .int u.2.2])), (h1, .inl (cA, 4096, .inl u.1)), (h2, .inl (cB, 512, .inl u.2.1))]) [0, 1, 2] (by decide) rfl
  exact W.iret (v := u.2.2) hx hb hr (fun t ht hW => ⟨⟨u.2.2, u, rfl, rfl, by rw [ht]; exact hP9, va_K.moved hW.alike hK, hD9⟩, hS.F ht⟩) hS.2.2 dX0_size_4
set_option maxHeartbeats 4000000 in
set_option maxRecDepth 100000 in
/-- rowAt -/
theorem c_rowAt (l : Launch) (dC : Nat → ClassId) (dI : Nat → Nat → Nat) (sz : Nat) (h0 h1 h2 : Nat) (cA cB : ClassId) (u : Bk_) (k : Int32) (hu : mb_ok u) : Met l yX0_rowAt wsX0_rowAt ({ frames := 1, cells := 0, slots := 0, locals := 22 }) (va_Pc [.ref h0, .int k] (fun U => U.heap.size = sz ∧ va_P (dC, dI) vwCl [(h0, .inr (0, [.ref h1, .ref h2, .int u.2.2])), (h1, .inl (cA, 4096, .inl u.1)), (h2, .inl (cB, 512, .inl u.2.1))] U.heap ∧ va_K (dC, dI) vwCl [(cA, .int), (cB, .int)] U ∧ va_D (fun _ => True) [(h0, .inr (0, [.ref h1, .ref h2, .int u.2.2])), (h1, .inl (cA, 4096, .inl u.1)), (h2, .inl (cB, 512, .inl u.2.1))])) (va_Qi (fun (r : Int32) (u2 : Bk_) => mb_rowAt u k = (r, u2)) (at_W dC dI (va_A [(h0, .inr (0, [.ref h1, .ref h2, .int u.2.2])), (h1, .inl (cA, 4096, .inl u.1)), (h2, .inl (cB, 512, .inl u.2.1))] sz) [(cA, .int), (cB, .int)] (bw_X0 h0 h1 h2 cA cB)) (va_A [(h0, .inr (0, [.ref h1, .ref h2, .int u.2.2])), (h1, .inl (cA, 4096, .inl u.1)), (h2, .inl (cB, 512, .inl u.2.1))] sz)) 0 0 (va_A [(h0, .inr (0, [.ref h1, .ref h2, .int u.2.2])), (h1, .inl (cA, 4096, .inl u.1)), (h2, .inl (cB, 512, .inl u.2.1))] sz) := by
  refine Met.ofW (cc := cX0_rowAt) (maxL := 2) (ret := (some .int)) (by decide) rfl ?_
  intro p e s m args below meth c s₁ B hml hv
  obtain ⟨rfl, hsz, hP, hK, hD0⟩ := hv
  have hx := B.exec
  have hb := B.bytes
  have hr := B.returns
  have hts := atoms_spec (ws := wsX0_rowAt) B.pre
  have hown : s.vm.findClass RX0 = some m.cls := findClass_of_methodNamed B.named
  have hlocks := B.notSynchronized
  subst hsz
  have hD := hD0.self (sz := s.heap.size)
  generalize hAe : va_A [(h0, .inr (0, [.ref h1, .ref h2, .int u.2.2])), (h1, .inl (cA, 4096, .inl u.1)), (h2, .inl (cB, 512, .inl u.2.1))] s.heap.size = A at hD ⊢
  have hA : ∀ q : Nat, s.heap.size ≤ q → A q := fun q h => by rw [← hAe]; exact Or.inr h
  have hS : va_S A s.heap s.heap [] := va_S.rf
  have hP : va_P (dC, dI) vwCl [(h0, .inr (0, [.ref h1, .ref h2, .int u.2.2])), (h1, .inl (cA, 4096, .inl u.1)), (h2, .inl (cB, 512, .inl u.2.1))] s.heap := hP
  have hl := lv_entry ([.ref h0, .int k]) (n := 2) (Nat.le_of_ble_eq_true rfl)
  rw [lg_entry_eq]
  generalize (lg_sl ([.ref h0, .int k]) ++ List.replicate (2 - (lg_sl ([.ref h0, .int k])).length) Slot.unset).toArray = ls at hl ⊢
  have hl : lv_has ls 2 [(0, .ref h0), (1, .int k)] := hl
  refine lv_iload_n hx hb dX0_rowAt_0 rfl (lv_at hl 1 rfl) ?_
  refine lv_iconst (v := 1) hx hb dX0_rowAt_1 (by decide) ?_
  refine lv_aload_n hx hb dX0_rowAt_2 rfl (lv_at hl 0 rfl) ?_
  refine va_get (D := (dC, dI)) (ci := 0) (v := .int u.2.2) (C := RX0) (T := TX0) (N := 3) hx hb hts (by decide +kernel) hown hK hP 0 rfl rfl 2 (by decide) (hts (.fieldLink RX0 16 "MemoryBank" "rowSize" "I") (by decide +kernel)) (fun _ h9 => h9) rfl dX0_rowAt_3 ?_
  have hPc := hP.sub (ws' := []) [] rfl
  have hDc := hD.sub (ws' := []) [] (by decide) rfl
  have hKc := hK.sub (tys' := []) [] rfl
  have hFc := va_free (wc := []) hD hS hA [] rfl
  refine va_calli (va_runS (As := [.int k, .int 1, .int u.2.2]) (rest := []) ⟨hx, hb, hml, hown, hts⟩ (c_isPart l dC dI s.heap.size k 1 u.2.2) (va_cwS 3 hts gX0_rowAt_X0_isPart rfl rfl rfl (by decide +kernel) ⟨Nat.le_of_ble_eq_true rfl, Nat.le_of_ble_eq_true rfl⟩) ⟨fun a U g mk q => by obtain ⟨q0, q1, qP, qK, qD⟩ := q; exact ⟨q0, q1, qP, va_K.moved (u := U) (U := U.calling g mk a) (Vm.Alike.refl U.vm) qK, qD⟩, fun U hU hW => ⟨rfl, by rw [hU], by rw [hU]; exact hPc, va_K.moved hW.alike hKc, hDc.weaken (fun _ _ _ _ => trivial)⟩⟩ rfl rfl hl.1 rfl (lv_room (Nat.le_of_ble_eq_true rfl)) dX0_rowAt_6 ⟨Nat.le_of_ble_eq_true rfl, Nat.le_of_ble_eq_true rfl⟩) hS (fun q _ h => hFc q h) hFc (fun r1 u1 t H1 locs ht hvm hw_u1 hB hz1 hk1 hS => ?_)
  obtain ⟨hP1, hK1, hD1⟩ := hB
  rw [ht] at hP1
  obtain ⟨hP, hD⟩ := va_join (wr := [(h0, .inr (0, [.ref h1, .ref h2, .int u.2.2])), (h1, .inl (cA, 4096, .inl u.1)), (h2, .inl (cB, 512, .inl u.2.1))]) (w1 := []) hP hD [] [0, 1, 2] rfl rfl (by decide) (by decide) hk1 hFc hP1 hD1
  clear hPc hDc hFc hk1 hP1 hD1 ht
  generalize H1 = H at hP hS ⊢
  have hP : va_P (dC, dI) vwCl [(h0, .inr (0, [.ref h1, .ref h2, .int u.2.2])), (h1, .inl (cA, 4096, .inl u.1)), (h2, .inl (cB, 512, .inl u.2.1))] H := hP
  have hD : va_D A [(h0, .inr (0, [.ref h1, .ref h2, .int u.2.2])), (h1, .inl (cA, 4096, .inl u.1)), (h2, .inl (cB, 512, .inl u.2.1))] := hD
  subst hw_u1
  refine lv_if_eq (tgt := 21) hx hb dX0_rowAt_9 (by decide) (fun c1 => ?_) (fun c1 => ?_)
  · refine lv_iconst (v := (-1)) hx hb dX0_rowAt_21 (by decide) ?_
    have hP9 := hP.sub (ws' := [(h0, .inr (0, [.ref h1, .ref h2, .int u.2.2])), (h1, .inl (cA, 4096, .inl u.1)), (h2, .inl (cB, 512, .inl u.2.1))]) [0, 1, 2] rfl
    have hD9 := hD.sub (ws' := [(h0, .inr (0, [.ref h1, .ref h2, .int u.2.2])), (h1, .inl (cA, 4096, .inl u.1)), (h2, .inl (cB, 512, .inl u.2.1))]) [0, 1, 2] (by decide) rfl
    exact W.iret (v := (-1)) hx hb hr (fun t ht hW => ⟨⟨(-1), u, rfl, by unfold mb_rowAt; rw [if_pos c1], by rw [ht]; exact hP9, va_K.moved hW.alike hK, hD9⟩, hS.F ht⟩) hS.2.2 dX0_rowAt_22
  · have hq := (mb_part_iff hu.1).mp c1
    rw [mb_1] at hq
    have hu2 := hu.2
    refine lv_aload_n hx hb dX0_rowAt_12 rfl (lv_at hl 0 rfl) ?_
    refine va_get (D := (dC, dI)) (ci := 0) (v := .ref h2) (C := RX0) (T := TX0) (N := 3) hx hb hts (by decide +kernel) hown hK hP 0 rfl rfl 1 (by decide) (hts (.fieldLink RX0 13 "MemoryBank" "row" "[I") (by decide +kernel)) (fun _ h9 => h9) rfl dX0_rowAt_13 ?_
    refine lv_iload_n hx hb dX0_rowAt_16 rfl (lv_at hl 1 rfl) ?_
    refine va_iald hx hb hK hP 2 1 rfl rfl (mb_in hq.1 (by omega)) dX0_rowAt_17 ?_
    refine lv_goto (tgt := 22) hx hb dX0_rowAt_18 (by decide) ?_
    have hP9 := hP.sub (ws' := [(h0, .inr (0, [.ref h1, .ref h2, .int u.2.2])), (h1, .inl (cA, 4096, .inl u.1)), (h2, .inl (cB, 512, .inl u.2.1))]) [0, 1, 2] rfl
    have hD9 := hD.sub (ws' := [(h0, .inr (0, [.ref h1, .ref h2, .int u.2.2])), (h1, .inl (cA, 4096, .inl u.1)), (h2, .inl (cB, 512, .inl u.2.1))]) [0, 1, 2] (by decide) rfl
    exact W.iret (v := (u.2.1 (k).toNatClampNeg)) hx hb hr (fun t ht hW => ⟨⟨(u.2.1 (k).toNatClampNeg), u, rfl, by unfold mb_rowAt; rw [if_neg c1], by rw [ht]; exact hP9, va_K.moved hW.alike hK, hD9⟩, hS.F ht⟩) hS.2.2 dX0_rowAt_22
set_option maxHeartbeats 4000000 in
set_option maxRecDepth 100000 in
/-- at -/
theorem c_at (l : Launch) (dC : Nat → ClassId) (dI : Nat → Nat → Nat) (sz : Nat) (h0 h1 h2 : Nat) (cA cB : ClassId) (u : Bk_) (k : Int32) (hu : mb_ok u) : Met l yX0_at wsX0_at ({ frames := 1, cells := 0, slots := 0, locals := 22 }) (va_Pc [.ref h0, .int k] (fun U => U.heap.size = sz ∧ va_P (dC, dI) vwCl [(h0, .inr (0, [.ref h1, .ref h2, .int u.2.2])), (h1, .inl (cA, 4096, .inl u.1)), (h2, .inl (cB, 512, .inl u.2.1))] U.heap ∧ va_K (dC, dI) vwCl [(cA, .int), (cB, .int)] U ∧ va_D (fun _ => True) [(h0, .inr (0, [.ref h1, .ref h2, .int u.2.2])), (h1, .inl (cA, 4096, .inl u.1)), (h2, .inl (cB, 512, .inl u.2.1))])) (va_Qi (fun (r : Int32) (u2 : Bk_) => mb_at u k = (r, u2)) (at_W dC dI (va_A [(h0, .inr (0, [.ref h1, .ref h2, .int u.2.2])), (h1, .inl (cA, 4096, .inl u.1)), (h2, .inl (cB, 512, .inl u.2.1))] sz) [(cA, .int), (cB, .int)] (bw_X0 h0 h1 h2 cA cB)) (va_A [(h0, .inr (0, [.ref h1, .ref h2, .int u.2.2])), (h1, .inl (cA, 4096, .inl u.1)), (h2, .inl (cB, 512, .inl u.2.1))] sz)) 0 0 (va_A [(h0, .inr (0, [.ref h1, .ref h2, .int u.2.2])), (h1, .inl (cA, 4096, .inl u.1)), (h2, .inl (cB, 512, .inl u.2.1))] sz) := by
  refine Met.ofW (cc := cX0_at) (maxL := 2) (ret := (some .int)) (by decide) rfl ?_
  intro p e s m args below meth c s₁ B hml hv
  obtain ⟨rfl, hsz, hP, hK, hD0⟩ := hv
  have hx := B.exec
  have hb := B.bytes
  have hr := B.returns
  have hts := atoms_spec (ws := wsX0_at) B.pre
  have hown : s.vm.findClass RX0 = some m.cls := findClass_of_methodNamed B.named
  have hlocks := B.notSynchronized
  subst hsz
  have hD := hD0.self (sz := s.heap.size)
  generalize hAe : va_A [(h0, .inr (0, [.ref h1, .ref h2, .int u.2.2])), (h1, .inl (cA, 4096, .inl u.1)), (h2, .inl (cB, 512, .inl u.2.1))] s.heap.size = A at hD ⊢
  have hA : ∀ q : Nat, s.heap.size ≤ q → A q := fun q h => by rw [← hAe]; exact Or.inr h
  have hS : va_S A s.heap s.heap [] := va_S.rf
  have hP : va_P (dC, dI) vwCl [(h0, .inr (0, [.ref h1, .ref h2, .int u.2.2])), (h1, .inl (cA, 4096, .inl u.1)), (h2, .inl (cB, 512, .inl u.2.1))] s.heap := hP
  have hl := lv_entry ([.ref h0, .int k]) (n := 2) (Nat.le_of_ble_eq_true rfl)
  rw [lg_entry_eq]
  generalize (lg_sl ([.ref h0, .int k]) ++ List.replicate (2 - (lg_sl ([.ref h0, .int k])).length) Slot.unset).toArray = ls at hl ⊢
  have hl : lv_has ls 2 [(0, .ref h0), (1, .int k)] := hl
  refine lv_iload_n hx hb dX0_at_0 rfl (lv_at hl 1 rfl) ?_
  refine lv_iconst (v := 1) hx hb dX0_at_1 (by decide) ?_
  refine lv_sipush (v := 4096) hx hb dX0_at_2 (by decide) ?_
  have hPc := hP.sub (ws' := []) [] rfl
  have hDc := hD.sub (ws' := []) [] (by decide) rfl
  have hKc := hK.sub (tys' := []) [] rfl
  have hFc := va_free (wc := []) hD hS hA [] rfl
  refine va_calli (va_runS (As := [.int k, .int 1, .int 4096]) (rest := []) ⟨hx, hb, hml, hown, hts⟩ (c_isPart l dC dI s.heap.size k 1 4096) (va_cwS 3 hts gX0_at_X0_isPart rfl rfl rfl (by decide +kernel) ⟨Nat.le_of_ble_eq_true rfl, Nat.le_of_ble_eq_true rfl⟩) ⟨fun a U g mk q => by obtain ⟨q0, q1, qP, qK, qD⟩ := q; exact ⟨q0, q1, qP, va_K.moved (u := U) (U := U.calling g mk a) (Vm.Alike.refl U.vm) qK, qD⟩, fun U hU hW => ⟨rfl, by rw [hU], by rw [hU]; exact hPc, va_K.moved hW.alike hKc, hDc.weaken (fun _ _ _ _ => trivial)⟩⟩ rfl rfl hl.1 rfl (lv_room (Nat.le_of_ble_eq_true rfl)) dX0_at_5 ⟨Nat.le_of_ble_eq_true rfl, Nat.le_of_ble_eq_true rfl⟩) hS (fun q _ h => hFc q h) hFc (fun r1 u1 t H1 locs ht hvm hw_u1 hB hz1 hk1 hS => ?_)
  obtain ⟨hP1, hK1, hD1⟩ := hB
  rw [ht] at hP1
  obtain ⟨hP, hD⟩ := va_join (wr := [(h0, .inr (0, [.ref h1, .ref h2, .int u.2.2])), (h1, .inl (cA, 4096, .inl u.1)), (h2, .inl (cB, 512, .inl u.2.1))]) (w1 := []) hP hD [] [0, 1, 2] rfl rfl (by decide) (by decide) hk1 hFc hP1 hD1
  clear hPc hDc hFc hk1 hP1 hD1 ht
  generalize H1 = H at hP hS ⊢
  have hP : va_P (dC, dI) vwCl [(h0, .inr (0, [.ref h1, .ref h2, .int u.2.2])), (h1, .inl (cA, 4096, .inl u.1)), (h2, .inl (cB, 512, .inl u.2.1))] H := hP
  have hD : va_D A [(h0, .inr (0, [.ref h1, .ref h2, .int u.2.2])), (h1, .inl (cA, 4096, .inl u.1)), (h2, .inl (cB, 512, .inl u.2.1))] := hD
  subst hw_u1
  refine lv_if_eq (tgt := 20) hx hb dX0_at_8 (by decide) (fun c1 => ?_) (fun c1 => ?_)
  · refine lv_iconst (v := (-1)) hx hb dX0_at_20 (by decide) ?_
    have hP9 := hP.sub (ws' := [(h0, .inr (0, [.ref h1, .ref h2, .int u.2.2])), (h1, .inl (cA, 4096, .inl u.1)), (h2, .inl (cB, 512, .inl u.2.1))]) [0, 1, 2] rfl
    have hD9 := hD.sub (ws' := [(h0, .inr (0, [.ref h1, .ref h2, .int u.2.2])), (h1, .inl (cA, 4096, .inl u.1)), (h2, .inl (cB, 512, .inl u.2.1))]) [0, 1, 2] (by decide) rfl
    exact W.iret (v := (-1)) hx hb hr (fun t ht hW => ⟨⟨(-1), u, rfl, by unfold mb_at; rw [if_pos c1], by rw [ht]; exact hP9, va_K.moved hW.alike hK, hD9⟩, hS.F ht⟩) hS.2.2 dX0_at_21
  · have hq := (mb_part_iff (by decide)).mp c1
    rw [mb_1, mb_4096] at hq
    refine lv_aload_n hx hb dX0_at_11 rfl (lv_at hl 0 rfl) ?_
    refine va_get (D := (dC, dI)) (ci := 0) (v := .ref h1) (C := RX0) (T := TX0) (N := 3) hx hb hts (by decide +kernel) hown hK hP 0 rfl rfl 0 (by decide) (hts (.fieldLink RX0 9 "MemoryBank" "memory" "[I") (by decide +kernel)) (fun _ h9 => h9) rfl dX0_at_12 ?_
    refine lv_iload_n hx hb dX0_at_15 rfl (lv_at hl 1 rfl) ?_
    refine va_iald hx hb hK hP 1 0 rfl rfl (mb_in hq.1 (by omega)) dX0_at_16 ?_
    refine lv_goto (tgt := 21) hx hb dX0_at_17 (by decide) ?_
    have hP9 := hP.sub (ws' := [(h0, .inr (0, [.ref h1, .ref h2, .int u.2.2])), (h1, .inl (cA, 4096, .inl u.1)), (h2, .inl (cB, 512, .inl u.2.1))]) [0, 1, 2] rfl
    have hD9 := hD.sub (ws' := [(h0, .inr (0, [.ref h1, .ref h2, .int u.2.2])), (h1, .inl (cA, 4096, .inl u.1)), (h2, .inl (cB, 512, .inl u.2.1))]) [0, 1, 2] (by decide) rfl
    exact W.iret (v := (u.1 (k).toNatClampNeg)) hx hb hr (fun t ht hW => ⟨⟨(u.1 (k).toNatClampNeg), u, rfl, by unfold mb_at; rw [if_neg c1], by rw [ht]; exact hP9, va_K.moved hW.alike hK, hD9⟩, hS.F ht⟩) hS.2.2 dX0_at_21
set_option maxHeartbeats 4000000 in
set_option maxRecDepth 100000 in
/-- load -/
theorem c_load (l : Launch) (dC : Nat → ClassId) (dI : Nat → Nat → Nat) (sz : Nat) (h0 h1 h2 : Nat) (cA cB : ClassId) (u : Bk_) (k n a : Int32) (hu : mb_ok u) : Met l yX0_load wsX0_load ({ frames := 1, cells := 0, slots := 0, locals := 22 }) (va_Pc [.ref h0, .int k, .int n, .int a] (fun U => U.heap.size = sz ∧ va_P (dC, dI) vwCl [(h0, .inr (0, [.ref h1, .ref h2, .int u.2.2])), (h1, .inl (cA, 4096, .inl u.1)), (h2, .inl (cB, 512, .inl u.2.1))] U.heap ∧ va_K (dC, dI) vwCl [(cA, .int), (cB, .int)] U ∧ va_D (fun _ => True) [(h0, .inr (0, [.ref h1, .ref h2, .int u.2.2])), (h1, .inl (cA, 4096, .inl u.1)), (h2, .inl (cB, 512, .inl u.2.1))])) (va_Qi (fun (r : Int32) (u2 : Bk_) => mb_load u k n a = (r, u2)) (at_W dC dI (va_A [(h0, .inr (0, [.ref h1, .ref h2, .int u.2.2])), (h1, .inl (cA, 4096, .inl u.1)), (h2, .inl (cB, 512, .inl u.2.1))] sz) [(cA, .int), (cB, .int)] (bw_X0 h0 h1 h2 cA cB)) (va_A [(h0, .inr (0, [.ref h1, .ref h2, .int u.2.2])), (h1, .inl (cA, 4096, .inl u.1)), (h2, .inl (cB, 512, .inl u.2.1))] sz)) 0 0 (va_A [(h0, .inr (0, [.ref h1, .ref h2, .int u.2.2])), (h1, .inl (cA, 4096, .inl u.1)), (h2, .inl (cB, 512, .inl u.2.1))] sz) := by
  refine Met.ofW (cc := cX0_load) (maxL := 4) (ret := (some .boolean)) (by decide) rfl ?_
  intro p e s m args below meth c s₁ B hml hv
  obtain ⟨rfl, hsz, hP, hK, hD0⟩ := hv
  have hx := B.exec
  have hb := B.bytes
  have hr := B.returns
  have hts := atoms_spec (ws := wsX0_load) B.pre
  have hown : s.vm.findClass RX0 = some m.cls := findClass_of_methodNamed B.named
  have hlocks := B.notSynchronized
  subst hsz
  have hD := hD0.self (sz := s.heap.size)
  generalize hAe : va_A [(h0, .inr (0, [.ref h1, .ref h2, .int u.2.2])), (h1, .inl (cA, 4096, .inl u.1)), (h2, .inl (cB, 512, .inl u.2.1))] s.heap.size = A at hD ⊢
  have hA : ∀ q : Nat, s.heap.size ≤ q → A q := fun q h => by rw [← hAe]; exact Or.inr h
  have hS : va_S A s.heap s.heap [] := va_S.rf
  have hP : va_P (dC, dI) vwCl [(h0, .inr (0, [.ref h1, .ref h2, .int u.2.2])), (h1, .inl (cA, 4096, .inl u.1)), (h2, .inl (cB, 512, .inl u.2.1))] s.heap := hP
  have hl := lv_entry ([.ref h0, .int k, .int n, .int a]) (n := 4) (Nat.le_of_ble_eq_true rfl)
  rw [lg_entry_eq]
  generalize (lg_sl ([.ref h0, .int k, .int n, .int a]) ++ List.replicate (4 - (lg_sl ([.ref h0, .int k, .int n, .int a])).length) Slot.unset).toArray = ls at hl ⊢
  have hl : lv_has ls 4 [(0, .ref h0), (1, .int k), (2, .int n), (3, .int a)] := hl
  refine lv_iload_n hx hb dX0_load_0 rfl (lv_at hl 2 rfl) ?_
  refine lv_iconst (v := 1) hx hb dX0_load_1 (by decide) ?_
  refine lv_icmp_lt (tgt := 28) hx hb dX0_load_2 (by decide) (fun c1 => ?_) (fun c1 => ?_)
  · refine lv_iconst (v := 0) hx hb dX0_load_28 (by decide) ?_
    have hP9 := hP.sub (ws' := [(h0, .inr (0, [.ref h1, .ref h2, .int u.2.2])), (h1, .inl (cA, 4096, .inl u.1)), (h2, .inl (cB, 512, .inl u.2.1))]) [0, 1, 2] rfl
    have hD9 := hD.sub (ws' := [(h0, .inr (0, [.ref h1, .ref h2, .int u.2.2])), (h1, .inl (cA, 4096, .inl u.1)), (h2, .inl (cB, 512, .inl u.2.1))]) [0, 1, 2] (by decide) rfl
    exact W.zret (v := 0) hx hb hr (by decide) (fun t ht hW => ⟨⟨0, u, rfl, by unfold mb_load; rw [if_pos c1], by rw [ht]; exact hP9, va_K.moved hW.alike hK, hD9⟩, hS.F ht⟩) hS.2.2 dX0_load_29
  · refine lv_iload_n hx hb dX0_load_5 rfl (lv_at hl 1 rfl) ?_
    refine lv_iload_n hx hb dX0_load_6 rfl (lv_at hl 2 rfl) ?_
    refine lv_aload_n hx hb dX0_load_7 rfl (lv_at hl 0 rfl) ?_
    refine va_get (D := (dC, dI)) (ci := 0) (v := .int u.2.2) (C := RX0) (T := TX0) (N := 3) hx hb hts (by decide +kernel) hown hK hP 0 rfl rfl 2 (by decide) (hts (.fieldLink RX0 16 "MemoryBank" "rowSize" "I") (by decide +kernel)) (fun _ h9 => h9) rfl dX0_load_8 ?_
    have hPc := hP.sub (ws' := []) [] rfl
    have hDc := hD.sub (ws' := []) [] (by decide) rfl
    have hKc := hK.sub (tys' := []) [] rfl
    have hFc := va_free (wc := []) hD hS hA [] rfl
    refine va_calli (va_runS (As := [.int k, .int n, .int u.2.2]) (rest := []) ⟨hx, hb, hml, hown, hts⟩ (c_isPart l dC dI s.heap.size k n u.2.2) (va_cwS 3 hts gX0_load_X0_isPart rfl rfl rfl (by decide +kernel) ⟨Nat.le_of_ble_eq_true rfl, Nat.le_of_ble_eq_true rfl⟩) ⟨fun a U g mk q => by obtain ⟨q0, q1, qP, qK, qD⟩ := q; exact ⟨q0, q1, qP, va_K.moved (u := U) (U := U.calling g mk a) (Vm.Alike.refl U.vm) qK, qD⟩, fun U hU hW => ⟨rfl, by rw [hU], by rw [hU]; exact hPc, va_K.moved hW.alike hKc, hDc.weaken (fun _ _ _ _ => trivial)⟩⟩ rfl rfl hl.1 rfl (lv_room (Nat.le_of_ble_eq_true rfl)) dX0_load_11 ⟨Nat.le_of_ble_eq_true rfl, Nat.le_of_ble_eq_true rfl⟩) hS (fun q _ h => hFc q h) hFc (fun r1 u1 t H1 locs ht hvm hw_u1 hB hz1 hk1 hS => ?_)
    obtain ⟨hP1, hK1, hD1⟩ := hB
    rw [ht] at hP1
    obtain ⟨hP, hD⟩ := va_join (wr := [(h0, .inr (0, [.ref h1, .ref h2, .int u.2.2])), (h1, .inl (cA, 4096, .inl u.1)), (h2, .inl (cB, 512, .inl u.2.1))]) (w1 := []) hP hD [] [0, 1, 2] rfl rfl (by decide) (by decide) hk1 hFc hP1 hD1
    clear hPc hDc hFc hk1 hP1 hD1 ht
    generalize H1 = H at hP hS ⊢
    have hP : va_P (dC, dI) vwCl [(h0, .inr (0, [.ref h1, .ref h2, .int u.2.2])), (h1, .inl (cA, 4096, .inl u.1)), (h2, .inl (cB, 512, .inl u.2.1))] H := hP
    have hD : va_D A [(h0, .inr (0, [.ref h1, .ref h2, .int u.2.2])), (h1, .inl (cA, 4096, .inl u.1)), (h2, .inl (cB, 512, .inl u.2.1))] := hD
    subst hw_u1
    refine lv_if_eq (tgt := 28) hx hb dX0_load_14 (by decide) (fun c2 => ?_) (fun c2 => ?_)
    · refine lv_iconst (v := 0) hx hb dX0_load_28 (by decide) ?_
      have hP9 := hP.sub (ws' := [(h0, .inr (0, [.ref h1, .ref h2, .int u.2.2])), (h1, .inl (cA, 4096, .inl u.1)), (h2, .inl (cB, 512, .inl u.2.1))]) [0, 1, 2] rfl
      have hD9 := hD.sub (ws' := [(h0, .inr (0, [.ref h1, .ref h2, .int u.2.2])), (h1, .inl (cA, 4096, .inl u.1)), (h2, .inl (cB, 512, .inl u.2.1))]) [0, 1, 2] (by decide) rfl
      exact W.zret (v := 0) hx hb hr (by decide) (fun t ht hW => ⟨⟨0, u, rfl, by unfold mb_load; rw [if_neg c1, if_pos c2], by rw [ht]; exact hP9, va_K.moved hW.alike hK, hD9⟩, hS.F ht⟩) hS.2.2 dX0_load_29
    · refine lv_iload_n hx hb dX0_load_17 rfl (lv_at hl 3 rfl) ?_
      refine lv_iload_n hx hb dX0_load_18 rfl (lv_at hl 2 rfl) ?_
      refine lv_sipush (v := 4096) hx hb dX0_load_19 (by decide) ?_
      have hPc := hP.sub (ws' := []) [] rfl
      have hDc := hD.sub (ws' := []) [] (by decide) rfl
      have hKc := hK.sub (tys' := []) [] rfl
      have hFc := va_free (wc := []) hD hS hA [] rfl
      refine va_calli (va_runS (As := [.int a, .int n, .int 4096]) (rest := []) ⟨hx, hb, hml, hown, hts⟩ (c_isPart l dC dI H.size a n 4096) (va_cwS 3 hts gX0_load_X0_isPart rfl rfl rfl (by decide +kernel) ⟨Nat.le_of_ble_eq_true rfl, Nat.le_of_ble_eq_true rfl⟩) ⟨fun a U g mk q => by obtain ⟨q0, q1, qP, qK, qD⟩ := q; exact ⟨q0, q1, qP, va_K.moved (u := U) (U := U.calling g mk a) (Vm.Alike.refl U.vm) qK, qD⟩, fun U hU hW => ⟨rfl, by rw [hU], by rw [hU]; exact hPc, va_K.moved hW.alike hKc, hDc.weaken (fun _ _ _ _ => trivial)⟩⟩ rfl rfl hl.1 rfl (lv_room (Nat.le_of_ble_eq_true rfl)) dX0_load_22 ⟨Nat.le_of_ble_eq_true rfl, Nat.le_of_ble_eq_true rfl⟩) hS (fun q _ h => hFc q h) hFc (fun r2 u2 t H1 locs ht hvm hw_u2 hB hz1 hk1 hS => ?_)
      obtain ⟨hP1, hK1, hD1⟩ := hB
      rw [ht] at hP1
      obtain ⟨hP, hD⟩ := va_join (wr := [(h0, .inr (0, [.ref h1, .ref h2, .int u.2.2])), (h1, .inl (cA, 4096, .inl u.1)), (h2, .inl (cB, 512, .inl u.2.1))]) (w1 := []) hP hD [] [0, 1, 2] rfl rfl (by decide) (by decide) hk1 hFc hP1 hD1
      clear hPc hDc hFc hk1 hP1 hD1 ht
      generalize H1 = H at hP hS ⊢
      have hP : va_P (dC, dI) vwCl [(h0, .inr (0, [.ref h1, .ref h2, .int u.2.2])), (h1, .inl (cA, 4096, .inl u.1)), (h2, .inl (cB, 512, .inl u.2.1))] H := hP
      have hD : va_D A [(h0, .inr (0, [.ref h1, .ref h2, .int u.2.2])), (h1, .inl (cA, 4096, .inl u.1)), (h2, .inl (cB, 512, .inl u.2.1))] := hD
      subst hw_u2
      refine lv_if_ne (tgt := 30) hx hb dX0_load_25 (by decide) (fun c3 => ?_) (fun c3 => ?_)
      · have hq := (mb_part_iff hu.1).mp c2
        have hq2 := (mb_part_iff (by decide)).mp c3
        rw [mb_4096] at hq2
        have hu2 := hu.2
        refine lv_aload_n hx hb dX0_load_30 rfl (lv_at hl 0 rfl) ?_
        refine va_get (D := (dC, dI)) (ci := 0) (v := .ref h2) (C := RX0) (T := TX0) (N := 3) hx hb hts (by decide +kernel) hown hK hP 0 rfl rfl 1 (by decide) (hts (.fieldLink RX0 13 "MemoryBank" "row" "[I") (by decide +kernel)) (fun _ h9 => h9) rfl dX0_load_31 ?_
        refine lv_iload_n hx hb dX0_load_34 rfl (lv_at hl 1 rfl) ?_
        refine lv_aload_n hx hb dX0_load_35 rfl (lv_at hl 0 rfl) ?_
        refine va_get (D := (dC, dI)) (ci := 0) (v := .ref h1) (C := RX0) (T := TX0) (N := 3) hx hb hts (by decide +kernel) hown hK hP 0 rfl rfl 0 (by decide) (hts (.fieldLink RX0 9 "MemoryBank" "memory" "[I") (by decide +kernel)) (fun _ h9 => h9) rfl dX0_load_36 ?_
        refine lv_iload_n hx hb dX0_load_39 rfl (lv_at hl 3 rfl) ?_
        refine lv_iload_n hx hb dX0_load_40 rfl (lv_at hl 2 rfl) ?_
        refine va_copyi hx hb (by rw [hml]; exact hl.1.symm) hown (hts (.methodLink RX0 32 arraycopyName) (by decide +kernel)) (hts (.native arraycopyName) (by decide +kernel)) (hts (.static arraycopyName) (by decide +kernel)) (hts (.initialized "java/lang/System") (by decide +kernel)) hK hP hD hS 2 1 1 0 rfl rfl rfl rfl rfl (mb_n0 hq.1) (mb_n0 hq2.1) (mb_n0 hq.2.1) (by rw [mb_cl, mb_cl]; omega) (by rw [mb_cl, mb_cl]; omega) (fun i _ => rfl) (Nat.le_of_ble_eq_true rfl) (Nat.le_of_ble_eq_true rfl) dX0_load_41 (fun H locs hP hD hS => ?_)
        have hP : va_P (dC, dI) vwCl [(h0, .inr (0, [.ref h1, .ref h2, .int u.2.2])), (h1, .inl (cA, 4096, .inl (va_cpy u.2.1 u.1 k.toNatClampNeg a.toNatClampNeg n.toNatClampNeg))), (h2, .inl (cB, 512, .inl u.2.1))] H := hP
        have hD : va_D A [(h0, .inr (0, [.ref h1, .ref h2, .int u.2.2])), (h1, .inl (cA, 4096, .inl (va_cpy u.2.1 u.1 k.toNatClampNeg a.toNatClampNeg n.toNatClampNeg))), (h2, .inl (cB, 512, .inl u.2.1))] := hD
        refine lv_iconst (v := 1) hx hb dX0_load_44 (by decide) ?_
        have hP9 := hP.sub (ws' := [(h0, .inr (0, [.ref h1, .ref h2, .int u.2.2])), (h1, .inl (cA, 4096, .inl (va_cpy u.2.1 u.1 k.toNatClampNeg a.toNatClampNeg n.toNatClampNeg))), (h2, .inl (cB, 512, .inl u.2.1))]) [0, 1, 2] rfl
        have hD9 := hD.sub (ws' := [(h0, .inr (0, [.ref h1, .ref h2, .int u.2.2])), (h1, .inl (cA, 4096, .inl (va_cpy u.2.1 u.1 k.toNatClampNeg a.toNatClampNeg n.toNatClampNeg))), (h2, .inl (cB, 512, .inl u.2.1))]) [0, 1, 2] (by decide) rfl
        exact W.zret (v := 1) hx hb hr (by decide) (fun t ht hW => ⟨⟨1, (va_cpy u.2.1 u.1 k.toNatClampNeg a.toNatClampNeg n.toNatClampNeg, u.2.1, u.2.2), rfl, by unfold mb_load; rw [if_neg c1, if_neg c2, if_neg c3], by rw [ht]; exact hP9, va_K.moved hW.alike hK, hD9⟩, hS.F ht⟩) hS.2.2 dX0_load_45
      · refine lv_iconst (v := 0) hx hb dX0_load_28 (by decide) ?_
        have hP9 := hP.sub (ws' := [(h0, .inr (0, [.ref h1, .ref h2, .int u.2.2])), (h1, .inl (cA, 4096, .inl u.1)), (h2, .inl (cB, 512, .inl u.2.1))]) [0, 1, 2] rfl
        have hD9 := hD.sub (ws' := [(h0, .inr (0, [.ref h1, .ref h2, .int u.2.2])), (h1, .inl (cA, 4096, .inl u.1)), (h2, .inl (cB, 512, .inl u.2.1))]) [0, 1, 2] (by decide) rfl
        exact W.zret (v := 0) hx hb hr (by decide) (fun t ht hW => ⟨⟨0, u, rfl, by unfold mb_load; rw [if_neg c1, if_neg c2, if_pos c3], by rw [ht]; exact hP9, va_K.moved hW.alike hK, hD9⟩, hS.F ht⟩) hS.2.2 dX0_load_29
set_option maxHeartbeats 4000000 in
set_option maxRecDepth 100000 in
/-- dump -/
theorem c_dump (l : Launch) (dC : Nat → ClassId) (dI : Nat → Nat → Nat) (sz : Nat) (h0 h1 h2 : Nat) (cA cB : ClassId) (u : Bk_) (a n : Int32) (hu : mb_ok u) : Met l yX0_dump wsX0_dump ({ frames := 1, cells := 0, slots := 0, locals := 22 }) (va_Pc [.ref h0, .int a, .int n] (fun U => U.heap.size = sz ∧ va_P (dC, dI) vwCl [(h0, .inr (0, [.ref h1, .ref h2, .int u.2.2])), (h1, .inl (cA, 4096, .inl u.1)), (h2, .inl (cB, 512, .inl u.2.1))] U.heap ∧ va_K (dC, dI) vwCl [(cA, .int), (cB, .int)] U ∧ va_D (fun _ => True) [(h0, .inr (0, [.ref h1, .ref h2, .int u.2.2])), (h1, .inl (cA, 4096, .inl u.1)), (h2, .inl (cB, 512, .inl u.2.1))])) (va_Qi (fun (r : Int32) (u2 : Bk_) => mb_dump u a n = (r, u2)) (at_W dC dI (va_A [(h0, .inr (0, [.ref h1, .ref h2, .int u.2.2])), (h1, .inl (cA, 4096, .inl u.1)), (h2, .inl (cB, 512, .inl u.2.1))] sz) [(cA, .int), (cB, .int)] (bw_X0 h0 h1 h2 cA cB)) (va_A [(h0, .inr (0, [.ref h1, .ref h2, .int u.2.2])), (h1, .inl (cA, 4096, .inl u.1)), (h2, .inl (cB, 512, .inl u.2.1))] sz)) 0 0 (va_A [(h0, .inr (0, [.ref h1, .ref h2, .int u.2.2])), (h1, .inl (cA, 4096, .inl u.1)), (h2, .inl (cB, 512, .inl u.2.1))] sz) := by
  refine Met.ofW (cc := cX0_dump) (maxL := 3) (ret := (some .boolean)) (by decide) rfl ?_
  intro p e s m args below meth c s₁ B hml hv
  obtain ⟨rfl, hsz, hP, hK, hD0⟩ := hv
  have hx := B.exec
  have hb := B.bytes
  have hr := B.returns
  have hts := atoms_spec (ws := wsX0_dump) B.pre
  have hown : s.vm.findClass RX0 = some m.cls := findClass_of_methodNamed B.named
  have hlocks := B.notSynchronized
  subst hsz
  have hD := hD0.self (sz := s.heap.size)
  generalize hAe : va_A [(h0, .inr (0, [.ref h1, .ref h2, .int u.2.2])), (h1, .inl (cA, 4096, .inl u.1)), (h2, .inl (cB, 512, .inl u.2.1))] s.heap.size = A at hD ⊢
  have hA : ∀ q : Nat, s.heap.size ≤ q → A q := fun q h => by rw [← hAe]; exact Or.inr h
  have hS : va_S A s.heap s.heap [] := va_S.rf
  have hP : va_P (dC, dI) vwCl [(h0, .inr (0, [.ref h1, .ref h2, .int u.2.2])), (h1, .inl (cA, 4096, .inl u.1)), (h2, .inl (cB, 512, .inl u.2.1))] s.heap := hP
  have hl := lv_entry ([.ref h0, .int a, .int n]) (n := 3) (Nat.le_of_ble_eq_true rfl)
  rw [lg_entry_eq]
  generalize (lg_sl ([.ref h0, .int a, .int n]) ++ List.replicate (3 - (lg_sl ([.ref h0, .int a, .int n])).length) Slot.unset).toArray = ls at hl ⊢
  have hl : lv_has ls 3 [(0, .ref h0), (1, .int a), (2, .int n)] := hl
  refine lv_iload_n hx hb dX0_dump_0 rfl (lv_at hl 2 rfl) ?_
  refine lv_iconst (v := 1) hx hb dX0_dump_1 (by decide) ?_
  refine lv_icmp_lt (tgt := 24) hx hb dX0_dump_2 (by decide) (fun c1 => ?_) (fun c1 => ?_)
  · refine lv_iconst (v := 0) hx hb dX0_dump_24 (by decide) ?_
    have hP9 := hP.sub (ws' := [(h0, .inr (0, [.ref h1, .ref h2, .int u.2.2])), (h1, .inl (cA, 4096, .inl u.1)), (h2, .inl (cB, 512, .inl u.2.1))]) [0, 1, 2] rfl
    have hD9 := hD.sub (ws' := [(h0, .inr (0, [.ref h1, .ref h2, .int u.2.2])), (h1, .inl (cA, 4096, .inl u.1)), (h2, .inl (cB, 512, .inl u.2.1))]) [0, 1, 2] (by decide) rfl
    exact W.zret (v := 0) hx hb hr (by decide) (fun t ht hW => ⟨⟨0, u, rfl, by unfold mb_dump; rw [if_pos c1], by rw [ht]; exact hP9, va_K.moved hW.alike hK, hD9⟩, hS.F ht⟩) hS.2.2 dX0_dump_25
  · refine lv_iload_n hx hb dX0_dump_5 rfl (lv_at hl 1 rfl) ?_
    refine lv_iload_n hx hb dX0_dump_6 rfl (lv_at hl 2 rfl) ?_
    refine lv_sipush (v := 4096) hx hb dX0_dump_7 (by decide) ?_
    have hPc := hP.sub (ws' := []) [] rfl
    have hDc := hD.sub (ws' := []) [] (by decide) rfl
    have hKc := hK.sub (tys' := []) [] rfl
    have hFc := va_free (wc := []) hD hS hA [] rfl
    refine va_calli (va_runS (As := [.int a, .int n, .int 4096]) (rest := []) ⟨hx, hb, hml, hown, hts⟩ (c_isPart l dC dI s.heap.size a n 4096) (va_cwS 3 hts gX0_dump_X0_isPart rfl rfl rfl (by decide +kernel) ⟨Nat.le_of_ble_eq_true rfl, Nat.le_of_ble_eq_true rfl⟩) ⟨fun a U g mk q => by obtain ⟨q0, q1, qP, qK, qD⟩ := q; exact ⟨q0, q1, qP, va_K.moved (u := U) (U := U.calling g mk a) (Vm.Alike.refl U.vm) qK, qD⟩, fun U hU hW => ⟨rfl, by rw [hU], by rw [hU]; exact hPc, va_K.moved hW.alike hKc, hDc.weaken (fun _ _ _ _ => trivial)⟩⟩ rfl rfl hl.1 rfl (lv_room (Nat.le_of_ble_eq_true rfl)) dX0_dump_10 ⟨Nat.le_of_ble_eq_true rfl, Nat.le_of_ble_eq_true rfl⟩) hS (fun q _ h => hFc q h) hFc (fun r1 u1 t H1 locs ht hvm hw_u1 hB hz1 hk1 hS => ?_)
    obtain ⟨hP1, hK1, hD1⟩ := hB
    rw [ht] at hP1
    obtain ⟨hP, hD⟩ := va_join (wr := [(h0, .inr (0, [.ref h1, .ref h2, .int u.2.2])), (h1, .inl (cA, 4096, .inl u.1)), (h2, .inl (cB, 512, .inl u.2.1))]) (w1 := []) hP hD [] [0, 1, 2] rfl rfl (by decide) (by decide) hk1 hFc hP1 hD1
    clear hPc hDc hFc hk1 hP1 hD1 ht
    generalize H1 = H at hP hS ⊢
    have hP : va_P (dC, dI) vwCl [(h0, .inr (0, [.ref h1, .ref h2, .int u.2.2])), (h1, .inl (cA, 4096, .inl u.1)), (h2, .inl (cB, 512, .inl u.2.1))] H := hP
    have hD : va_D A [(h0, .inr (0, [.ref h1, .ref h2, .int u.2.2])), (h1, .inl (cA, 4096, .inl u.1)), (h2, .inl (cB, 512, .inl u.2.1))] := hD
    subst hw_u1
    refine lv_if_eq (tgt := 24) hx hb dX0_dump_13 (by decide) (fun c2 => ?_) (fun c2 => ?_)
    · refine lv_iconst (v := 0) hx hb dX0_dump_24 (by decide) ?_
      have hP9 := hP.sub (ws' := [(h0, .inr (0, [.ref h1, .ref h2, .int u.2.2])), (h1, .inl (cA, 4096, .inl u.1)), (h2, .inl (cB, 512, .inl u.2.1))]) [0, 1, 2] rfl
      have hD9 := hD.sub (ws' := [(h0, .inr (0, [.ref h1, .ref h2, .int u.2.2])), (h1, .inl (cA, 4096, .inl u.1)), (h2, .inl (cB, 512, .inl u.2.1))]) [0, 1, 2] (by decide) rfl
      exact W.zret (v := 0) hx hb hr (by decide) (fun t ht hW => ⟨⟨0, u, rfl, by unfold mb_dump; rw [if_neg c1, if_pos c2], by rw [ht]; exact hP9, va_K.moved hW.alike hK, hD9⟩, hS.F ht⟩) hS.2.2 dX0_dump_25
    · refine lv_aload_n hx hb dX0_dump_16 rfl (lv_at hl 0 rfl) ?_
      refine lv_iload_n hx hb dX0_dump_17 rfl (lv_at hl 2 rfl) ?_
      have hPc := hP.sub (ws' := [(h0, .inr (0, [.ref h1, .ref h2, .int u.2.2])), (h1, .inl (cA, 4096, .inl u.1)), (h2, .inl (cB, 512, .inl u.2.1))]) [0, 1, 2] rfl
      have hDc := hD.sub (ws' := [(h0, .inr (0, [.ref h1, .ref h2, .int u.2.2])), (h1, .inl (cA, 4096, .inl u.1)), (h2, .inl (cB, 512, .inl u.2.1))]) [0, 1, 2] (by decide) rfl
      have hKc := hK.sub (tys' := [(cA, .int), (cB, .int)]) [0, 1] rfl
      have hFc := va_free (wc := [(h0, .inr (0, [.ref h1, .ref h2, .int u.2.2])), (h1, .inl (cA, 4096, .inl u.1)), (h2, .inl (cB, 512, .inl u.2.1))]) hD hS hA [0, 1, 2] rfl
      refine va_calli (va_runV (As := [.int n]) (rest := []) ⟨hx, hb, hml, hown, hts⟩ (c_hasRoom l dC dI H.size h0 h1 h2 cA cB u n) (cwV 1 hts gX0_dump_X0_hasRoom rfl rfl rfl (by decide +kernel) ⟨Nat.le_of_ble_eq_true rfl, Nat.le_of_ble_eq_true rfl⟩) ⟨fun a U g mk q => by obtain ⟨q0, q1, qP, qK, qD⟩ := q; exact ⟨q0, q1, qP, va_K.moved (u := U) (U := U.calling g mk a) (Vm.Alike.refl U.vm) qK, qD⟩, va_recv hKc hPc (ci := 0) (q0 := 0) rfl rfl, fun U hU hW => ⟨rfl, by rw [hU], by rw [hU]; exact hPc, va_K.moved hW.alike hKc, hDc.weaken (fun _ _ _ _ => trivial)⟩⟩ rfl rfl hl.1 rfl (lv_room (Nat.le_of_ble_eq_true rfl)) dX0_dump_18 ⟨Nat.le_of_ble_eq_true rfl, Nat.le_of_ble_eq_true rfl⟩) hS (fun q _ h => hFc q h) hFc (fun r2 u2 t H1 locs ht hvm hw_u2 hB hz1 hk1 hS => ?_)
      obtain ⟨hP1, hK1, hD1⟩ := hB
      rw [ht] at hP1
      obtain ⟨hP, hD⟩ := va_join (wr := []) (w1 := [(h0, .inr (0, [.ref h1, .ref h2, .int u2.2.2])), (h1, .inl (cA, 4096, .inl u2.1)), (h2, .inl (cB, 512, .inl u2.2.1))]) hP hD [0, 1, 2] [] rfl rfl (by decide) (by decide) hk1 hFc hP1 hD1
      clear hPc hDc hFc hk1 hP1 hD1 ht
      generalize H1 = H at hP hS ⊢
      have hP : va_P (dC, dI) vwCl [(h0, .inr (0, [.ref h1, .ref h2, .int u2.2.2])), (h1, .inl (cA, 4096, .inl u2.1)), (h2, .inl (cB, 512, .inl u2.2.1))] H := hP
      have hD : va_D A [(h0, .inr (0, [.ref h1, .ref h2, .int u2.2.2])), (h1, .inl (cA, 4096, .inl u2.1)), (h2, .inl (cB, 512, .inl u2.2.1))] := hD
      obtain ⟨rfl, rfl⟩ := hw_u2
      have hP : va_P (dC, dI) vwCl [(h0, .inr (0, [.ref h1, .ref h2, .int u.2.2])), (h1, .inl (cA, 4096, .inl u.1)), (h2, .inl (cB, 512, .inl u.2.1))] H := hP
      have hD : va_D A [(h0, .inr (0, [.ref h1, .ref h2, .int u.2.2])), (h1, .inl (cA, 4096, .inl u.1)), (h2, .inl (cB, 512, .inl u.2.1))] := hD
      refine lv_if_ne (tgt := 26) hx hb dX0_dump_21 (by decide) (fun c3 => ?_) (fun c3 => ?_)
      · have hq := (mb_part_iff (by decide)).mp c2
        rw [mb_4096] at hq
        have hq2 := (mb_room_iff hu.1).mp c3
        refine lv_aload_n hx hb dX0_dump_26 rfl (lv_at hl 0 rfl) ?_
        refine va_get (D := (dC, dI)) (ci := 0) (v := .ref h1) (C := RX0) (T := TX0) (N := 3) hx hb hts (by decide +kernel) hown hK hP 0 rfl rfl 0 (by decide) (hts (.fieldLink RX0 9 "MemoryBank" "memory" "[I") (by decide +kernel)) (fun _ h9 => h9) rfl dX0_dump_27 ?_
        refine lv_iload_n hx hb dX0_dump_30 rfl (lv_at hl 1 rfl) ?_
        refine lv_aload_n hx hb dX0_dump_31 rfl (lv_at hl 0 rfl) ?_
        refine va_get (D := (dC, dI)) (ci := 0) (v := .ref h2) (C := RX0) (T := TX0) (N := 3) hx hb hts (by decide +kernel) hown hK hP 0 rfl rfl 1 (by decide) (hts (.fieldLink RX0 13 "MemoryBank" "row" "[I") (by decide +kernel)) (fun _ h9 => h9) rfl dX0_dump_32 ?_
        refine lv_aload_n hx hb dX0_dump_35 rfl (lv_at hl 0 rfl) ?_
        refine va_get (D := (dC, dI)) (ci := 0) (v := .int u.2.2) (C := RX0) (T := TX0) (N := 3) hx hb hts (by decide +kernel) hown hK hP 0 rfl rfl 2 (by decide) (hts (.fieldLink RX0 16 "MemoryBank" "rowSize" "I") (by decide +kernel)) (fun _ h9 => h9) rfl dX0_dump_36 ?_
        refine lv_iload_n hx hb dX0_dump_39 rfl (lv_at hl 2 rfl) ?_
        refine va_copyi hx hb (by rw [hml]; exact hl.1.symm) hown (hts (.methodLink RX0 32 arraycopyName) (by decide +kernel)) (hts (.native arraycopyName) (by decide +kernel)) (hts (.static arraycopyName) (by decide +kernel)) (hts (.initialized "java/lang/System") (by decide +kernel)) hK hP hD hS 1 2 0 1 rfl rfl rfl rfl rfl (mb_n0 hq.1) (mb_n0 hu.1) (mb_n0 hq.2.1) (by rw [mb_cl, mb_cl]; omega) (by rw [mb_cl, mb_cl]; have := hu.1; omega) (fun i _ => rfl) (Nat.le_of_ble_eq_true rfl) (Nat.le_of_ble_eq_true rfl) dX0_dump_40 (fun H locs hP hD hS => ?_)
        have hP : va_P (dC, dI) vwCl [(h0, .inr (0, [.ref h1, .ref h2, .int u.2.2])), (h1, .inl (cA, 4096, .inl u.1)), (h2, .inl (cB, 512, .inl (va_cpy u.1 u.2.1 a.toNatClampNeg u.2.2.toNatClampNeg n.toNatClampNeg)))] H := hP
        have hD : va_D A [(h0, .inr (0, [.ref h1, .ref h2, .int u.2.2])), (h1, .inl (cA, 4096, .inl u.1)), (h2, .inl (cB, 512, .inl (va_cpy u.1 u.2.1 a.toNatClampNeg u.2.2.toNatClampNeg n.toNatClampNeg)))] := hD
        refine lv_aload_n hx hb dX0_dump_43 rfl (lv_at hl 0 rfl) ?_
        refine lv_dup hx hb dX0_dump_44 rfl ?_
        refine va_get (D := (dC, dI)) (ci := 0) (v := .int u.2.2) (C := RX0) (T := TX0) (N := 3) hx hb hts (by decide +kernel) hown hK hP 0 rfl rfl 2 (by decide) (hts (.fieldLink RX0 16 "MemoryBank" "rowSize" "I") (by decide +kernel)) (fun _ h9 => h9) rfl dX0_dump_45 ?_
        refine lv_iload_n hx hb dX0_dump_48 rfl (lv_at hl 2 rfl) ?_
        refine lv_iadd hx hb dX0_dump_49 ?_
        refine va_put (D := (dC, dI)) (ci := 0) (v := .int (u.2.2 + n)) (ty := .int) (C := RX0) (T := TX0) (N := 3) hx hb hts (by decide +kernel) tyX0 tyX0_ok nmX0 hown hK hP hD hS 0 rfl rfl 2 (by decide) (hts (.fieldLink RX0 16 "MemoryBank" "rowSize" "I") (by decide +kernel)) (fun _ h9 => h9) rfl (by decide +kernel) rfl rfl (Nat.le_of_ble_eq_true rfl) dX0_dump_50 (fun H locs hP hD hS => ?_)
        have hP : va_P (dC, dI) vwCl [(h0, .inr (0, [.ref h1, .ref h2, .int (u.2.2 + n)])), (h1, .inl (cA, 4096, .inl u.1)), (h2, .inl (cB, 512, .inl (va_cpy u.1 u.2.1 a.toNatClampNeg u.2.2.toNatClampNeg n.toNatClampNeg)))] H := hP
        have hD : va_D A [(h0, .inr (0, [.ref h1, .ref h2, .int (u.2.2 + n)])), (h1, .inl (cA, 4096, .inl u.1)), (h2, .inl (cB, 512, .inl (va_cpy u.1 u.2.1 a.toNatClampNeg u.2.2.toNatClampNeg n.toNatClampNeg)))] := hD
        refine lv_iconst (v := 1) hx hb dX0_dump_53 (by decide) ?_
        have hP9 := hP.sub (ws' := [(h0, .inr (0, [.ref h1, .ref h2, .int (u.2.2 + n)])), (h1, .inl (cA, 4096, .inl u.1)), (h2, .inl (cB, 512, .inl (va_cpy u.1 u.2.1 a.toNatClampNeg u.2.2.toNatClampNeg n.toNatClampNeg)))]) [0, 1, 2] rfl
        have hD9 := hD.sub (ws' := [(h0, .inr (0, [.ref h1, .ref h2, .int (u.2.2 + n)])), (h1, .inl (cA, 4096, .inl u.1)), (h2, .inl (cB, 512, .inl (va_cpy u.1 u.2.1 a.toNatClampNeg u.2.2.toNatClampNeg n.toNatClampNeg)))]) [0, 1, 2] (by decide) rfl
        exact W.zret (v := 1) hx hb hr (by decide) (fun t ht hW => ⟨⟨1, (u.1, va_cpy u.1 u.2.1 a.toNatClampNeg u.2.2.toNatClampNeg n.toNatClampNeg, u.2.2 + n), rfl, by unfold mb_dump; rw [if_neg c1, if_neg c2, if_neg c3], by rw [ht]; exact hP9, va_K.moved hW.alike hK, hD9⟩, hS.F ht⟩) hS.2.2 dX0_dump_54
      · refine lv_iconst (v := 0) hx hb dX0_dump_24 (by decide) ?_
        have hP9 := hP.sub (ws' := [(h0, .inr (0, [.ref h1, .ref h2, .int u.2.2])), (h1, .inl (cA, 4096, .inl u.1)), (h2, .inl (cB, 512, .inl u.2.1))]) [0, 1, 2] rfl
        have hD9 := hD.sub (ws' := [(h0, .inr (0, [.ref h1, .ref h2, .int u.2.2])), (h1, .inl (cA, 4096, .inl u.1)), (h2, .inl (cB, 512, .inl u.2.1))]) [0, 1, 2] (by decide) rfl
        exact W.zret (v := 0) hx hb hr (by decide) (fun t ht hW => ⟨⟨0, u, rfl, by unfold mb_dump; rw [if_neg c1, if_neg c2, if_pos c3], by rw [ht]; exact hP9, va_K.moved hW.alike hK, hD9⟩, hS.F ht⟩) hS.2.2 dX0_dump_25
set_option maxHeartbeats 4000000 in
set_option maxRecDepth 100000 in
/-- check -/
theorem c_check (l : Launch) (dC : Nat → ClassId) (dI : Nat → Nat → Nat) (sz : Nat) (h0 h1 h2 : Nat) (cA cB : ClassId) (u : Bk_) (a n : Int32) (hu : mb_ok u) : Met l yX0_check wsX0_check ({ frames := 2, cells := 0, slots := 0, locals := 47 }) (va_Pc [.ref h0, .int a, .int n] (fun U => U.heap.size = sz ∧ va_P (dC, dI) vwCl [(h0, .inr (0, [.ref h1, .ref h2, .int u.2.2])), (h1, .inl (cA, 4096, .inl u.1)), (h2, .inl (cB, 512, .inl u.2.1))] U.heap ∧ va_K (dC, dI) vwCl [(cA, .int), (cB, .int)] U ∧ va_D (fun _ => True) [(h0, .inr (0, [.ref h1, .ref h2, .int u.2.2])), (h1, .inl (cA, 4096, .inl u.1)), (h2, .inl (cB, 512, .inl u.2.1))])) (va_Qi (fun (r : Int32) (u2 : Bk_) => mb_check u a n = (r, u2)) (at_W dC dI (va_A [(h0, .inr (0, [.ref h1, .ref h2, .int u.2.2])), (h1, .inl (cA, 4096, .inl u.1)), (h2, .inl (cB, 512, .inl u.2.1))] sz) [(cA, .int), (cB, .int)] (bw_X0 h0 h1 h2 cA cB)) (va_A [(h0, .inr (0, [.ref h1, .ref h2, .int u.2.2])), (h1, .inl (cA, 4096, .inl u.1)), (h2, .inl (cB, 512, .inl u.2.1))] sz)) 0 0 (va_A [(h0, .inr (0, [.ref h1, .ref h2, .int u.2.2])), (h1, .inl (cA, 4096, .inl u.1)), (h2, .inl (cB, 512, .inl u.2.1))] sz) := by
  refine Met.ofW (cc := cX0_check) (maxL := 3) (ret := (some .int)) (by decide) rfl ?_
  intro p e s m args below meth c s₁ B hml hv
  obtain ⟨rfl, hsz, hP, hK, hD0⟩ := hv
  have hx := B.exec
  have hb := B.bytes
  have hr := B.returns
  have hts := atoms_spec (ws := wsX0_check) B.pre
  have hown : s.vm.findClass RX0 = some m.cls := findClass_of_methodNamed B.named
  have hlocks := B.notSynchronized
  subst hsz
  have hD := hD0.self (sz := s.heap.size)
  generalize hAe : va_A [(h0, .inr (0, [.ref h1, .ref h2, .int u.2.2])), (h1, .inl (cA, 4096, .inl u.1)), (h2, .inl (cB, 512, .inl u.2.1))] s.heap.size = A at hD ⊢
  have hA : ∀ q : Nat, s.heap.size ≤ q → A q := fun q h => by rw [← hAe]; exact Or.inr h
  have hS : va_S A s.heap s.heap [] := va_S.rf
  have hP : va_P (dC, dI) vwCl [(h0, .inr (0, [.ref h1, .ref h2, .int u.2.2])), (h1, .inl (cA, 4096, .inl u.1)), (h2, .inl (cB, 512, .inl u.2.1))] s.heap := hP
  have hl := lv_entry ([.ref h0, .int a, .int n]) (n := 3) (Nat.le_of_ble_eq_true rfl)
  rw [lg_entry_eq]
  generalize (lg_sl ([.ref h0, .int a, .int n]) ++ List.replicate (3 - (lg_sl ([.ref h0, .int a, .int n])).length) Slot.unset).toArray = ls at hl ⊢
  have hl : lv_has ls 3 [(0, .ref h0), (1, .int a), (2, .int n)] := hl
  refine lv_iload_n hx hb dX0_check_0 rfl (lv_at hl 1 rfl) ?_
  refine lv_iload_n hx hb dX0_check_1 rfl (lv_at hl 2 rfl) ?_
  refine lv_sipush (v := 4096) hx hb dX0_check_2 (by decide) ?_
  have hPc := hP.sub (ws' := []) [] rfl
  have hDc := hD.sub (ws' := []) [] (by decide) rfl
  have hKc := hK.sub (tys' := []) [] rfl
  have hFc := va_free (wc := []) hD hS hA [] rfl
  refine va_calli (va_runS (As := [.int a, .int n, .int 4096]) (rest := []) ⟨hx, hb, hml, hown, hts⟩ (c_isPart l dC dI s.heap.size a n 4096) (va_cwS 3 hts gX0_check_X0_isPart rfl rfl rfl (by decide +kernel) ⟨Nat.le_of_ble_eq_true rfl, Nat.le_of_ble_eq_true rfl⟩) ⟨fun a U g mk q => by obtain ⟨q0, q1, qP, qK, qD⟩ := q; exact ⟨q0, q1, qP, va_K.moved (u := U) (U := U.calling g mk a) (Vm.Alike.refl U.vm) qK, qD⟩, fun U hU hW => ⟨rfl, by rw [hU], by rw [hU]; exact hPc, va_K.moved hW.alike hKc, hDc.weaken (fun _ _ _ _ => trivial)⟩⟩ rfl rfl hl.1 rfl (lv_room (Nat.le_of_ble_eq_true rfl)) dX0_check_5 ⟨Nat.le_of_ble_eq_true rfl, Nat.le_of_ble_eq_true rfl⟩) hS (fun q _ h => hFc q h) hFc (fun r1 u1 t H1 locs ht hvm hw_u1 hB hz1 hk1 hS => ?_)
  obtain ⟨hP1, hK1, hD1⟩ := hB
  rw [ht] at hP1
  obtain ⟨hP, hD⟩ := va_join (wr := [(h0, .inr (0, [.ref h1, .ref h2, .int u.2.2])), (h1, .inl (cA, 4096, .inl u.1)), (h2, .inl (cB, 512, .inl u.2.1))]) (w1 := []) hP hD [] [0, 1, 2] rfl rfl (by decide) (by decide) hk1 hFc hP1 hD1
  clear hPc hDc hFc hk1 hP1 hD1 ht
  generalize H1 = H at hP hS ⊢
  have hP : va_P (dC, dI) vwCl [(h0, .inr (0, [.ref h1, .ref h2, .int u.2.2])), (h1, .inl (cA, 4096, .inl u.1)), (h2, .inl (cB, 512, .inl u.2.1))] H := hP
  have hD : va_D A [(h0, .inr (0, [.ref h1, .ref h2, .int u.2.2])), (h1, .inl (cA, 4096, .inl u.1)), (h2, .inl (cB, 512, .inl u.2.1))] := hD
  subst hw_u1
  refine lv_if_eq (tgt := 23) hx hb dX0_check_8 (by decide) (fun c1 => ?_) (fun c1 => ?_)
  · refine lv_iconst (v := (-1)) hx hb dX0_check_23 (by decide) ?_
    have hP9 := hP.sub (ws' := [(h0, .inr (0, [.ref h1, .ref h2, .int u.2.2])), (h1, .inl (cA, 4096, .inl u.1)), (h2, .inl (cB, 512, .inl u.2.1))]) [0, 1, 2] rfl
    have hD9 := hD.sub (ws' := [(h0, .inr (0, [.ref h1, .ref h2, .int u.2.2])), (h1, .inl (cA, 4096, .inl u.1)), (h2, .inl (cB, 512, .inl u.2.1))]) [0, 1, 2] (by decide) rfl
    exact W.iret (v := (-1)) hx hb hr (fun t ht hW => ⟨⟨(-1), u, rfl, by unfold mb_check; rw [if_pos c1], by rw [ht]; exact hP9, va_K.moved hW.alike hK, hD9⟩, hS.F ht⟩) hS.2.2 dX0_check_24
  · have hq := (mb_part_iff (by decide)).mp c1
    rw [mb_4096] at hq
    have ea := mb_nI hq.1
    have en := mb_nI hq.2.1
    have hq3 : a.toNatClampNeg + n.toNatClampNeg ≤ 4096 := by rw [mb_cl, mb_cl]; omega
    refine lv_aload_n hx hb dX0_check_11 rfl (lv_at hl 0 rfl) ?_
    refine va_get (D := (dC, dI)) (ci := 0) (v := .ref h1) (C := RX0) (T := TX0) (N := 3) hx hb hts (by decide +kernel) hown hK hP 0 rfl rfl 0 (by decide) (hts (.fieldLink RX0 9 "MemoryBank" "memory" "[I") (by decide +kernel)) (fun _ h9 => h9) rfl dX0_check_12 ?_
    refine lv_iload_n hx hb dX0_check_15 rfl (lv_at hl 1 rfl) ?_
    refine lv_topi (fun yv eyv => ?_)
    obtain rfl : yv = nI a.toNatClampNeg := eyv.trans ea
    refine lv_iload_n hx hb dX0_check_16 rfl (lv_at hl 2 rfl) ?_
    refine lv_topi (fun yv eyv => ?_)
    obtain rfl : yv = nI n.toNatClampNeg := eyv.trans en
    have hPc := hP.sub (ws' := [(h1, .inl (cA, 4096, .inl u.1))]) [1] rfl
    have hDc := hD.sub (ws' := [(h1, .inl (cA, 4096, .inl u.1))]) [1] (by decide) rfl
    have hKc := hK.sub (tys' := [(cA, .int)]) [0] rfl
    have hFc := va_free (wc := [(h1, .inl (cA, 4096, .inl u.1))]) hD hS hA [1] rfl
    refine va_calli (va_runS (As := [.ref h1, .int (nI a.toNatClampNeg), .int (nI n.toNatClampNeg)]) (rest := []) ⟨hx, hb, hml, hown, hts⟩ (c_checkOf l dC dI H.size h1 cA 4096 u.1 a.toNatClampNeg n.toNatClampNeg hq3 (by decide)) (va_cwS 3 hts gX0_check_X0_checkOf rfl rfl rfl (by decide +kernel) ⟨Nat.le_of_ble_eq_true rfl, Nat.le_of_ble_eq_true rfl⟩) ⟨fun a U g mk q => by obtain ⟨q0, q1, qP, qK, qD⟩ := q; exact ⟨q0, q1, qP, va_K.moved (u := U) (U := U.calling g mk a) (Vm.Alike.refl U.vm) qK, qD⟩, fun U hU hW => ⟨rfl, by rw [hU], by rw [hU]; exact hPc, va_K.moved hW.alike hKc, hDc.weaken (fun _ _ _ _ => trivial)⟩⟩ rfl rfl hl.1 rfl (lv_room (Nat.le_of_ble_eq_true rfl)) dX0_check_17 ⟨Nat.le_of_ble_eq_true rfl, Nat.le_of_ble_eq_true rfl⟩) hS (fun q _ h => hFc q h) hFc (fun r2 u2 t H1 locs ht hvm hw_u2 hB hz1 hk1 hS => ?_)
    obtain ⟨hP1, hK1, hD1⟩ := hB
    rw [ht] at hP1
    obtain ⟨hP, hD⟩ := va_join (wr := [(h0, .inr (0, [.ref h1, .ref h2, .int u.2.2])), (h2, .inl (cB, 512, .inl u.2.1))]) (w1 := [(h1, .inl (cA, 4096, .inl u.1))]) hP hD [1] [0, 2] rfl rfl (by decide) (by decide) hk1 hFc hP1 hD1
    clear hPc hDc hFc hk1 hP1 hD1 ht
    generalize H1 = H at hP hS ⊢
    have hP : va_P (dC, dI) vwCl [(h0, .inr (0, [.ref h1, .ref h2, .int u.2.2])), (h2, .inl (cB, 512, .inl u.2.1)), (h1, .inl (cA, 4096, .inl u.1))] H := hP
    have hD : va_D A [(h0, .inr (0, [.ref h1, .ref h2, .int u.2.2])), (h2, .inl (cB, 512, .inl u.2.1)), (h1, .inl (cA, 4096, .inl u.1))] := hD
    have hP := hP.sub (ws' := [(h0, .inr (0, [.ref h1, .ref h2, .int u.2.2])), (h1, .inl (cA, 4096, .inl u.1)), (h2, .inl (cB, 512, .inl u.2.1))]) [0, 2, 1] rfl
    have hD := hD.sub (ws' := [(h0, .inr (0, [.ref h1, .ref h2, .int u.2.2])), (h1, .inl (cA, 4096, .inl u.1)), (h2, .inl (cB, 512, .inl u.2.1))]) [0, 2, 1] (by decide) rfl
    refine lv_goto (tgt := 24) hx hb dX0_check_20 (by decide) ?_
    have hP9 := hP.sub (ws' := [(h0, .inr (0, [.ref h1, .ref h2, .int u.2.2])), (h1, .inl (cA, 4096, .inl u.1)), (h2, .inl (cB, 512, .inl u.2.1))]) [0, 1, 2] rfl
    have hD9 := hD.sub (ws' := [(h0, .inr (0, [.ref h1, .ref h2, .int u.2.2])), (h1, .inl (cA, 4096, .inl u.1)), (h2, .inl (cB, 512, .inl u.2.1))]) [0, 1, 2] (by decide) rfl
    exact W.iret (v := r2) hx hb hr (fun t ht hW => ⟨⟨r2, u, rfl, by unfold mb_check; rw [if_neg c1, hw_u2], by rw [ht]; exact hP9, va_K.moved hW.alike hK, hD9⟩, hS.F ht⟩) hS.2.2 dX0_check_24
set_option maxHeartbeats 4000000 in
set_option maxRecDepth 100000 in
/-- rowCheck -/
theorem c_rowCheck (l : Launch) (dC : Nat → ClassId) (dI : Nat → Nat → Nat) (sz : Nat) (h0 h1 h2 : Nat) (cA cB : ClassId) (u : Bk_) (n : Int32) (hu : mb_ok u) : Met l yX0_rowCheck wsX0_rowCheck ({ frames := 2, cells := 0, slots := 0, locals := 47 }) (va_Pc [.ref h0, .int n] (fun U => U.heap.size = sz ∧ va_P (dC, dI) vwCl [(h0, .inr (0, [.ref h1, .ref h2, .int u.2.2])), (h1, .inl (cA, 4096, .inl u.1)), (h2, .inl (cB, 512, .inl u.2.1))] U.heap ∧ va_K (dC, dI) vwCl [(cA, .int), (cB, .int)] U ∧ va_D (fun _ => True) [(h0, .inr (0, [.ref h1, .ref h2, .int u.2.2])), (h1, .inl (cA, 4096, .inl u.1)), (h2, .inl (cB, 512, .inl u.2.1))])) (va_Qi (fun (r : Int32) (u2 : Bk_) => mb_rowCheck u n = (r, u2)) (at_W dC dI (va_A [(h0, .inr (0, [.ref h1, .ref h2, .int u.2.2])), (h1, .inl (cA, 4096, .inl u.1)), (h2, .inl (cB, 512, .inl u.2.1))] sz) [(cA, .int), (cB, .int)] (bw_X0 h0 h1 h2 cA cB)) (va_A [(h0, .inr (0, [.ref h1, .ref h2, .int u.2.2])), (h1, .inl (cA, 4096, .inl u.1)), (h2, .inl (cB, 512, .inl u.2.1))] sz)) 0 0 (va_A [(h0, .inr (0, [.ref h1, .ref h2, .int u.2.2])), (h1, .inl (cA, 4096, .inl u.1)), (h2, .inl (cB, 512, .inl u.2.1))] sz) := by
  refine Met.ofW (cc := cX0_rowCheck) (maxL := 2) (ret := (some .int)) (by decide) rfl ?_
  intro p e s m args below meth c s₁ B hml hv
  obtain ⟨rfl, hsz, hP, hK, hD0⟩ := hv
  have hx := B.exec
  have hb := B.bytes
  have hr := B.returns
  have hts := atoms_spec (ws := wsX0_rowCheck) B.pre
  have hown : s.vm.findClass RX0 = some m.cls := findClass_of_methodNamed B.named
  have hlocks := B.notSynchronized
  subst hsz
  have hD := hD0.self (sz := s.heap.size)
  generalize hAe : va_A [(h0, .inr (0, [.ref h1, .ref h2, .int u.2.2])), (h1, .inl (cA, 4096, .inl u.1)), (h2, .inl (cB, 512, .inl u.2.1))] s.heap.size = A at hD ⊢
  have hA : ∀ q : Nat, s.heap.size ≤ q → A q := fun q h => by rw [← hAe]; exact Or.inr h
  have hS : va_S A s.heap s.heap [] := va_S.rf
  have hP : va_P (dC, dI) vwCl [(h0, .inr (0, [.ref h1, .ref h2, .int u.2.2])), (h1, .inl (cA, 4096, .inl u.1)), (h2, .inl (cB, 512, .inl u.2.1))] s.heap := hP
  have hl := lv_entry ([.ref h0, .int n]) (n := 2) (Nat.le_of_ble_eq_true rfl)
  rw [lg_entry_eq]
  generalize (lg_sl ([.ref h0, .int n]) ++ List.replicate (2 - (lg_sl ([.ref h0, .int n])).length) Slot.unset).toArray = ls at hl ⊢
  have hl : lv_has ls 2 [(0, .ref h0), (1, .int n)] := hl
  refine lv_iconst (v := 0) hx hb dX0_rowCheck_0 (by decide) ?_
  refine lv_iload_n hx hb dX0_rowCheck_1 rfl (lv_at hl 1 rfl) ?_
  refine lv_aload_n hx hb dX0_rowCheck_2 rfl (lv_at hl 0 rfl) ?_
  refine va_get (D := (dC, dI)) (ci := 0) (v := .int u.2.2) (C := RX0) (T := TX0) (N := 3) hx hb hts (by decide +kernel) hown hK hP 0 rfl rfl 2 (by decide) (hts (.fieldLink RX0 16 "MemoryBank" "rowSize" "I") (by decide +kernel)) (fun _ h9 => h9) rfl dX0_rowCheck_3 ?_
  have hPc := hP.sub (ws' := []) [] rfl
  have hDc := hD.sub (ws' := []) [] (by decide) rfl
  have hKc := hK.sub (tys' := []) [] rfl
  have hFc := va_free (wc := []) hD hS hA [] rfl
  refine va_calli (va_runS (As := [.int 0, .int n, .int u.2.2]) (rest := []) ⟨hx, hb, hml, hown, hts⟩ (c_isPart l dC dI s.heap.size 0 n u.2.2) (va_cwS 3 hts gX0_rowCheck_X0_isPart rfl rfl rfl (by decide +kernel) ⟨Nat.le_of_ble_eq_true rfl, Nat.le_of_ble_eq_true rfl⟩) ⟨fun a U g mk q => by obtain ⟨q0, q1, qP, qK, qD⟩ := q; exact ⟨q0, q1, qP, va_K.moved (u := U) (U := U.calling g mk a) (Vm.Alike.refl U.vm) qK, qD⟩, fun U hU hW => ⟨rfl, by rw [hU], by rw [hU]; exact hPc, va_K.moved hW.alike hKc, hDc.weaken (fun _ _ _ _ => trivial)⟩⟩ rfl rfl hl.1 rfl (lv_room (Nat.le_of_ble_eq_true rfl)) dX0_rowCheck_6 ⟨Nat.le_of_ble_eq_true rfl, Nat.le_of_ble_eq_true rfl⟩) hS (fun q _ h => hFc q h) hFc (fun r1 u1 t H1 locs ht hvm hw_u1 hB hz1 hk1 hS => ?_)
  obtain ⟨hP1, hK1, hD1⟩ := hB
  rw [ht] at hP1
  obtain ⟨hP, hD⟩ := va_join (wr := [(h0, .inr (0, [.ref h1, .ref h2, .int u.2.2])), (h1, .inl (cA, 4096, .inl u.1)), (h2, .inl (cB, 512, .inl u.2.1))]) (w1 := []) hP hD [] [0, 1, 2] rfl rfl (by decide) (by decide) hk1 hFc hP1 hD1
  clear hPc hDc hFc hk1 hP1 hD1 ht
  generalize H1 = H at hP hS ⊢
  have hP : va_P (dC, dI) vwCl [(h0, .inr (0, [.ref h1, .ref h2, .int u.2.2])), (h1, .inl (cA, 4096, .inl u.1)), (h2, .inl (cB, 512, .inl u.2.1))] H := hP
  have hD : va_D A [(h0, .inr (0, [.ref h1, .ref h2, .int u.2.2])), (h1, .inl (cA, 4096, .inl u.1)), (h2, .inl (cB, 512, .inl u.2.1))] := hD
  subst hw_u1
  refine lv_if_eq (tgt := 24) hx hb dX0_rowCheck_9 (by decide) (fun c1 => ?_) (fun c1 => ?_)
  · refine lv_iconst (v := (-1)) hx hb dX0_rowCheck_24 (by decide) ?_
    have hP9 := hP.sub (ws' := [(h0, .inr (0, [.ref h1, .ref h2, .int u.2.2])), (h1, .inl (cA, 4096, .inl u.1)), (h2, .inl (cB, 512, .inl u.2.1))]) [0, 1, 2] rfl
    have hD9 := hD.sub (ws' := [(h0, .inr (0, [.ref h1, .ref h2, .int u.2.2])), (h1, .inl (cA, 4096, .inl u.1)), (h2, .inl (cB, 512, .inl u.2.1))]) [0, 1, 2] (by decide) rfl
    exact W.iret (v := (-1)) hx hb hr (fun t ht hW => ⟨⟨(-1), u, rfl, by unfold mb_rowCheck; rw [if_pos c1], by rw [ht]; exact hP9, va_K.moved hW.alike hK, hD9⟩, hS.F ht⟩) hS.2.2 dX0_rowCheck_25
  · have hq := (mb_part_iff hu.1).mp c1
    rw [mb_0] at hq
    have en := mb_nI hq.2.1
    have hq3 : 0 + n.toNatClampNeg ≤ 512 := by rw [mb_cl]; have := hu.2; omega
    refine lv_aload_n hx hb dX0_rowCheck_12 rfl (lv_at hl 0 rfl) ?_
    refine va_get (D := (dC, dI)) (ci := 0) (v := .ref h2) (C := RX0) (T := TX0) (N := 3) hx hb hts (by decide +kernel) hown hK hP 0 rfl rfl 1 (by decide) (hts (.fieldLink RX0 13 "MemoryBank" "row" "[I") (by decide +kernel)) (fun _ h9 => h9) rfl dX0_rowCheck_13 ?_
    refine lv_iconst (v := 0) hx hb dX0_rowCheck_16 (by decide) ?_
    refine lv_iload_n hx hb dX0_rowCheck_17 rfl (lv_at hl 1 rfl) ?_
    refine lv_topi (fun yv eyv => ?_)
    obtain rfl : yv = nI n.toNatClampNeg := eyv.trans en
    have hPc := hP.sub (ws' := [(h2, .inl (cB, 512, .inl u.2.1))]) [2] rfl
    have hDc := hD.sub (ws' := [(h2, .inl (cB, 512, .inl u.2.1))]) [2] (by decide) rfl
    have hKc := hK.sub (tys' := [(cB, .int)]) [1] rfl
    have hFc := va_free (wc := [(h2, .inl (cB, 512, .inl u.2.1))]) hD hS hA [2] rfl
    refine va_calli (va_runS (As := [.ref h2, .int 0, .int (nI n.toNatClampNeg)]) (rest := []) ⟨hx, hb, hml, hown, hts⟩ (c_checkOf l dC dI H.size h2 cB 512 u.2.1 0 n.toNatClampNeg hq3 (by decide)) (va_cwS 3 hts gX0_rowCheck_X0_checkOf rfl rfl rfl (by decide +kernel) ⟨Nat.le_of_ble_eq_true rfl, Nat.le_of_ble_eq_true rfl⟩) ⟨fun a U g mk q => by obtain ⟨q0, q1, qP, qK, qD⟩ := q; exact ⟨q0, q1, qP, va_K.moved (u := U) (U := U.calling g mk a) (Vm.Alike.refl U.vm) qK, qD⟩, fun U hU hW => ⟨rfl, by rw [hU], by rw [hU]; exact hPc, va_K.moved hW.alike hKc, hDc.weaken (fun _ _ _ _ => trivial)⟩⟩ rfl rfl hl.1 rfl (lv_room (Nat.le_of_ble_eq_true rfl)) dX0_rowCheck_18 ⟨Nat.le_of_ble_eq_true rfl, Nat.le_of_ble_eq_true rfl⟩) hS (fun q _ h => hFc q h) hFc (fun r2 u2 t H1 locs ht hvm hw_u2 hB hz1 hk1 hS => ?_)
    obtain ⟨hP1, hK1, hD1⟩ := hB
    rw [ht] at hP1
    obtain ⟨hP, hD⟩ := va_join (wr := [(h0, .inr (0, [.ref h1, .ref h2, .int u.2.2])), (h1, .inl (cA, 4096, .inl u.1))]) (w1 := [(h2, .inl (cB, 512, .inl u.2.1))]) hP hD [2] [0, 1] rfl rfl (by decide) (by decide) hk1 hFc hP1 hD1
    clear hPc hDc hFc hk1 hP1 hD1 ht
    generalize H1 = H at hP hS ⊢
    have hP : va_P (dC, dI) vwCl [(h0, .inr (0, [.ref h1, .ref h2, .int u.2.2])), (h1, .inl (cA, 4096, .inl u.1)), (h2, .inl (cB, 512, .inl u.2.1))] H := hP
    have hD : va_D A [(h0, .inr (0, [.ref h1, .ref h2, .int u.2.2])), (h1, .inl (cA, 4096, .inl u.1)), (h2, .inl (cB, 512, .inl u.2.1))] := hD
    have hP := hP.sub (ws' := [(h0, .inr (0, [.ref h1, .ref h2, .int u.2.2])), (h1, .inl (cA, 4096, .inl u.1)), (h2, .inl (cB, 512, .inl u.2.1))]) [0, 1, 2] rfl
    have hD := hD.sub (ws' := [(h0, .inr (0, [.ref h1, .ref h2, .int u.2.2])), (h1, .inl (cA, 4096, .inl u.1)), (h2, .inl (cB, 512, .inl u.2.1))]) [0, 1, 2] (by decide) rfl
    refine lv_goto (tgt := 25) hx hb dX0_rowCheck_21 (by decide) ?_
    have hP9 := hP.sub (ws' := [(h0, .inr (0, [.ref h1, .ref h2, .int u.2.2])), (h1, .inl (cA, 4096, .inl u.1)), (h2, .inl (cB, 512, .inl u.2.1))]) [0, 1, 2] rfl
    have hD9 := hD.sub (ws' := [(h0, .inr (0, [.ref h1, .ref h2, .int u.2.2])), (h1, .inl (cA, 4096, .inl u.1)), (h2, .inl (cB, 512, .inl u.2.1))]) [0, 1, 2] (by decide) rfl
    exact W.iret (v := r2) hx hb hr (fun t ht hW => ⟨⟨r2, u, rfl, by unfold mb_rowCheck; rw [if_neg c1, hw_u2], by rw [ht]; exact hP9, va_K.moved hW.alike hK, hD9⟩, hS.F ht⟩) hS.2.2 dX0_rowCheck_25
set_option maxHeartbeats 4000000 in
set_option maxRecDepth 100000 in
/-- seal -/
theorem c_seal (l : Launch) (dC : Nat → ClassId) (dI : Nat → Nat → Nat) (sz : Nat) (h0 h1 h2 : Nat) (cA cB : ClassId) (u : Bk_) (hu : mb_ok u) : Met l yX0_seal wsX0_seal ({ frames := 2, cells := 0, slots := 0, locals := 47 }) (va_Pc [.ref h0] (fun U => U.heap.size = sz ∧ va_P (dC, dI) vwCl [(h0, .inr (0, [.ref h1, .ref h2, .int u.2.2])), (h1, .inl (cA, 4096, .inl u.1)), (h2, .inl (cB, 512, .inl u.2.1))] U.heap ∧ va_K (dC, dI) vwCl [(cA, .int), (cB, .int)] U ∧ va_D (fun _ => True) [(h0, .inr (0, [.ref h1, .ref h2, .int u.2.2])), (h1, .inl (cA, 4096, .inl u.1)), (h2, .inl (cB, 512, .inl u.2.1))])) (va_Qi (fun (r : Int32) (u2 : Bk_) => mb_seal u = (r, u2)) (at_W dC dI (va_A [(h0, .inr (0, [.ref h1, .ref h2, .int u.2.2])), (h1, .inl (cA, 4096, .inl u.1)), (h2, .inl (cB, 512, .inl u.2.1))] sz) [(cA, .int), (cB, .int)] (bw_X0 h0 h1 h2 cA cB)) (va_A [(h0, .inr (0, [.ref h1, .ref h2, .int u.2.2])), (h1, .inl (cA, 4096, .inl u.1)), (h2, .inl (cB, 512, .inl u.2.1))] sz)) 0 0 (va_A [(h0, .inr (0, [.ref h1, .ref h2, .int u.2.2])), (h1, .inl (cA, 4096, .inl u.1)), (h2, .inl (cB, 512, .inl u.2.1))] sz) := by
  refine Met.ofW (cc := cX0_seal) (maxL := 2) (ret := (some .boolean)) (by decide) rfl ?_
  intro p e s m args below meth c s₁ B hml hv
  obtain ⟨rfl, hsz, hP, hK, hD0⟩ := hv
  have hx := B.exec
  have hb := B.bytes
  have hr := B.returns
  have hts := atoms_spec (ws := wsX0_seal) B.pre
  have hown : s.vm.findClass RX0 = some m.cls := findClass_of_methodNamed B.named
  have hlocks := B.notSynchronized
  subst hsz
  have hD := hD0.self (sz := s.heap.size)
  generalize hAe : va_A [(h0, .inr (0, [.ref h1, .ref h2, .int u.2.2])), (h1, .inl (cA, 4096, .inl u.1)), (h2, .inl (cB, 512, .inl u.2.1))] s.heap.size = A at hD ⊢
  have hA : ∀ q : Nat, s.heap.size ≤ q → A q := fun q h => by rw [← hAe]; exact Or.inr h
  have hS : va_S A s.heap s.heap [] := va_S.rf
  have hP : va_P (dC, dI) vwCl [(h0, .inr (0, [.ref h1, .ref h2, .int u.2.2])), (h1, .inl (cA, 4096, .inl u.1)), (h2, .inl (cB, 512, .inl u.2.1))] s.heap := hP
  have hl := lv_entry ([.ref h0]) (n := 2) (Nat.le_of_ble_eq_true rfl)
  rw [lg_entry_eq]
  generalize (lg_sl ([.ref h0]) ++ List.replicate (2 - (lg_sl ([.ref h0])).length) Slot.unset).toArray = ls at hl ⊢
  have hl : lv_has ls 2 [(0, .ref h0)] := hl
  refine lv_aload_n hx hb dX0_seal_0 rfl (lv_at hl 0 rfl) ?_
  refine lv_iconst (v := 2) hx hb dX0_seal_1 (by decide) ?_
  have hPc := hP.sub (ws' := [(h0, .inr (0, [.ref h1, .ref h2, .int u.2.2])), (h1, .inl (cA, 4096, .inl u.1)), (h2, .inl (cB, 512, .inl u.2.1))]) [0, 1, 2] rfl
  have hDc := hD.sub (ws' := [(h0, .inr (0, [.ref h1, .ref h2, .int u.2.2])), (h1, .inl (cA, 4096, .inl u.1)), (h2, .inl (cB, 512, .inl u.2.1))]) [0, 1, 2] (by decide) rfl
  have hKc := hK.sub (tys' := [(cA, .int), (cB, .int)]) [0, 1] rfl
  have hFc := va_free (wc := [(h0, .inr (0, [.ref h1, .ref h2, .int u.2.2])), (h1, .inl (cA, 4096, .inl u.1)), (h2, .inl (cB, 512, .inl u.2.1))]) hD hS hA [0, 1, 2] rfl
  refine va_calli (va_runV (As := [.int 2]) (rest := []) ⟨hx, hb, hml, hown, hts⟩ (c_hasRoom l dC dI s.heap.size h0 h1 h2 cA cB u 2) (cwV 1 hts gX0_seal_X0_hasRoom rfl rfl rfl (by decide +kernel) ⟨Nat.le_of_ble_eq_true rfl, Nat.le_of_ble_eq_true rfl⟩) ⟨fun a U g mk q => by obtain ⟨q0, q1, qP, qK, qD⟩ := q; exact ⟨q0, q1, qP, va_K.moved (u := U) (U := U.calling g mk a) (Vm.Alike.refl U.vm) qK, qD⟩, va_recv hKc hPc (ci := 0) (q0 := 0) rfl rfl, fun U hU hW => ⟨rfl, by rw [hU], by rw [hU]; exact hPc, va_K.moved hW.alike hKc, hDc.weaken (fun _ _ _ _ => trivial)⟩⟩ rfl rfl hl.1 rfl (lv_room (Nat.le_of_ble_eq_true rfl)) dX0_seal_2 ⟨Nat.le_of_ble_eq_true rfl, Nat.le_of_ble_eq_true rfl⟩) hS (fun q _ h => hFc q h) hFc (fun r1 u1 t H1 locs ht hvm hw_u1 hB hz1 hk1 hS => ?_)
  obtain ⟨hP1, hK1, hD1⟩ := hB
  rw [ht] at hP1
  obtain ⟨hP, hD⟩ := va_join (wr := []) (w1 := [(h0, .inr (0, [.ref h1, .ref h2, .int u1.2.2])), (h1, .inl (cA, 4096, .inl u1.1)), (h2, .inl (cB, 512, .inl u1.2.1))]) hP hD [0, 1, 2] [] rfl rfl (by decide) (by decide) hk1 hFc hP1 hD1
  clear hPc hDc hFc hk1 hP1 hD1 ht
  generalize H1 = H at hP hS ⊢
  have hP : va_P (dC, dI) vwCl [(h0, .inr (0, [.ref h1, .ref h2, .int u1.2.2])), (h1, .inl (cA, 4096, .inl u1.1)), (h2, .inl (cB, 512, .inl u1.2.1))] H := hP
  have hD : va_D A [(h0, .inr (0, [.ref h1, .ref h2, .int u1.2.2])), (h1, .inl (cA, 4096, .inl u1.1)), (h2, .inl (cB, 512, .inl u1.2.1))] := hD
  obtain ⟨rfl, rfl⟩ := hw_u1
  have hP : va_P (dC, dI) vwCl [(h0, .inr (0, [.ref h1, .ref h2, .int u.2.2])), (h1, .inl (cA, 4096, .inl u.1)), (h2, .inl (cB, 512, .inl u.2.1))] H := hP
  have hD : va_D A [(h0, .inr (0, [.ref h1, .ref h2, .int u.2.2])), (h1, .inl (cA, 4096, .inl u.1)), (h2, .inl (cB, 512, .inl u.2.1))] := hD
  refine lv_if_ne (tgt := 10) hx hb dX0_seal_5 (by decide) (fun c1 => ?_) (fun c1 => ?_)
  · have hq := (mb_room_iff hu.1).mp c1
    rw [mb_2] at hq
    have hu1 := hu.1
    have en := mb_nI hu.1
    have hq3 : 0 + u.2.2.toNatClampNeg ≤ 512 := by rw [mb_cl]; omega
    refine lv_aload_n hx hb dX0_seal_10 rfl (lv_at hl 0 rfl) ?_
    refine va_get (D := (dC, dI)) (ci := 0) (v := .ref h2) (C := RX0) (T := TX0) (N := 3) hx hb hts (by decide +kernel) hown hK hP 0 rfl rfl 1 (by decide) (hts (.fieldLink RX0 13 "MemoryBank" "row" "[I") (by decide +kernel)) (fun _ h9 => h9) rfl dX0_seal_11 ?_
    refine lv_iconst (v := 0) hx hb dX0_seal_14 (by decide) ?_
    refine lv_aload_n hx hb dX0_seal_15 rfl (lv_at hl 0 rfl) ?_
    refine va_get (D := (dC, dI)) (ci := 0) (v := .int u.2.2) (C := RX0) (T := TX0) (N := 3) hx hb hts (by decide +kernel) hown hK hP 0 rfl rfl 2 (by decide) (hts (.fieldLink RX0 16 "MemoryBank" "rowSize" "I") (by decide +kernel)) (fun _ h9 => h9) rfl dX0_seal_16 ?_
    refine lv_topi (fun yv eyv => ?_)
    obtain rfl : yv = nI u.2.2.toNatClampNeg := eyv.trans en
    have hPc := hP.sub (ws' := [(h2, .inl (cB, 512, .inl u.2.1))]) [2] rfl
    have hDc := hD.sub (ws' := [(h2, .inl (cB, 512, .inl u.2.1))]) [2] (by decide) rfl
    have hKc := hK.sub (tys' := [(cB, .int)]) [1] rfl
    have hFc := va_free (wc := [(h2, .inl (cB, 512, .inl u.2.1))]) hD hS hA [2] rfl
    refine va_calli (va_runS (As := [.ref h2, .int 0, .int (nI u.2.2.toNatClampNeg)]) (rest := []) ⟨hx, hb, hml, hown, hts⟩ (c_checkOf l dC dI H.size h2 cB 512 u.2.1 0 u.2.2.toNatClampNeg hq3 (by decide)) (va_cwS 3 hts gX0_seal_X0_checkOf rfl rfl rfl (by decide +kernel) ⟨Nat.le_of_ble_eq_true rfl, Nat.le_of_ble_eq_true rfl⟩) ⟨fun a U g mk q => by obtain ⟨q0, q1, qP, qK, qD⟩ := q; exact ⟨q0, q1, qP, va_K.moved (u := U) (U := U.calling g mk a) (Vm.Alike.refl U.vm) qK, qD⟩, fun U hU hW => ⟨rfl, by rw [hU], by rw [hU]; exact hPc, va_K.moved hW.alike hKc, hDc.weaken (fun _ _ _ _ => trivial)⟩⟩ rfl rfl hl.1 rfl (lv_room (Nat.le_of_ble_eq_true rfl)) dX0_seal_19 ⟨Nat.le_of_ble_eq_true rfl, Nat.le_of_ble_eq_true rfl⟩) hS (fun q _ h => hFc q h) hFc (fun r3 u3 t H1 locs ht hvm hw_u3 hB hz1 hk1 hS => ?_)
    obtain ⟨hP1, hK1, hD1⟩ := hB
    rw [ht] at hP1
    obtain ⟨hP, hD⟩ := va_join (wr := [(h0, .inr (0, [.ref h1, .ref h2, .int u.2.2])), (h1, .inl (cA, 4096, .inl u.1))]) (w1 := [(h2, .inl (cB, 512, .inl u.2.1))]) hP hD [2] [0, 1] rfl rfl (by decide) (by decide) hk1 hFc hP1 hD1
    clear hPc hDc hFc hk1 hP1 hD1 ht
    generalize H1 = H at hP hS ⊢
    have hP : va_P (dC, dI) vwCl [(h0, .inr (0, [.ref h1, .ref h2, .int u.2.2])), (h1, .inl (cA, 4096, .inl u.1)), (h2, .inl (cB, 512, .inl u.2.1))] H := hP
    have hD : va_D A [(h0, .inr (0, [.ref h1, .ref h2, .int u.2.2])), (h1, .inl (cA, 4096, .inl u.1)), (h2, .inl (cB, 512, .inl u.2.1))] := hD
    have hP := hP.sub (ws' := [(h0, .inr (0, [.ref h1, .ref h2, .int u.2.2])), (h1, .inl (cA, 4096, .inl u.1)), (h2, .inl (cB, 512, .inl u.2.1))]) [0, 1, 2] rfl
    have hD := hD.sub (ws' := [(h0, .inr (0, [.ref h1, .ref h2, .int u.2.2])), (h1, .inl (cA, 4096, .inl u.1)), (h2, .inl (cB, 512, .inl u.2.1))]) [0, 1, 2] (by decide) rfl
    subst hw_u3
    refine lv_istore_n (lv' := [(1, .int (mb_ck u.2.1 0 u.2.2.toNatClampNeg)), (0, .ref h0)]) hx hb dX0_seal_22 rfl hl (by decide) rfl (fun ls hl => ?_)
    refine lv_aload_n hx hb dX0_seal_23 rfl (lv_at hl 1 rfl) ?_
    refine lv_iload_n hx hb dX0_seal_24 rfl (lv_at hl 0 rfl) ?_
    refine lv_bipush (v := 8) hx hb dX0_seal_25 (by decide) ?_
    refine lv_ishr hx hb dX0_seal_27 ?_
    have hv1 : u.2.2.toInt < 512 := by omega
    have hPc := hP.sub (ws' := [(h0, .inr (0, [.ref h1, .ref h2, .int u.2.2])), (h1, .inl (cA, 4096, .inl u.1)), (h2, .inl (cB, 512, .inl u.2.1))]) [0, 1, 2] rfl
    have hDc := hD.sub (ws' := [(h0, .inr (0, [.ref h1, .ref h2, .int u.2.2])), (h1, .inl (cA, 4096, .inl u.1)), (h2, .inl (cB, 512, .inl u.2.1))]) [0, 1, 2] (by decide) rfl
    have hKc := hK.sub (tys' := [(cA, .int), (cB, .int)]) [0, 1] rfl
    have hFc := va_free (wc := [(h0, .inr (0, [.ref h1, .ref h2, .int u.2.2])), (h1, .inl (cA, 4096, .inl u.1)), (h2, .inl (cB, 512, .inl u.2.1))]) hD hS hA [0, 1, 2] rfl
    refine va_callv (va_runV (As := [.int ((mb_ck u.2.1 0 u.2.2.toNatClampNeg) >>> (8 &&& 31))]) (rest := []) ⟨hx, hb, hml, hown, hts⟩ (c_append l dC dI H.size h0 h1 h2 cA cB u ((mb_ck u.2.1 0 u.2.2.toNatClampNeg) >>> ((8 : Int32) &&& 31)) ⟨hu.1, hv1⟩) (cwV 1 hts gX0_seal_X0_append rfl rfl rfl (by decide +kernel) ⟨Nat.le_of_ble_eq_true rfl, Nat.le_of_ble_eq_true rfl⟩) ⟨fun a U g mk q => by obtain ⟨q0, q1, qP, qK, qD⟩ := q; exact ⟨q0, q1, qP, va_K.moved (u := U) (U := U.calling g mk a) (Vm.Alike.refl U.vm) qK, qD⟩, va_recv hKc hPc (ci := 0) (q0 := 0) rfl rfl, fun U hU hW => ⟨rfl, by rw [hU], by rw [hU]; exact hPc, va_K.moved hW.alike hKc, hDc.weaken (fun _ _ _ _ => trivial)⟩⟩ rfl rfl hl.1 rfl (lv_room (Nat.le_of_ble_eq_true rfl)) dX0_seal_28 ⟨Nat.le_of_ble_eq_true rfl, Nat.le_of_ble_eq_true rfl⟩) hS (fun q _ h => hFc q h) hFc (fun u4 t H1 locs ht hvm hw_u4 hB hz1 hk1 hS => ?_)
    obtain ⟨hP1, hK1, hD1⟩ := hB
    rw [ht] at hP1
    obtain ⟨hP, hD⟩ := va_join (wr := []) (w1 := [(h0, .inr (0, [.ref h1, .ref h2, .int u4.2.2])), (h1, .inl (cA, 4096, .inl u4.1)), (h2, .inl (cB, 512, .inl u4.2.1))]) hP hD [0, 1, 2] [] rfl rfl (by decide) (by decide) hk1 hFc hP1 hD1
    clear hPc hDc hFc hk1 hP1 hD1 ht
    generalize H1 = H at hP hS ⊢
    have hP : va_P (dC, dI) vwCl [(h0, .inr (0, [.ref h1, .ref h2, .int u4.2.2])), (h1, .inl (cA, 4096, .inl u4.1)), (h2, .inl (cB, 512, .inl u4.2.1))] H := hP
    have hD : va_D A [(h0, .inr (0, [.ref h1, .ref h2, .int u4.2.2])), (h1, .inl (cA, 4096, .inl u4.1)), (h2, .inl (cB, 512, .inl u4.2.1))] := hD
    subst hw_u4
    have hP : va_P (dC, dI) vwCl [(h0, .inr (0, [.ref h1, .ref h2, .int (mb_app u ((mb_ck u.2.1 0 u.2.2.toNatClampNeg) >>> ((8 : Int32) &&& 31))).2.2])), (h1, .inl (cA, 4096, .inl u.1)), (h2, .inl (cB, 512, .inl (mb_app u ((mb_ck u.2.1 0 u.2.2.toNatClampNeg) >>> ((8 : Int32) &&& 31))).2.1))] H := hP
    have hD : va_D A [(h0, .inr (0, [.ref h1, .ref h2, .int (mb_app u ((mb_ck u.2.1 0 u.2.2.toNatClampNeg) >>> ((8 : Int32) &&& 31))).2.2])), (h1, .inl (cA, 4096, .inl u.1)), (h2, .inl (cB, 512, .inl (mb_app u ((mb_ck u.2.1 0 u.2.2.toNatClampNeg) >>> ((8 : Int32) &&& 31))).2.1))] := hD
    have hv2 : (mb_app u ((mb_ck u.2.1 0 u.2.2.toNatClampNeg) >>> ((8 : Int32) &&& 31))).2.2.toInt = u.2.2.toInt + 1 := by show (u.2.2 + 1).toInt = _; rw [mb_add hu1 (by decide) (by rw [mb_1]; omega), mb_1]
    refine lv_aload_n hx hb dX0_seal_31 rfl (lv_at hl 1 rfl) ?_
    refine lv_iload_n hx hb dX0_seal_32 rfl (lv_at hl 0 rfl) ?_
    have hPc := hP.sub (ws' := [(h0, .inr (0, [.ref h1, .ref h2, .int (mb_app u ((mb_ck u.2.1 0 u.2.2.toNatClampNeg) >>> ((8 : Int32) &&& 31))).2.2])), (h1, .inl (cA, 4096, .inl u.1)), (h2, .inl (cB, 512, .inl (mb_app u ((mb_ck u.2.1 0 u.2.2.toNatClampNeg) >>> ((8 : Int32) &&& 31))).2.1))]) [0, 1, 2] rfl
    have hDc := hD.sub (ws' := [(h0, .inr (0, [.ref h1, .ref h2, .int (mb_app u ((mb_ck u.2.1 0 u.2.2.toNatClampNeg) >>> ((8 : Int32) &&& 31))).2.2])), (h1, .inl (cA, 4096, .inl u.1)), (h2, .inl (cB, 512, .inl (mb_app u ((mb_ck u.2.1 0 u.2.2.toNatClampNeg) >>> ((8 : Int32) &&& 31))).2.1))]) [0, 1, 2] (by decide) rfl
    have hKc := hK.sub (tys' := [(cA, .int), (cB, .int)]) [0, 1] rfl
    have hFc := va_free (wc := [(h0, .inr (0, [.ref h1, .ref h2, .int (mb_app u ((mb_ck u.2.1 0 u.2.2.toNatClampNeg) >>> ((8 : Int32) &&& 31))).2.2])), (h1, .inl (cA, 4096, .inl u.1)), (h2, .inl (cB, 512, .inl (mb_app u ((mb_ck u.2.1 0 u.2.2.toNatClampNeg) >>> ((8 : Int32) &&& 31))).2.1))]) hD hS hA [0, 1, 2] rfl
    refine va_callv (va_runV (As := [.int (mb_ck u.2.1 0 u.2.2.toNatClampNeg)]) (rest := []) ⟨hx, hb, hml, hown, hts⟩ (c_append l dC dI H.size h0 h1 h2 cA cB (mb_app u ((mb_ck u.2.1 0 u.2.2.toNatClampNeg) >>> ((8 : Int32) &&& 31))) (mb_ck u.2.1 0 u.2.2.toNatClampNeg) ⟨by rw [hv2]; omega, by rw [hv2]; omega⟩) (cwV 1 hts gX0_seal_X0_append rfl rfl rfl (by decide +kernel) ⟨Nat.le_of_ble_eq_true rfl, Nat.le_of_ble_eq_true rfl⟩) ⟨fun a U g mk q => by obtain ⟨q0, q1, qP, qK, qD⟩ := q; exact ⟨q0, q1, qP, va_K.moved (u := U) (U := U.calling g mk a) (Vm.Alike.refl U.vm) qK, qD⟩, va_recv hKc hPc (ci := 0) (q0 := 0) rfl rfl, fun U hU hW => ⟨rfl, by rw [hU], by rw [hU]; exact hPc, va_K.moved hW.alike hKc, hDc.weaken (fun _ _ _ _ => trivial)⟩⟩ rfl rfl hl.1 rfl (lv_room (Nat.le_of_ble_eq_true rfl)) dX0_seal_33 ⟨Nat.le_of_ble_eq_true rfl, Nat.le_of_ble_eq_true rfl⟩) hS (fun q _ h => hFc q h) hFc (fun u5 t H1 locs ht hvm hw_u5 hB hz1 hk1 hS => ?_)
    obtain ⟨hP1, hK1, hD1⟩ := hB
    rw [ht] at hP1
    obtain ⟨hP, hD⟩ := va_join (wr := []) (w1 := [(h0, .inr (0, [.ref h1, .ref h2, .int u5.2.2])), (h1, .inl (cA, 4096, .inl u5.1)), (h2, .inl (cB, 512, .inl u5.2.1))]) hP hD [0, 1, 2] [] rfl rfl (by decide) (by decide) hk1 hFc hP1 hD1
    clear hPc hDc hFc hk1 hP1 hD1 ht
    generalize H1 = H at hP hS ⊢
    have hP : va_P (dC, dI) vwCl [(h0, .inr (0, [.ref h1, .ref h2, .int u5.2.2])), (h1, .inl (cA, 4096, .inl u5.1)), (h2, .inl (cB, 512, .inl u5.2.1))] H := hP
    have hD : va_D A [(h0, .inr (0, [.ref h1, .ref h2, .int u5.2.2])), (h1, .inl (cA, 4096, .inl u5.1)), (h2, .inl (cB, 512, .inl u5.2.1))] := hD
    subst hw_u5
    have hP : va_P (dC, dI) vwCl [(h0, .inr (0, [.ref h1, .ref h2, .int (mb_app (mb_app u ((mb_ck u.2.1 0 u.2.2.toNatClampNeg) >>> ((8 : Int32) &&& 31))) (mb_ck u.2.1 0 u.2.2.toNatClampNeg)).2.2])), (h1, .inl (cA, 4096, .inl u.1)), (h2, .inl (cB, 512, .inl (mb_app (mb_app u ((mb_ck u.2.1 0 u.2.2.toNatClampNeg) >>> ((8 : Int32) &&& 31))) (mb_ck u.2.1 0 u.2.2.toNatClampNeg)).2.1))] H := hP
    have hD : va_D A [(h0, .inr (0, [.ref h1, .ref h2, .int (mb_app (mb_app u ((mb_ck u.2.1 0 u.2.2.toNatClampNeg) >>> ((8 : Int32) &&& 31))) (mb_ck u.2.1 0 u.2.2.toNatClampNeg)).2.2])), (h1, .inl (cA, 4096, .inl u.1)), (h2, .inl (cB, 512, .inl (mb_app (mb_app u ((mb_ck u.2.1 0 u.2.2.toNatClampNeg) >>> ((8 : Int32) &&& 31))) (mb_ck u.2.1 0 u.2.2.toNatClampNeg)).2.1))] := hD
    refine lv_iconst (v := 1) hx hb dX0_seal_36 (by decide) ?_
    have hP9 := hP.sub (ws' := [(h0, .inr (0, [.ref h1, .ref h2, .int (mb_app (mb_app u ((mb_ck u.2.1 0 u.2.2.toNatClampNeg) >>> ((8 : Int32) &&& 31))) (mb_ck u.2.1 0 u.2.2.toNatClampNeg)).2.2])), (h1, .inl (cA, 4096, .inl u.1)), (h2, .inl (cB, 512, .inl (mb_app (mb_app u ((mb_ck u.2.1 0 u.2.2.toNatClampNeg) >>> ((8 : Int32) &&& 31))) (mb_ck u.2.1 0 u.2.2.toNatClampNeg)).2.1))]) [0, 1, 2] rfl
    have hD9 := hD.sub (ws' := [(h0, .inr (0, [.ref h1, .ref h2, .int (mb_app (mb_app u ((mb_ck u.2.1 0 u.2.2.toNatClampNeg) >>> ((8 : Int32) &&& 31))) (mb_ck u.2.1 0 u.2.2.toNatClampNeg)).2.2])), (h1, .inl (cA, 4096, .inl u.1)), (h2, .inl (cB, 512, .inl (mb_app (mb_app u ((mb_ck u.2.1 0 u.2.2.toNatClampNeg) >>> ((8 : Int32) &&& 31))) (mb_ck u.2.1 0 u.2.2.toNatClampNeg)).2.1))]) [0, 1, 2] (by decide) rfl
    exact W.zret (v := 1) hx hb hr (by decide) (fun t ht hW => ⟨⟨1, (mb_app (mb_app u ((mb_ck u.2.1 0 u.2.2.toNatClampNeg) >>> ((8 : Int32) &&& 31))) (mb_ck u.2.1 0 u.2.2.toNatClampNeg)), rfl, by unfold mb_seal; rw [if_neg c1], by rw [ht]; exact hP9, va_K.moved hW.alike hK, hD9⟩, hS.F ht⟩) hS.2.2 dX0_seal_37
  · refine lv_iconst (v := 0) hx hb dX0_seal_8 (by decide) ?_
    have hP9 := hP.sub (ws' := [(h0, .inr (0, [.ref h1, .ref h2, .int u.2.2])), (h1, .inl (cA, 4096, .inl u.1)), (h2, .inl (cB, 512, .inl u.2.1))]) [0, 1, 2] rfl
    have hD9 := hD.sub (ws' := [(h0, .inr (0, [.ref h1, .ref h2, .int u.2.2])), (h1, .inl (cA, 4096, .inl u.1)), (h2, .inl (cB, 512, .inl u.2.1))]) [0, 1, 2] (by decide) rfl
    exact W.zret (v := 0) hx hb hr (by decide) (fun t ht hW => ⟨⟨0, u, rfl, by unfold mb_seal; rw [if_pos c1], by rw [ht]; exact hP9, va_K.moved hW.alike hK, hD9⟩, hS.F ht⟩) hS.2.2 dX0_seal_9
end
section
set_option maxHeartbeats 400000 in
set_option maxRecDepth 100000 in
/-- a new object -/
theorem c_X0_init (l : Launch) (dC : Nat → ClassId) (dI : Nat → Nat → Nat) (sz : Nat) (h0 : Nat)  : Met l yX0_init wsX0_init ({ frames := 1, cells := 2, slots := 4608, locals := 12 }) (va_Pc [.ref h0] (fun U => U.heap.size = sz ∧ va_P (dC, dI) vwCl [(h0, .inr (0, [.null, .null, .int 0]))] U.heap ∧ va_K (dC, dI) vwCl [] U ∧ va_D (fun _ => True) [(h0, .inr (0, [.null, .null, .int 0]))])) (va_Qv (fun (u2 : (Nat × Nat) × (ClassId × ClassId)) => True) (at_N dC dI (va_A [(h0, .inr (0, [.null, .null, .int 0]))] sz) (fun q => bw_X0 h0 q.1.1 q.1.2 q.2.1 q.2.2 (fun _ => 0, fun _ => 0, 0)) (fun q => [(q.2.1, .int), (q.2.2, .int)])) (va_A [(h0, .inr (0, [.null, .null, .int 0]))] sz)) 2 4608 (va_A [(h0, .inr (0, [.null, .null, .int 0]))] sz) := by
  refine Met.ofW (cc := cX0_init) (maxL := 1) (ret := none) (by decide) rfl ?_
  intro p e s m args below meth c s₁ B hml hv
  obtain ⟨rfl, hsz, hP, hK, hD0⟩ := hv
  have hx := B.exec
  have hb := B.bytes
  have hr := B.returns
  have hts := atoms_spec (ws := wsX0_init) B.pre
  have hown : s.vm.findClass RX0 = some m.cls := findClass_of_methodNamed B.named
  have hlocks := B.notSynchronized
  have hin : meth.name = "<init>" := (name_of_methodNamed B.named B.method).1
  subst hsz
  have hD := hD0.self (sz := s.heap.size)
  generalize hAe : va_A [(h0, .inr (0, [.null, .null, .int 0]))] s.heap.size = A at hD ⊢
  have hA : ∀ q : Nat, s.heap.size ≤ q → A q := fun q h => by rw [← hAe]; exact Or.inr h
  have hS : va_S A s.heap s.heap [] := va_S.rf
  have hP : va_P (dC, dI) vwCl [(h0, .inr (0, [.null, .null, .int 0]))] s.heap := hP
  have hl := lv_entry ([.ref h0]) (n := 1) (Nat.le_of_ble_eq_true rfl)
  rw [lg_entry_eq]
  generalize (lg_sl ([.ref h0]) ++ List.replicate (1 - (lg_sl ([.ref h0])).length) Slot.unset).toArray = ls at hl ⊢
  have hl : lv_has ls 1 [(0, .ref h0)] := hl
  refine lv_aload_n hx hb dX0_init_0 rfl (lv_at hl 0 rfl) ?_
  refine W.objInit hx hb hown (hts (.methodLink RX0 1 objectInit) (by decide +kernel)) (hts (.instanceMethod objectInit) (by decide +kernel)) (hts _ (List.mem_of_getElem? (l := wsX0_init) (i := 3) rfl)) rfl (by rw [hml]; exact hl.1) rfl dX0_init_1 (Nat.le_of_ble_eq_true rfl) (Nat.le_of_ble_eq_true rfl) ?_
  refine W.eq (g2 := F0 m 4 ls []) rfl ?_
  refine lv_aload_n hx hb dX0_init_4 rfl (lv_at hl 0 rfl) ?_
  refine lv_sipush (v := 4096) hx hb dX0_init_5 (by decide) ?_
  refine va_newa (atype := .int) (N' := 4096) (a0 := (4096, .inl (fun _ => 0))) (ty := .int) (n := 4096) hx hb (hts (.arrayClass .int) (by decide +kernel)) rfl hK hP hD hS hA (fun _ => rfl) (by decide +kernel) (by decide +kernel) (by decide +kernel) (by decide +kernel) (by decide +kernel) dX0_init_8 (fun h1 cA H hK hP hD hS => ?_)
  have hP : va_P (dC, dI) vwCl [(h0, .inr (0, [.null, .null, .int 0])), (h1, .inl (cA, 4096, .inl (fun _ => 0)))] H := hP
  have hD : va_D A [(h0, .inr (0, [.null, .null, .int 0])), (h1, .inl (cA, 4096, .inl (fun _ => 0)))] := hD
  have hK : va_K (dC, dI) vwCl [(cA, .int)] s := hK
  refine W.widen (k := 1) (n := 4096) (Nat.le_of_ble_eq_true rfl) (Nat.le_of_ble_eq_true rfl) ?_
  refine va_putF (D := (dC, dI)) (ci := 0) (v := .ref h1) (ty := .array .int) (C := RX0) (T := TX0) (N := 3) hx hb hts (by decide +kernel) tyX0 tyX0_ok nmX0 hown hK hP hD hS 0 rfl rfl 0 (by decide) (hts (.fieldLink RX0 9 "MemoryBank" "memory" "[I") (by decide +kernel)) (fun _ h9 => h9) rfl hin rfl (by decide +kernel) rfl rfl (Nat.le_of_ble_eq_true rfl) dX0_init_10 (fun H locs hP hD hS => ?_)
  have hP : va_P (dC, dI) vwCl [(h0, .inr (0, [.ref h1, .null, .int 0])), (h1, .inl (cA, 4096, .inl (fun _ => 0)))] H := hP
  have hD : va_D A [(h0, .inr (0, [.ref h1, .null, .int 0])), (h1, .inl (cA, 4096, .inl (fun _ => 0)))] := hD
  refine lv_aload_n hx hb dX0_init_13 rfl (lv_at hl 0 rfl) ?_
  refine lv_sipush (v := 512) hx hb dX0_init_14 (by decide) ?_
  refine va_newa (atype := .int) (N' := 512) (a0 := (512, .inl (fun _ => 0))) (ty := .int) (n := 512) hx hb (hts (.arrayClass .int) (by decide +kernel)) rfl hK hP hD hS hA (fun _ => rfl) (by decide +kernel) (by decide +kernel) (by decide +kernel) (by decide +kernel) (by decide +kernel) dX0_init_17 (fun h2 cB H hK hP hD hS => ?_)
  have hP : va_P (dC, dI) vwCl [(h0, .inr (0, [.ref h1, .null, .int 0])), (h1, .inl (cA, 4096, .inl (fun _ => 0))), (h2, .inl (cB, 512, .inl (fun _ => 0)))] H := hP
  have hD : va_D A [(h0, .inr (0, [.ref h1, .null, .int 0])), (h1, .inl (cA, 4096, .inl (fun _ => 0))), (h2, .inl (cB, 512, .inl (fun _ => 0)))] := hD
  have hK : va_K (dC, dI) vwCl [(cA, .int), (cB, .int)] s := hK
  refine W.widen (k := 2) (n := 4608) (Nat.le_of_ble_eq_true rfl) (Nat.le_of_ble_eq_true rfl) ?_
  refine va_putF (D := (dC, dI)) (ci := 0) (v := .ref h2) (ty := .array .int) (C := RX0) (T := TX0) (N := 3) hx hb hts (by decide +kernel) tyX0 tyX0_ok nmX0 hown hK hP hD hS 0 rfl rfl 1 (by decide) (hts (.fieldLink RX0 13 "MemoryBank" "row" "[I") (by decide +kernel)) (fun _ h9 => h9) rfl hin rfl (by decide +kernel) rfl rfl (Nat.le_of_ble_eq_true rfl) dX0_init_19 (fun H locs hP hD hS => ?_)
  have hP : va_P (dC, dI) vwCl [(h0, .inr (0, [.ref h1, .ref h2, .int 0])), (h1, .inl (cA, 4096, .inl (fun _ => 0))), (h2, .inl (cB, 512, .inl (fun _ => 0)))] H := hP
  have hD : va_D A [(h0, .inr (0, [.ref h1, .ref h2, .int 0])), (h1, .inl (cA, 4096, .inl (fun _ => 0))), (h2, .inl (cB, 512, .inl (fun _ => 0)))] := hD
  refine lv_aload_n hx hb dX0_init_22 rfl (lv_at hl 0 rfl) ?_
  refine lv_iconst (v := 0) hx hb dX0_init_23 (by decide) ?_
  refine va_put (D := (dC, dI)) (ci := 0) (v := .int 0) (ty := .int) (C := RX0) (T := TX0) (N := 3) hx hb hts (by decide +kernel) tyX0 tyX0_ok nmX0 hown hK hP hD hS 0 rfl rfl 2 (by decide) (hts (.fieldLink RX0 16 "MemoryBank" "rowSize" "I") (by decide +kernel)) (fun _ h9 => h9) rfl (by decide +kernel) rfl rfl (Nat.le_of_ble_eq_true rfl) dX0_init_24 (fun H locs hP hD hS => ?_)
  have hP : va_P (dC, dI) vwCl [(h0, .inr (0, [.ref h1, .ref h2, .int 0])), (h1, .inl (cA, 4096, .inl (fun _ => 0))), (h2, .inl (cB, 512, .inl (fun _ => 0)))] H := hP
  have hD : va_D A [(h0, .inr (0, [.ref h1, .ref h2, .int 0])), (h1, .inl (cA, 4096, .inl (fun _ => 0))), (h2, .inl (cB, 512, .inl (fun _ => 0)))] := hD
  have hP9 := hP.sub (ws' := [(h0, .inr (0, [.ref h1, .ref h2, .int 0])), (h1, .inl (cA, 4096, .inl (fun _ => 0))), (h2, .inl (cB, 512, .inl (fun _ => 0)))]) [0, 1, 2] rfl
  have hD9 := hD.sub (ws' := [(h0, .inr (0, [.ref h1, .ref h2, .int 0])), (h1, .inl (cA, 4096, .inl (fun _ => 0))), (h2, .inl (cB, 512, .inl (fun _ => 0)))]) [0, 1, 2] (by decide) rfl
  exact W.vret hx hb hr (fun t ht hW => ⟨⟨((h1, h2), (cA, cB)), rfl, trivial, by rw [ht]; exact hP9, va_K.moved hW.alike hK, hD9⟩, hS.F ht⟩) hS.2.2 dX0_init_27
end
section
/-! the reference holds the same bytes as signed ones; its check goes bit by bit. Here: both checks are one number. -/
def mb_sg (x : Int32) : Int32 := x.toInt8.toInt32
def mb_B (x : Int32) : Prop := ∃ b : Nat, b < 256 ∧ x = nI b
def mb_inv (u : Bk_) : Prop := mb_ok u ∧ (∀ j, mb_B (u.1 j)) ∧ (∀ j, mb_B (u.2.1 j))
theorem mb_sg255 {x : Int32} (h : mb_B x) : mb_sg x &&& 255 = x := by
  obtain ⟨b, hb, rfl⟩ := h
  exact (sb_byte b hb).1
theorem mb_sgand (x : Int32) : mb_sg (x &&& 255) = x.toInt8.toInt32 := by
  unfold mb_sg
  rw [Int32.toInt8_and, show (255 : Int32).toInt8 = -1 from by decide, Int8.and_neg_one]
theorem mb_B255 (x : Int32) : mb_B (x &&& 255) := by
  obtain ⟨j, hj, e⟩ := pk_andE x (m := 255) 8 (by decide)
  exact ⟨j, hj, e⟩
theorem mb_B0 : mb_B 0 := ⟨0, by decide, rfl⟩
theorem mb_nar (x : Int32) : vp_nar .byte (mb_sg x) = mb_sg x := pk_vb x
theorem mb_sgupd (f : Nat → Int32) (k : Nat) (x : Int32) : upd (fun j => mb_sg (f j)) k (mb_sg x) = fun j => mb_sg (upd f k x j) := by
  funext j
  unfold upd
  by_cases h : j = k
  · rw [if_pos h, if_pos h]
  · rw [if_neg h, if_neg h]
theorem mb_cpy1 (f g : Nat → Int32) (a b n : Nat) : upd (va_cpy f g a b n) (b + n) (f (a + n)) = va_cpy f g a b (n + 1) := by
  funext j
  unfold upd va_cpy
  by_cases h : j = b + n
  · rw [if_pos h, if_pos (by omega), h]
    congr 1
    omega
  · rw [if_neg h]
    by_cases h2 : b ≤ j ∧ j < b + n
    · rw [if_pos h2, if_pos (by omega)]
    · rw [if_neg h2, if_neg (by omega)]
theorem mb_cpy0 (f g : Nat → Int32) (a b : Nat) : va_cpy f g a b 0 = g := by
  funext j
  unfold va_cpy
  rw [if_neg (by omega)]
theorem mx_xor (a b : Nat) : nI a ^^^ nI b = nI (a ^^^ b) := by
  apply Int32.toBitVec_inj.1
  show BitVec.ofNat 32 a ^^^ BitVec.ofNat 32 b = BitVec.ofNat 32 (a ^^^ b)
  apply BitVec.eq_of_getLsbD_eq
  intro i hi
  simp [hi]
def mb_D (v : Nat) : Nat := if 2 * v < 65536 then 2 * v else (2 * v) ^^^ 69665
def mb_E (w t : Nat) : Nat := if (w / 32768) ^^^ t = 1 then (2 * w % 65536) ^^^ 4129 else 2 * w % 65536
def mb_bit (b r : Nat) : Nat := b / 2 ^ (7 - r) % 2
theorem mb_dblN {v : Nat} (h : v < 65536) : mb_dbl (nI v) = nI (mb_D v) := by
  unfold mb_dbl mb_D
  have e : nI v * 2 = nI (2 * v) := by rw [Nat.mul_comm 2 v]; exact pk_mul v 2
  rw [e]
  by_cases h2 : 2 * v < 65536
  · have h3 : nI (2 * v) < 65536 := (nI_ltI (b := 65536) (by omega) (by omega)).mpr h2
    rw [if_pos h2, if_pos h3]
  · have h3 : ¬ nI (2 * v) < 65536 := fun q => h2 ((nI_ltI (b := 65536) (by omega) (by omega)).mp q)
    rw [if_neg h2, if_neg h3]
    exact mx_xor (2 * v) 69665
theorem mb_lowP : ∀ i, i < 16 → Nat.testBit 69665 i = Nat.testBit 4129 i := by decide
theorem mb_Dx {v : Nat} (h : v < 65536) : mb_D v = (2 * v % 65536) ^^^ (if v / 32768 = 1 then 4129 else 0) := by
  unfold mb_D
  by_cases h2 : 2 * v < 65536
  · rw [if_pos h2, if_neg (by omega), Nat.mod_eq_of_lt h2, Nat.xor_zero]
  · rw [if_neg h2, if_pos (by omega)]
    apply Nat.eq_of_testBit_eq
    intro i
    rw [Nat.testBit_xor, Nat.testBit_xor, show 2 * v % 65536 = 2 * v % 2 ^ 16 from rfl, Nat.testBit_mod_two_pow]
    rcases Nat.lt_or_ge i 16 with hi | hi
    · rw [mb_lowP i hi]
      simp [hi]
    · rcases Nat.lt_or_ge 16 i with h3 | h3
      · have p1 : 2 ^ 17 ≤ 2 ^ i := Nat.pow_le_pow_right (by decide) h3
        rw [Nat.testBit_lt_two_pow (x := 2 * v) (i := i) (by omega), Nat.testBit_lt_two_pow (x := 69665) (i := i) (by omega), Nat.testBit_lt_two_pow (x := 4129) (i := i) (by omega)]
        simp
      · obtain rfl : i = 16 := by omega
        have p2 : Nat.testBit (2 * v) 16 = true := by
          rw [Nat.testBit_eq_decide_div_mod_eq]
          exact decide_eq_true (by omega)
        rw [p2]
        decide
theorem mb_step {w y : Nat} (hw : w < 65536) (hy : y < 65536) : mb_D (w ^^^ y) = mb_E w (y / 32768) ^^^ (2 * y % 65536) := by
  have hx : w ^^^ y < 65536 := Nat.xor_lt_two_pow (n := 16) hw hy
  have e1 : 2 * (w ^^^ y) % 65536 = (2 * w % 65536) ^^^ (2 * y % 65536) := by
    have a1 : ∀ z : Nat, 2 * z = z <<< 1 := fun z => by rw [Nat.shiftLeft_eq]; omega
    rw [a1, a1 w, a1 y, Nat.shiftLeft_xor_distrib]
    exact Nat.xor_mod_two_pow (n := 16)
  have e2 : (w ^^^ y) / 32768 = (w / 32768) ^^^ (y / 32768) := Nat.xor_div_two_pow (n := 15)
  rw [mb_Dx hx, e1, e2]
  unfold mb_E
  by_cases h : (w / 32768) ^^^ (y / 32768) = 1
  · rw [if_pos h, if_pos h, Nat.xor_assoc, Nat.xor_comm (2 * y % 65536) 4129, ← Nat.xor_assoc]
  · rw [if_neg h, if_neg h, Nat.xor_zero]
theorem mb_E_lt (w t : Nat) : mb_E w t < 65536 := by
  unfold mb_E
  split
  · exact Nat.xor_lt_two_pow (n := 16) (Nat.mod_lt _ (by decide)) (by decide)
  · exact Nat.mod_lt _ (by decide)
def mb_ie (b w : Nat) : Nat → Nat
  | 0 => w
  | j + 1 => mb_E (mb_ie b w j) (mb_bit b j)
theorem mb_ie_lt {b w : Nat} (hw : w < 65536) : ∀ j, mb_ie b w j < 65536
  | 0 => hw
  | j + 1 => mb_E_lt _ _
theorem mb_yv : ∀ b, b < 256 → ∀ j, j < 8 → (b * 2 ^ (8 + j) % 65536) / 32768 = mb_bit b j := by decide +kernel
theorem mb_it_succ : ∀ (n : Nat) (c : Int32), mb_it (n + 1) c = mb_dbl (mb_it n c)
  | 0, _ => rfl
  | n + 1, c => mb_it_succ n (mb_dbl c)
theorem mb_itN {w b : Nat} (hw : w < 65536) (hb : b < 256) : ∀ j, j ≤ 8 → mb_it j (nI (w ^^^ (b * 256))) = nI (mb_ie b w j ^^^ (b * 2 ^ (8 + j) % 65536)) := by
  intro j
  induction j with
  | zero =>
    intro _
    show nI (w ^^^ (b * 256)) = nI (w ^^^ (b * 256 % 65536))
    rw [Nat.mod_eq_of_lt (by omega)]
  | succ j ih =>
    intro hj
    have hl := mb_ie_lt (b := b) hw j
    have hy : b * 2 ^ (8 + j) % 65536 < 65536 := Nat.mod_lt _ (by decide)
    have e3 : 2 * (b * 2 ^ (8 + j) % 65536) % 65536 = b * 2 ^ (8 + (j + 1)) % 65536 := by
      rw [show 8 + (j + 1) = (8 + j) + 1 from rfl, Nat.pow_succ, ← Nat.mul_assoc]
      generalize b * 2 ^ (8 + j) = z
      omega
    rw [mb_it_succ, ih (by omega), mb_dblN (Nat.xor_lt_two_pow (n := 16) hl hy), mb_step hl hy, mb_yv b hb j (by omega), e3]
    rfl
theorem mb_cwN {w b : Nat} (hw : w < 65536) (hb : b < 256) : mb_cw (nI w) (nI b) = nI (mb_ie b w 8) := by
  unfold mb_cw
  have e : nI w ^^^ (nI b * 256) = nI (w ^^^ (b * 256)) := by
    rw [show nI b * 256 = nI (b * 256) from pk_mul b 256, mx_xor]
  rw [e, mb_itN hw hb 8 (by decide), show b * 2 ^ (8 + 8) % 65536 = 0 from Nat.mul_mod_left b 65536, Nat.xor_zero]
/-- the reference's check behind k bits -/
def mb_mk (f : Nat → Int32) (a : Nat) : Nat → Nat
  | 0 => 65535
  | k + 1 => mb_E (mb_mk f a k) (mb_bit (f (a + k / 8)).toNatClampNeg (k % 8))
theorem mb_mk_lt (f : Nat → Int32) (a : Nat) : ∀ k, mb_mk f a k < 65536
  | 0 => (by decide : (65535 : Nat) < 65536)
  | k + 1 => mb_E_lt _ _
theorem mb_mk8 (f : Nat → Int32) (a n : Nat) : ∀ j, j ≤ 8 → mb_mk f a (8 * n + j) = mb_ie (f (a + n)).toNatClampNeg (mb_mk f a (8 * n)) j := by
  intro j
  induction j with
  | zero => intro _; rfl
  | succ j ih =>
    intro hj
    show mb_E (mb_mk f a (8 * n + j)) (mb_bit (f (a + (8 * n + j) / 8)).toNatClampNeg ((8 * n + j) % 8)) = _
    rw [ih (by omega), show (8 * n + j) / 8 = n from by omega, show (8 * n + j) % 8 = j from by omega]
    rfl
theorem mb_ckN {f : Nat → Int32} (hf : ∀ j, mb_B (f j)) (a : Nat) : ∀ n, mb_ck f a n = nI (mb_mk f a (8 * n)) := by
  intro n
  induction n with
  | zero => rfl
  | succ n ih =>
    show mb_cw (mb_ck f a n) (f (a + n)) = _
    obtain ⟨b, hb, e⟩ := hf (a + n)
    rw [ih, e, mb_cwN (mb_mk_lt f a _) hb]
    have e2 : (f (a + n)).toNatClampNeg = b := by rw [e]; exact nI_clamp (by omega)
    have e3 := mb_mk8 f a n 8 (by decide)
    rw [e2] at e3
    rw [show 8 * (n + 1) = 8 * n + 8 from by omega, e3]
theorem mb_bitN : ∀ b, b < 256 → ∀ r, r < 8 → ((mb_sg (nI b)) >>> (nI (7 - r) &&& 31)) &&& 1 = nI (mb_bit b r) := by decide +kernel
theorem mb_bit2 (b r : Nat) : mb_bit b r < 2 := Nat.mod_lt _ (by decide)
theorem mb_long {a b k : Int32} (ha : 0 ≤ a.toInt) (hb : 0 ≤ b.toInt) (hk : 0 ≤ k.toInt) : k.toInt64 < a.toInt64 + b.toInt64 ↔ k - a < b := by
  have h1 := Int32.toInt_lt a
  have h2 := Int32.toInt_lt b
  rw [mb_lt, mb_sub ha hk, Int64.lt_iff_toInt_lt, Int64.toInt_add, Int32.toInt_toInt64, Int32.toInt_toInt64, Int32.toInt_toInt64, Int.bmod_eq_of_le_mul_two (by omega) (by omega)]
  omega
/-! what each method keeps -/
theorem mb_B_cpy {f g : Nat → Int32} (hf : ∀ j, mb_B (f j)) (hg : ∀ j, mb_B (g j)) (a b n : Nat) : ∀ j, mb_B (va_cpy f g a b n j) := by
  intro j
  unfold va_cpy
  split
  · exact hf _
  · exact hg _
theorem mb_B_upd {f : Nat → Int32} (hf : ∀ j, mb_B (f j)) (k : Nat) {x : Int32} (hx : mb_B x) : ∀ j, mb_B (upd f k x j) := by
  intro j
  unfold upd
  split
  · exact hx
  · exact hf _
theorem mb_app_inv {u : Bk_} (h : mb_inv u) (hz : u.2.2.toInt < 512) (b : Int32) : mb_inv (mb_app u b) ∧ (mb_app u b).2.2.toInt = u.2.2.toInt + 1 := by
  have h0 := h.1.1
  have e : (u.2.2 + 1).toInt = u.2.2.toInt + 1 := by rw [mb_add h0 (by decide) (by rw [mb_1]; omega), mb_1]
  refine ⟨⟨⟨?_, ?_⟩, h.2.1, mb_B_upd h.2.2 _ (mb_B255 b)⟩, e⟩
  · show 0 ≤ (u.2.2 + 1).toInt
    omega
  · show (u.2.2 + 1).toInt ≤ 512
    omega
theorem mb_put_inv {u : Bk_} (h : mb_inv u) (b : Int32) : mb_inv (mb_put u b).2 := by
  unfold mb_put
  by_cases c : mb_room 1 u.2.2 = 0
  · rw [if_pos c]; exact h
  · rw [if_neg c]
    have q := (mb_room_iff h.1.1).mp c
    rw [mb_1] at q
    exact (mb_app_inv h (by omega) b).1
theorem mb_cut_inv {u : Bk_} (h : mb_inv u) (n : Int32) : mb_inv (mb_cut u n).2 := by
  unfold mb_cut
  by_cases c : mb_part 0 n u.2.2 = 0
  · rw [if_pos c]; exact h
  · rw [if_neg c]
    have q := (mb_part_iff h.1.1).mp c
    rw [mb_0] at q
    have := h.1.2
    exact ⟨⟨q.2.1, by show n.toInt ≤ 512; omega⟩, h.2⟩
theorem mb_load_inv {u : Bk_} (h : mb_inv u) (k n a : Int32) : mb_inv (mb_load u k n a).2 := by
  unfold mb_load
  split
  · exact h
  · split
    · exact h
    · split
      · exact h
      · exact ⟨h.1, mb_B_cpy h.2.2 h.2.1 _ _ _, h.2.2⟩
theorem mb_dump_inv {u : Bk_} (h : mb_inv u) (a n : Int32) : mb_inv (mb_dump u a n).2 := by
  unfold mb_dump
  by_cases c1 : n < 1
  · rw [if_pos c1]; exact h
  · rw [if_neg c1]
    by_cases c2 : mb_part a n 4096 = 0
    · rw [if_pos c2]; exact h
    · rw [if_neg c2]
      by_cases c3 : mb_room n u.2.2 = 0
      · rw [if_pos c3]; exact h
      · rw [if_neg c3]
        have q := (mb_room_iff h.1.1).mp c3
        have q2 := (mb_part_iff (by decide)).mp c2
        have h0 := h.1.1
        have e : (u.2.2 + n).toInt = u.2.2.toInt + n.toInt := mb_add h0 q2.2.1 (by omega)
        exact ⟨⟨by show 0 ≤ (u.2.2 + n).toInt; omega, by show (u.2.2 + n).toInt ≤ 512; omega⟩, h.2.1, mb_B_cpy h.2.1 h.2.2 _ _ _⟩
theorem mb_rd_inv {u : Bk_} (h : mb_inv u) {c : Prop} {x y : Int32} [Decidable c] : mb_inv (if c then ((x, u) : Int32 × Bk_) else (y, u)).2 := by
  by_cases q : c
  · rw [if_pos q]; exact h
  · rw [if_neg q]; exact h
theorem mb_seal_inv {u : Bk_} (h : mb_inv u) : mb_inv (mb_seal u).2 := by
  unfold mb_seal
  by_cases c : mb_room 2 u.2.2 = 0
  · rw [if_pos c]; exact h
  · rw [if_neg c]
    have q := (mb_room_iff h.1.1).mp c
    rw [mb_2] at q
    have h1 := mb_app_inv h (by omega) (mb_ck u.2.1 0 u.2.2.toNatClampNeg >>> ((8 : Int32) &&& 31))
    exact (mb_app_inv h1.1 (by rw [h1.2]; omega) _).1
end
section
abbrev bw_X1 (g0 g1 g2 : Nat) (cC cD : ClassId) (u : Bk_) : va_W := [(g0, .inr (1, [.int 0, .ref g1, .ref g2, .int u.2.2])), (g1, .inl (cC, 4096, .inl (fun jx => mb_sg (u.1 jx)))), (g2, .inl (cD, 512, .inl (fun jx => mb_sg (u.2.1 jx))))]
set_option maxHeartbeats 4000000 in
set_option maxRecDepth 100000 in
/-- in: its answer alone -/
theorem c_in (l : Launch) (dC : Nat → ClassId) (dI : Nat → Nat → Nat) (sz : Nat) (a b k : Int32) (hk : 0 ≤ k.toInt) : Met l yX1_in wsX1_in ({ frames := 0, cells := 0, slots := 0, locals := 0 }) (va_Pc [.int a, .int b, .int k] (fun U => U.heap.size = sz ∧ va_P (dC, dI) vwCl [] U.heap ∧ va_K (dC, dI) vwCl [] U ∧ va_D (fun _ => True) [])) (va_Qi (fun (r : Int32) (u2 : Unit) => mb_part a b k = r) (at_W dC dI (va_A [] sz) [] (fun _ => [])) (va_A [] sz)) 0 0 (va_A [] sz) := by
  refine Met.ofW (cc := cX1_in) (maxL := 3) (ret := (some .boolean)) (by decide) rfl ?_
  intro p e s m args below meth c s₁ B hml hv
  obtain ⟨rfl, hsz, hP, hK, hD0⟩ := hv
  have hx := B.exec
  have hb := B.bytes
  have hr := B.returns
  have hts := atoms_spec (ws := wsX1_in) B.pre
  have hown : s.vm.findClass RX1 = some m.cls := findClass_of_methodNamed B.named
  have hlocks := B.notSynchronized
  subst hsz
  have hD := hD0.self (sz := s.heap.size)
  generalize hAe : va_A [] s.heap.size = A at hD ⊢
  have hA : ∀ q : Nat, s.heap.size ≤ q → A q := fun q h => by rw [← hAe]; exact Or.inr h
  have hS : va_S A s.heap s.heap [] := va_S.rf
  have hP : va_P (dC, dI) vwCl [] s.heap := hP
  have hl := lv_entry ([.int a, .int b, .int k]) (n := 3) (Nat.le_of_ble_eq_true rfl)
  rw [lg_entry_eq]
  generalize (lg_sl ([.int a, .int b, .int k]) ++ List.replicate (3 - (lg_sl ([.int a, .int b, .int k])).length) Slot.unset).toArray = ls at hl ⊢
  have hl : lv_has ls 3 [(0, .int a), (1, .int b), (2, .int k)] := hl
  refine lv_iload_n hx hb dX1_in_0 rfl (lv_at hl 0 rfl) ?_
  refine lv_if_lt (tgt := 23) hx hb dX1_in_1 (by decide) (fun c1 => ?_) (fun c1 => ?_)
  · refine lv_iconst (v := 0) hx hb dX1_in_23 (by decide) ?_
    have hP9 := hP.sub (ws' := []) [] rfl
    have hD9 := hD.sub (ws' := []) [] (by decide) rfl
    exact W.zret (v := 0) hx hb hr (by decide) (fun t ht hW => ⟨⟨0, (), rfl, by unfold mb_part; rw [if_pos c1], by rw [ht]; exact hP9, va_K.moved hW.alike hK, hD9⟩, hS.F ht⟩) hS.2.2 dX1_in_24
  · refine lv_iload_n hx hb dX1_in_4 rfl (lv_at hl 1 rfl) ?_
    refine lv_if_lt (tgt := 23) hx hb dX1_in_5 (by decide) (fun c2 => ?_) (fun c2 => ?_)
    · refine lv_iconst (v := 0) hx hb dX1_in_23 (by decide) ?_
      have hP9 := hP.sub (ws' := []) [] rfl
      have hD9 := hD.sub (ws' := []) [] (by decide) rfl
      exact W.zret (v := 0) hx hb hr (by decide) (fun t ht hW => ⟨⟨0, (), rfl, by unfold mb_part; rw [if_neg c1, if_pos c2], by rw [ht]; exact hP9, va_K.moved hW.alike hK, hD9⟩, hS.F ht⟩) hS.2.2 dX1_in_24
    · refine lv_iload_n hx hb dX1_in_8 rfl (lv_at hl 0 rfl) ?_
      refine lv_i2l (v := a.toInt64) hx hb dX1_in_9 rfl ?_
      refine lv_iload_n hx hb dX1_in_10 rfl (lv_at hl 1 rfl) ?_
      refine lv_i2l (v := b.toInt64) hx hb dX1_in_11 rfl ?_
      refine lv_ladd hx hb dX1_in_12 ?_
      refine lv_iload_n hx hb dX1_in_13 rfl (lv_at hl 2 rfl) ?_
      refine lv_i2l (v := k.toInt64) hx hb dX1_in_14 rfl ?_
      refine W.lcmp hx hb dX1_in_15 ?_
      have ha0 : 0 ≤ a.toInt := by rw [mb_lt, mb_0] at c1; omega
      have hb0 : 0 ≤ b.toInt := by rw [mb_lt, mb_0] at c2; omega
      refine lv_if_gt (tgt := 23) hx hb dX1_in_16 (by decide) (fun c3 => ?_) (fun c3 => ?_)
      · have c4 := (mb_long ha0 hb0 hk).mp ((lg_cmp_gt _ _).mp c3)
        refine lv_iconst (v := 0) hx hb dX1_in_23 (by decide) ?_
        have hP9 := hP.sub (ws' := []) [] rfl
        have hD9 := hD.sub (ws' := []) [] (by decide) rfl
        exact W.zret (v := 0) hx hb hr (by decide) (fun t ht hW => ⟨⟨0, (), rfl, by unfold mb_part; rw [if_neg c1, if_neg c2, if_pos c4], by rw [ht]; exact hP9, va_K.moved hW.alike hK, hD9⟩, hS.F ht⟩) hS.2.2 dX1_in_24
      · have c4 : ¬ k - a < b := fun q => c3 ((lg_cmp_gt _ _).mpr ((mb_long ha0 hb0 hk).mpr q))
        refine lv_iconst (v := 1) hx hb dX1_in_19 (by decide) ?_
        refine lv_goto (tgt := 24) hx hb dX1_in_20 (by decide) ?_
        have hP9 := hP.sub (ws' := []) [] rfl
        have hD9 := hD.sub (ws' := []) [] (by decide) rfl
        exact W.zret (v := 1) hx hb hr (by decide) (fun t ht hW => ⟨⟨1, (), rfl, by unfold mb_part; rw [if_neg c1, if_neg c2, if_neg c4], by rw [ht]; exact hP9, va_K.moved hW.alike hK, hD9⟩, hS.F ht⟩) hS.2.2 dX1_in_24
set_option maxHeartbeats 1000000 in
set_option maxRecDepth 100000 in
theorem lp_mcheckOf {p : Program} {l : Launch} {e : Env} {R : Room} {s : State} {m : MethodId} {args : Array Value} {below : List Frame} {meth : Method} {c : Code} {cells slots : Nat} {Q : State → Prop} {H : Heap} {locs : List Loc} (hx : p.tables.exec = Jvm.exec) (hb : c.code = cX1_checkOf) (hown : s.vm.findClass RX1 = some m.cls) (hts : ∀ w ∈ wsX1_checkOf, w.before args s = true) (dC : Nat → ClassId) (dI : Nat → Nat → Nat) (g1 : Nat) (cC : ClassId) (n1 : Nat) (f : Nat → Int32) (hf : ∀ j, mb_B (f j)) (a n : Nat) (hn : a + n ≤ n1) (hn1 : n1 ≤ 4096) (hK : va_K (dC, dI) vwCl [(cC, .byte)] s) (hP : va_P (dC, dI) vwCl [(g1, .inl (cC, n1, .inl (fun jx => mb_sg (f jx))))] H) :
    ∀ (j k : Nat), k + j = 8 * n → (∀ ls : Array Slot, lv_has ls 7 [(0, .ref g1), (1, .int (nI a)), (2, .int (nI n)), (3, .int (nI (mb_mk f a (8 * n)))), (4, .int (nI (8 * n)))] → W p l e R s m args below meth c H locs cells slots Q (F0 m 75 ls [])) → ∀ ls : Array Slot, lv_has ls 7 [(0, .ref g1), (1, .int (nI a)), (2, .int (nI n)), (3, .int (nI (mb_mk f a (k)))), (4, .int (nI (k)))] → W p l e R s m args below meth c H locs cells slots Q (F0 m 6 ls []) := by
  intro j
  induction j with
  | zero =>
    intro k hk kk ls hl
    obtain rfl : k = 8 * n := by omega
    refine lv_iload hx hb dX1_checkOf_6 (lv_at hl 4 rfl) ?_
    refine lv_bipush (v := 8) hx hb dX1_checkOf_8 (by decide) ?_
    refine lv_iload_n hx hb dX1_checkOf_10 rfl (lv_at hl 2 rfl) ?_
    refine lv_imul hx hb dX1_checkOf_11 ?_
    refine lv_topi (fun yv eyv => ?_)
    obtain rfl : yv = nI (8 * n) := eyv.trans (pk_mul 8 n)
    refine lv_icmp_ge (tgt := 75) hx hb dX1_checkOf_12 (by decide) (fun c1 => ?_) (fun c1 => ?_)
    · exact kk ls hl
    · exact absurd (nI_le (Nat.le_refl _) (by omega)) c1
  | succ j ih =>
    intro k hk kk ls hl
    have hw := mb_mk_lt f a k
    obtain ⟨b0, hb0, eb⟩ := hf (a + k / 8)
    have hbit : (mb_sg (f (a + k / 8)) >>> (nI (7 - k % 8) &&& 31)) &&& 1 = nI (mb_bit (f (a + k / 8)).toNatClampNeg (k % 8)) := by
      rw [eb, nI_clamp (by omega)]
      exact mb_bitN b0 hb0 (k % 8) (Nat.mod_lt _ (by decide))
    have hb2 := mb_bit2 (f (a + k / 8)).toNatClampNeg (k % 8)
    refine lv_iload hx hb dX1_checkOf_6 (lv_at hl 4 rfl) ?_
    refine lv_bipush (v := 8) hx hb dX1_checkOf_8 (by decide) ?_
    refine lv_iload_n hx hb dX1_checkOf_10 rfl (lv_at hl 2 rfl) ?_
    refine lv_imul hx hb dX1_checkOf_11 ?_
    refine lv_topi (fun yv eyv => ?_)
    obtain rfl : yv = nI (8 * n) := eyv.trans (pk_mul 8 n)
    refine lv_icmp_ge (tgt := 75) hx hb dX1_checkOf_12 (by decide) (fun c1 => ?_) (fun c1 => ?_)
    · exact absurd c1 (nI_ge (by omega) (by omega))
    · refine lv_aload_n hx hb dX1_checkOf_15 rfl (lv_at hl 0 rfl) ?_
      refine lv_iload_n hx hb dX1_checkOf_16 rfl (lv_at hl 1 rfl) ?_
      refine lv_iload hx hb dX1_checkOf_17 (lv_at hl 4 rfl) ?_
      refine lv_bipush (v := 8) hx hb dX1_checkOf_19 (by decide) ?_
      refine lv_idiv hx hb dX1_checkOf_21 (by decide) ?_
      refine lv_topi (fun yv eyv => ?_)
      obtain rfl : yv = nI (k / 8) := eyv.trans (pk_div (a := k) (d := 8) (by omega) (by decide) (by decide))
      refine lv_iadd hx hb dX1_checkOf_22 ?_
      refine lv_topi (fun yv eyv => ?_)
      obtain rfl : yv = nI (a + k / 8) := eyv.trans (nI_add a (k / 8))
      refine va_bald hx hb hK hP 0 0 rfl rfl (vp_in_nI (by omega) (by omega)) dX1_checkOf_23 ?_
      refine lv_topi (fun yv eyv => ?_)
      obtain rfl : yv = mb_sg (f (a + k / 8)) := eyv.trans (by rw [nI_clamp (by omega)])
      refine lv_bipush (v := 7) hx hb dX1_checkOf_24 (by decide) ?_
      refine lv_iload hx hb dX1_checkOf_26 (lv_at hl 4 rfl) ?_
      refine lv_bipush (v := 8) hx hb dX1_checkOf_28 (by decide) ?_
      refine lv_irem hx hb dX1_checkOf_30 (by decide) ?_
      refine lv_topi (fun yv eyv => ?_)
      obtain rfl : yv = nI (k % 8) := eyv.trans (pk_rem (a := k) (d := 8) (by omega) (by decide) (by decide))
      refine lv_isub hx hb dX1_checkOf_31 ?_
      refine lv_topi (fun yv eyv => ?_)
      obtain rfl : yv = nI (7 - k % 8) := eyv.trans (pk_sub (a := 7) (b := k % 8) (by omega))
      refine lv_ishr hx hb dX1_checkOf_32 ?_
      refine lv_iconst (v := 1) hx hb dX1_checkOf_33 (by decide) ?_
      refine lv_iand hx hb dX1_checkOf_34 ?_
      refine lv_topi (fun yv eyv => ?_)
      obtain rfl : yv = nI (mb_bit (f (a + k / 8)).toNatClampNeg (k % 8)) := eyv.trans (hbit)
      refine lv_istore (lv' := [(5, .int (nI (mb_bit (f (a + k / 8)).toNatClampNeg (k % 8)))), (0, .ref g1), (1, .int (nI a)), (2, .int (nI n)), (3, .int (nI (mb_mk f a k))), (4, .int (nI k))]) hx hb dX1_checkOf_35 hl (by decide) rfl (fun ls hl => ?_)
      refine lv_iload_n hx hb dX1_checkOf_37 rfl (lv_at hl 4 rfl) ?_
      refine lv_bipush (v := 15) hx hb dX1_checkOf_38 (by decide) ?_
      refine lv_ishr hx hb dX1_checkOf_40 ?_
      refine lv_topi (fun yv eyv => ?_)
      obtain rfl : yv = nI (mb_mk f a k / 32768) := eyv.trans (pk_shrN (n := mb_mk f a k) (by omega) _ 15 (by decide))
      refine lv_istore (lv' := [(6, .int (nI (mb_mk f a k / 32768))), (5, .int (nI (mb_bit (f (a + k / 8)).toNatClampNeg (k % 8)))), (0, .ref g1), (1, .int (nI a)), (2, .int (nI n)), (3, .int (nI (mb_mk f a k))), (4, .int (nI k))]) hx hb dX1_checkOf_41 hl (by decide) rfl (fun ls hl => ?_)
      refine lv_iload_n hx hb dX1_checkOf_43 rfl (lv_at hl 5 rfl) ?_
      refine lv_iconst (v := 1) hx hb dX1_checkOf_44 (by decide) ?_
      refine lv_ishl hx hb dX1_checkOf_45 ?_
      refine lv_topi (fun yv eyv => ?_)
      obtain rfl : yv = nI (mb_mk f a k * 2) := eyv.trans (pk_shlN (n := mb_mk f a k) _ 1 (by decide) (by omega))
      refine lv_ldc (v := (65535)) hx hb hown (hts (.constant RX1 20 (65535)) (by decide +kernel)) dX1_checkOf_46 ?_
      refine lv_iand hx hb dX1_checkOf_48 ?_
      refine lv_topi (fun yv eyv => ?_)
      obtain rfl : yv = nI (2 * mb_mk f a k % 65536) := eyv.trans (by rw [Nat.mul_comm 2]; exact pk_andN (n := mb_mk f a k * 2) (by omega) 16 (by decide))
      refine lv_istore_n (lv' := [(3, .int (nI (2 * mb_mk f a k % 65536))), (6, .int (nI (mb_mk f a k / 32768))), (5, .int (nI (mb_bit (f (a + k / 8)).toNatClampNeg (k % 8)))), (0, .ref g1), (1, .int (nI a)), (2, .int (nI n)), (4, .int (nI k))]) hx hb dX1_checkOf_49 rfl hl (by decide) rfl (fun ls hl => ?_)
      refine lv_iload hx hb dX1_checkOf_50 (lv_at hl 1 rfl) ?_
      refine lv_iload hx hb dX1_checkOf_52 (lv_at hl 2 rfl) ?_
      refine lv_ixor hx hb dX1_checkOf_54 ?_
      refine lv_topi (fun yv eyv => ?_)
      obtain rfl : yv = nI ((mb_mk f a k / 32768) ^^^ (mb_bit (f (a + k / 8)).toNatClampNeg (k % 8))) := eyv.trans (mx_xor _ _)
      refine lv_iconst (v := 1) hx hb dX1_checkOf_55 (by decide) ?_
      refine lv_icmp_ne (tgt := 67) hx hb dX1_checkOf_56 (by decide) (fun c2 => ?_) (fun c2 => ?_)
      · have c3 : ¬ (mb_mk f a k / 32768) ^^^ (mb_bit (f (a + k / 8)).toNatClampNeg (k % 8)) = 1 := fun q => c2 (by rw [q]; rfl)
        refine lv_iload_n hx hb dX1_checkOf_67 rfl (lv_at hl 0 rfl) ?_
        refine lv_istore_n (lv' := [(3, .int (nI (2 * mb_mk f a k % 65536))), (6, .int (nI (mb_mk f a k / 32768))), (5, .int (nI (mb_bit (f (a + k / 8)).toNatClampNeg (k % 8)))), (0, .ref g1), (1, .int (nI a)), (2, .int (nI n)), (4, .int (nI k))]) hx hb dX1_checkOf_68 rfl hl (by decide) rfl (fun ls hl => ?_)
        have em : mb_mk f a (k + 1) = 2 * mb_mk f a k % 65536 := by show mb_E _ _ = _; unfold mb_E; rw [if_neg c3]
        refine lv_iinc (v := nI (k + 1)) (lv' := [(4, .int (nI (k + 1))), (3, .int (nI (2 * mb_mk f a k % 65536))), (6, .int (nI (mb_mk f a k / 32768))), (5, .int (nI (mb_bit (f (a + k / 8)).toNatClampNeg (k % 8)))), (0, .ref g1), (1, .int (nI a)), (2, .int (nI n))]) hx hb dX1_checkOf_69 hl (k := 6) rfl (by rw [← nI_1]; rfl) (by decide) rfl (fun ls hl => ?_)
        refine lv_goto (tgt := 6) hx hb dX1_checkOf_72 (by decide) ?_
        have hl2 := lv_sub hl [4, 5, 6, 1, 0] rfl
        rw [← em] at hl2
        exact ih (k + 1) (by omega) kk ls hl2
      · have hlt : (mb_mk f a k / 32768) ^^^ (mb_bit (f (a + k / 8)).toNatClampNeg (k % 8)) < 2 := Nat.xor_lt_two_pow (n := 1) (by omega) hb2
        have c3 : (mb_mk f a k / 32768) ^^^ (mb_bit (f (a + k / 8)).toNatClampNeg (k % 8)) = 1 := (nI_eq (b := 1) (by omega) (by decide)).mp c2
        refine lv_iload_n hx hb dX1_checkOf_59 rfl (lv_at hl 0 rfl) ?_
        refine lv_sipush (v := 4129) hx hb dX1_checkOf_60 (by decide) ?_
        refine lv_ixor hx hb dX1_checkOf_63 ?_
        refine lv_topi (fun yv eyv => ?_)
        obtain rfl : yv = nI ((2 * mb_mk f a k % 65536) ^^^ 4129) := eyv.trans (mx_xor _ 4129)
        refine lv_goto (tgt := 68) hx hb dX1_checkOf_64 (by decide) ?_
        refine lv_istore_n (lv' := [(3, .int (nI ((2 * mb_mk f a k % 65536) ^^^ 4129))), (6, .int (nI (mb_mk f a k / 32768))), (5, .int (nI (mb_bit (f (a + k / 8)).toNatClampNeg (k % 8)))), (0, .ref g1), (1, .int (nI a)), (2, .int (nI n)), (4, .int (nI k))]) hx hb dX1_checkOf_68 rfl hl (by decide) rfl (fun ls hl => ?_)
        have em : mb_mk f a (k + 1) = (2 * mb_mk f a k % 65536) ^^^ 4129 := by show mb_E _ _ = _; unfold mb_E; rw [if_pos c3]
        refine lv_iinc (v := nI (k + 1)) (lv' := [(4, .int (nI (k + 1))), (3, .int (nI ((2 * mb_mk f a k % 65536) ^^^ 4129))), (6, .int (nI (mb_mk f a k / 32768))), (5, .int (nI (mb_bit (f (a + k / 8)).toNatClampNeg (k % 8)))), (0, .ref g1), (1, .int (nI a)), (2, .int (nI n))]) hx hb dX1_checkOf_69 hl (k := 6) rfl (by rw [← nI_1]; rfl) (by decide) rfl (fun ls hl => ?_)
        refine lv_goto (tgt := 6) hx hb dX1_checkOf_72 (by decide) ?_
        have hl2 := lv_sub hl [4, 5, 6, 1, 0] rfl
        rw [← em] at hl2
        exact ih (k + 1) (by omega) kk ls hl2
set_option maxHeartbeats 4000000 in
set_option maxRecDepth 100000 in
/-- checkOf: the check of n cells from a on -/
theorem c_mcheckOf (l : Launch) (dC : Nat → ClassId) (dI : Nat → Nat → Nat) (sz : Nat) (g1 : Nat) (cC : ClassId) (n1 : Nat) (f : Nat → Int32) (a n : Nat) (hf : ∀ j, mb_B (f j)) (hn : a + n ≤ n1) (hn1 : n1 ≤ 4096) : Met l yX1_checkOf wsX1_checkOf ({ frames := 0, cells := 0, slots := 0, locals := 0 }) (va_Pc [.ref g1, .int (nI a), .int (nI n)] (fun U => U.heap.size = sz ∧ va_P (dC, dI) vwCl [(g1, .inl (cC, n1, .inl (fun jx => mb_sg (f jx))))] U.heap ∧ va_K (dC, dI) vwCl [(cC, .byte)] U ∧ va_D (fun _ => True) [(g1, .inl (cC, n1, .inl (fun jx => mb_sg (f jx))))])) (va_Qi (fun (r : Int32) (u2 : Unit) => mb_ck f a n = r) (at_W dC dI (va_A [(g1, .inl (cC, n1, .inl (fun jx => mb_sg (f jx))))] sz) [(cC, .byte)] (fun _ => [(g1, .inl (cC, n1, .inl (fun jx => mb_sg (f jx))))])) (va_A [(g1, .inl (cC, n1, .inl (fun jx => mb_sg (f jx))))] sz)) 0 0 (va_A [(g1, .inl (cC, n1, .inl (fun jx => mb_sg (f jx))))] sz) := by
  refine Met.ofW (cc := cX1_checkOf) (maxL := 7) (ret := (some .int)) (by decide) rfl ?_
  intro p e s m args below meth c s₁ B hml hv
  obtain ⟨rfl, hsz, hP, hK, hD0⟩ := hv
  have hx := B.exec
  have hb := B.bytes
  have hr := B.returns
  have hts := atoms_spec (ws := wsX1_checkOf) B.pre
  have hown : s.vm.findClass RX1 = some m.cls := findClass_of_methodNamed B.named
  have hlocks := B.notSynchronized
  subst hsz
  have hD := hD0.self (sz := s.heap.size)
  generalize hAe : va_A [(g1, .inl (cC, n1, .inl (fun jx => mb_sg (f jx))))] s.heap.size = A at hD ⊢
  have hA : ∀ q : Nat, s.heap.size ≤ q → A q := fun q h => by rw [← hAe]; exact Or.inr h
  have hS : va_S A s.heap s.heap [] := va_S.rf
  have hP : va_P (dC, dI) vwCl [(g1, .inl (cC, n1, .inl (fun jx => mb_sg (f jx))))] s.heap := hP
  have hl := lv_entry ([.ref g1, .int (nI a), .int (nI n)]) (n := 7) (Nat.le_of_ble_eq_true rfl)
  rw [lg_entry_eq]
  generalize (lg_sl ([.ref g1, .int (nI a), .int (nI n)]) ++ List.replicate (7 - (lg_sl ([.ref g1, .int (nI a), .int (nI n)])).length) Slot.unset).toArray = ls at hl ⊢
  have hl : lv_has ls 7 [(0, .ref g1), (1, .int (nI a)), (2, .int (nI n))] := hl
  refine lv_ldc (v := (65535)) hx hb hown (hts (.constant RX1 20 (65535)) (by decide +kernel)) dX1_checkOf_0 ?_
  refine lv_istore_n (lv' := [(3, .int (65535)), (0, .ref g1), (1, .int (nI a)), (2, .int (nI n))]) hx hb dX1_checkOf_2 rfl hl (by decide) rfl (fun ls hl => ?_)
  refine lv_iconst (v := 0) hx hb dX1_checkOf_3 (by decide) ?_
  refine lv_istore (lv' := [(4, .int 0), (3, .int (65535)), (0, .ref g1), (1, .int (nI a)), (2, .int (nI n))]) hx hb dX1_checkOf_4 hl (by decide) rfl (fun ls hl => ?_)
  refine lp_mcheckOf hx hb hown hts dC dI g1 cC n1 f hf a n hn hn1 hK hP (8 * n) 0 (by omega) ?_ ls (lv_sub hl [2, 3, 4, 1, 0] rfl)
  intro ls hl
  refine lv_iload_n hx hb dX1_checkOf_75 rfl (lv_at hl 3 rfl) ?_
  have hP9 := hP.sub (ws' := [(g1, .inl (cC, n1, .inl (fun jx => mb_sg (f jx))))]) [0] rfl
  have hD9 := hD.sub (ws' := [(g1, .inl (cC, n1, .inl (fun jx => mb_sg (f jx))))]) [0] (by decide) rfl
  exact W.iret (v := (nI (mb_mk f a (8 * n)))) hx hb hr (fun t ht hW => ⟨⟨(nI (mb_mk f a (8 * n))), (), rfl, mb_ckN hf a n, by rw [ht]; exact hP9, va_K.moved hW.alike hK, hD9⟩, hS.F ht⟩) hS.2.2 dX1_checkOf_76
end
section
set_option maxHeartbeats 1000000 in
set_option maxRecDepth 100000 in
/-- the reference: put -/
theorem c_mput (l : Launch) (dC : Nat → ClassId) (dI : Nat → Nat → Nat) (sz : Nat) (g0 g1 g2 : Nat) (cC cD : ClassId) (u : Bk_) (b : Int32) (hu : mb_inv u) : Met l yX1_put wsX1_put ({ frames := 0, cells := 0, slots := 0, locals := 0 }) (va_Pc [.ref g0, .int b] (fun U => U.heap.size = sz ∧ va_P (dC, dI) vwCl [(g0, .inr (1, [.int 0, .ref g1, .ref g2, .int u.2.2])), (g1, .inl (cC, 4096, .inl (fun jx => mb_sg (u.1 jx)))), (g2, .inl (cD, 512, .inl (fun jx => mb_sg (u.2.1 jx))))] U.heap ∧ va_K (dC, dI) vwCl [(cC, .byte), (cD, .byte)] U ∧ va_D (fun _ => True) [(g0, .inr (1, [.int 0, .ref g1, .ref g2, .int u.2.2])), (g1, .inl (cC, 4096, .inl (fun jx => mb_sg (u.1 jx)))), (g2, .inl (cD, 512, .inl (fun jx => mb_sg (u.2.1 jx))))])) (va_Qi (fun (r : Int32) (u2 : Bk_) => mb_put u b = (r, u2)) (at_W dC dI (va_A [(g0, .inr (1, [.int 0, .ref g1, .ref g2, .int u.2.2])), (g1, .inl (cC, 4096, .inl (fun jx => mb_sg (u.1 jx)))), (g2, .inl (cD, 512, .inl (fun jx => mb_sg (u.2.1 jx))))] sz) [(cC, .byte), (cD, .byte)] (bw_X1 g0 g1 g2 cC cD)) (va_A [(g0, .inr (1, [.int 0, .ref g1, .ref g2, .int u.2.2])), (g1, .inl (cC, 4096, .inl (fun jx => mb_sg (u.1 jx)))), (g2, .inl (cD, 512, .inl (fun jx => mb_sg (u.2.1 jx))))] sz)) 0 0 (va_A [(g0, .inr (1, [.int 0, .ref g1, .ref g2, .int u.2.2])), (g1, .inl (cC, 4096, .inl (fun jx => mb_sg (u.1 jx)))), (g2, .inl (cD, 512, .inl (fun jx => mb_sg (u.2.1 jx))))] sz) := by
  refine Met.ofW (cc := cX1_put) (maxL := 2) (ret := (some .int)) (by decide) rfl ?_
  intro p e s m args below meth c s₁ B hml hv
  obtain ⟨rfl, hsz, hP, hK, hD0⟩ := hv
  have hx := B.exec
  have hb := B.bytes
  have hr := B.returns
  have hts := atoms_spec (ws := wsX1_put) B.pre
  have hown : s.vm.findClass RX1 = some m.cls := findClass_of_methodNamed B.named
  have hlocks := B.notSynchronized
  subst hsz
  have hD := hD0.self (sz := s.heap.size)
  generalize hAe : va_A [(g0, .inr (1, [.int 0, .ref g1, .ref g2, .int u.2.2])), (g1, .inl (cC, 4096, .inl (fun jx => mb_sg (u.1 jx)))), (g2, .inl (cD, 512, .inl (fun jx => mb_sg (u.2.1 jx))))] s.heap.size = A at hD ⊢
  have hA : ∀ q : Nat, s.heap.size ≤ q → A q := fun q h => by rw [← hAe]; exact Or.inr h
  have hS : va_S A s.heap s.heap [] := va_S.rf
  have hP : va_P (dC, dI) vwCl [(g0, .inr (1, [.int 0, .ref g1, .ref g2, .int u.2.2])), (g1, .inl (cC, 4096, .inl (fun jx => mb_sg (u.1 jx)))), (g2, .inl (cD, 512, .inl (fun jx => mb_sg (u.2.1 jx))))] s.heap := hP
  have hl := lv_entry ([.ref g0, .int b]) (n := 2) (Nat.le_of_ble_eq_true rfl)
  rw [lg_entry_eq]
  generalize (lg_sl ([.ref g0, .int b]) ++ List.replicate (2 - (lg_sl ([.ref g0, .int b])).length) Slot.unset).toArray = ls at hl ⊢
  have hl : lv_has ls 2 [(0, .ref g0), (1, .int b)] := hl
  have hu0 := hu.1.1
  have hu2 := hu.1.2
  refine lv_aload_n hx hb dX1_put_0 rfl (lv_at hl 0 rfl) ?_
  refine lv_iconst (v := 0) hx hb dX1_put_1 (by decide) ?_
  refine va_put (D := (dC, dI)) (ci := 1) (v := .int 0) (ty := .int) (C := RX1) (T := TX1) (N := 4) hx hb hts (by decide +kernel) tyX1 tyX1_ok nmX1 hown hK hP hD hS 0 rfl rfl 0 (by decide) (hts (.fieldLink RX1 16 "MemoryBankModel" "thrown" "I") (by decide +kernel)) (fun _ h9 => h9) rfl (by decide +kernel) rfl rfl (Nat.le_of_ble_eq_true rfl) dX1_put_2 (fun H locs hP hD hS => ?_)
  have hP : va_P (dC, dI) vwCl [(g0, .inr (1, [.int 0, .ref g1, .ref g2, .int u.2.2])), (g1, .inl (cC, 4096, .inl (fun jx => mb_sg (u.1 jx)))), (g2, .inl (cD, 512, .inl (fun jx => mb_sg (u.2.1 jx))))] H := hP
  have hD : va_D A [(g0, .inr (1, [.int 0, .ref g1, .ref g2, .int u.2.2])), (g1, .inl (cC, 4096, .inl (fun jx => mb_sg (u.1 jx)))), (g2, .inl (cD, 512, .inl (fun jx => mb_sg (u.2.1 jx))))] := hD
  refine lv_aload_n hx hb dX1_put_5 rfl (lv_at hl 0 rfl) ?_
  refine va_get (D := (dC, dI)) (ci := 1) (v := .int u.2.2) (C := RX1) (T := TX1) (N := 4) hx hb hts (by decide +kernel) hown hK hP 0 rfl rfl 3 (by decide) (hts (.fieldLink RX1 21 "MemoryBankModel" "size" "I") (by decide +kernel)) (fun _ h9 => h9) rfl dX1_put_6 ?_
  refine lv_sipush (v := 512) hx hb dX1_put_9 (by decide) ?_
  refine lv_icmp_ne (tgt := 17) hx hb dX1_put_12 (by decide) (fun c1 => ?_) (fun c1 => ?_)
  · have hz : u.2.2.toInt ≠ 512 := fun q => c1 (Int32.toInt_inj.mp (q.trans mb_512.symm))
    have c2 : ¬ mb_room 1 u.2.2 = 0 := (mb_room_iff hu0).mpr (by rw [mb_1]; omega)
    refine lv_aload_n hx hb dX1_put_17 rfl (lv_at hl 0 rfl) ?_
    refine va_get (D := (dC, dI)) (ci := 1) (v := .ref g2) (C := RX1) (T := TX1) (N := 4) hx hb hts (by decide +kernel) hown hK hP 0 rfl rfl 2 (by decide) (hts (.fieldLink RX1 13 "MemoryBankModel" "row" "[B") (by decide +kernel)) (fun _ h9 => h9) rfl dX1_put_18 ?_
    refine lv_aload_n hx hb dX1_put_21 rfl (lv_at hl 0 rfl) ?_
    refine va_get (D := (dC, dI)) (ci := 1) (v := .int u.2.2) (C := RX1) (T := TX1) (N := 4) hx hb hts (by decide +kernel) hown hK hP 0 rfl rfl 3 (by decide) (hts (.fieldLink RX1 21 "MemoryBankModel" "size" "I") (by decide +kernel)) (fun _ h9 => h9) rfl dX1_put_22 ?_
    refine lv_iload_n hx hb dX1_put_25 rfl (lv_at hl 1 rfl) ?_
    refine lv_i2b (v := b.toInt8.toInt32) hx hb dX1_put_26 rfl ?_
    refine va_bast hx hb hK hP hD hS 2 1 rfl rfl (mb_in hu0 (by omega)) dX1_put_27 (fun H locs hP hD hS => ?_)
    have ew : upd (fun jx => mb_sg (u.2.1 jx)) (u.2.2).toNatClampNeg (vp_nar .byte b.toInt8.toInt32) = (fun jx => mb_sg ((mb_app u b).2.1 jx)) := by rw [pk_vb, ← mb_sgand]; exact mb_sgupd _ _ _
    have hP : va_P (dC, dI) vwCl [(g0, .inr (1, [.int 0, .ref g1, .ref g2, .int u.2.2])), (g1, .inl (cC, 4096, .inl (fun jx => mb_sg (u.1 jx)))), (g2, .inl (cD, 512, .inl (upd (fun jx => mb_sg (u.2.1 jx)) (u.2.2).toNatClampNeg (vp_nar .byte b.toInt8.toInt32))))] H := hP
    have hD : va_D A [(g0, .inr (1, [.int 0, .ref g1, .ref g2, .int u.2.2])), (g1, .inl (cC, 4096, .inl (fun jx => mb_sg (u.1 jx)))), (g2, .inl (cD, 512, .inl (upd (fun jx => mb_sg (u.2.1 jx)) (u.2.2).toNatClampNeg (vp_nar .byte b.toInt8.toInt32))))] := hD
    rw [ew] at hP hD
    clear ew
    have hP : va_P (dC, dI) vwCl [(g0, .inr (1, [.int 0, .ref g1, .ref g2, .int u.2.2])), (g1, .inl (cC, 4096, .inl (fun jx => mb_sg (u.1 jx)))), (g2, .inl (cD, 512, .inl (fun jx => mb_sg ((mb_app u b).2.1 jx))))] H := hP
    have hD : va_D A [(g0, .inr (1, [.int 0, .ref g1, .ref g2, .int u.2.2])), (g1, .inl (cC, 4096, .inl (fun jx => mb_sg (u.1 jx)))), (g2, .inl (cD, 512, .inl (fun jx => mb_sg ((mb_app u b).2.1 jx))))] := hD
    refine lv_aload_n hx hb dX1_put_28 rfl (lv_at hl 0 rfl) ?_
    refine lv_dup hx hb dX1_put_29 rfl ?_
    refine va_get (D := (dC, dI)) (ci := 1) (v := .int u.2.2) (C := RX1) (T := TX1) (N := 4) hx hb hts (by decide +kernel) hown hK hP 0 rfl rfl 3 (by decide) (hts (.fieldLink RX1 21 "MemoryBankModel" "size" "I") (by decide +kernel)) (fun _ h9 => h9) rfl dX1_put_30 ?_
    refine lv_iconst (v := 1) hx hb dX1_put_33 (by decide) ?_
    refine lv_iadd hx hb dX1_put_34 ?_
    refine va_put (D := (dC, dI)) (ci := 1) (v := .int (u.2.2 + 1)) (ty := .int) (C := RX1) (T := TX1) (N := 4) hx hb hts (by decide +kernel) tyX1 tyX1_ok nmX1 hown hK hP hD hS 0 rfl rfl 3 (by decide) (hts (.fieldLink RX1 21 "MemoryBankModel" "size" "I") (by decide +kernel)) (fun _ h9 => h9) rfl (by decide +kernel) rfl rfl (Nat.le_of_ble_eq_true rfl) dX1_put_35 (fun H locs hP hD hS => ?_)
    have hP : va_P (dC, dI) vwCl [(g0, .inr (1, [.int 0, .ref g1, .ref g2, .int (u.2.2 + 1)])), (g1, .inl (cC, 4096, .inl (fun jx => mb_sg (u.1 jx)))), (g2, .inl (cD, 512, .inl (fun jx => mb_sg ((mb_app u b).2.1 jx))))] H := hP
    have hD : va_D A [(g0, .inr (1, [.int 0, .ref g1, .ref g2, .int (u.2.2 + 1)])), (g1, .inl (cC, 4096, .inl (fun jx => mb_sg (u.1 jx)))), (g2, .inl (cD, 512, .inl (fun jx => mb_sg ((mb_app u b).2.1 jx))))] := hD
    refine lv_aload_n hx hb dX1_put_38 rfl (lv_at hl 0 rfl) ?_
    refine va_get (D := (dC, dI)) (ci := 1) (v := .int (u.2.2 + 1)) (C := RX1) (T := TX1) (N := 4) hx hb hts (by decide +kernel) hown hK hP 0 rfl rfl 3 (by decide) (hts (.fieldLink RX1 21 "MemoryBankModel" "size" "I") (by decide +kernel)) (fun _ h9 => h9) rfl dX1_put_39 ?_
    have hP9 := hP.sub (ws' := [(g0, .inr (1, [.int 0, .ref g1, .ref g2, .int (u.2.2 + 1)])), (g1, .inl (cC, 4096, .inl (fun jx => mb_sg (u.1 jx)))), (g2, .inl (cD, 512, .inl (fun jx => mb_sg ((mb_app u b).2.1 jx))))]) [0, 1, 2] rfl
    have hD9 := hD.sub (ws' := [(g0, .inr (1, [.int 0, .ref g1, .ref g2, .int (u.2.2 + 1)])), (g1, .inl (cC, 4096, .inl (fun jx => mb_sg (u.1 jx)))), (g2, .inl (cD, 512, .inl (fun jx => mb_sg ((mb_app u b).2.1 jx))))]) [0, 1, 2] (by decide) rfl
    exact W.iret (v := (u.2.2 + 1)) hx hb hr (fun t ht hW => ⟨⟨(u.2.2 + 1), mb_app u b, rfl, by unfold mb_put; rw [if_neg c2], by rw [ht]; exact hP9, va_K.moved hW.alike hK, hD9⟩, hS.F ht⟩) hS.2.2 dX1_put_42
  · have c2 : mb_room 1 u.2.2 = 0 := by rw [c1]; decide
    refine lv_iconst (v := (-1)) hx hb dX1_put_15 (by decide) ?_
    have hP9 := hP.sub (ws' := [(g0, .inr (1, [.int 0, .ref g1, .ref g2, .int u.2.2])), (g1, .inl (cC, 4096, .inl (fun jx => mb_sg (u.1 jx)))), (g2, .inl (cD, 512, .inl (fun jx => mb_sg (u.2.1 jx))))]) [0, 1, 2] rfl
    have hD9 := hD.sub (ws' := [(g0, .inr (1, [.int 0, .ref g1, .ref g2, .int u.2.2])), (g1, .inl (cC, 4096, .inl (fun jx => mb_sg (u.1 jx)))), (g2, .inl (cD, 512, .inl (fun jx => mb_sg (u.2.1 jx))))]) [0, 1, 2] (by decide) rfl
    exact W.iret (v := (-1)) hx hb hr (fun t ht hW => ⟨⟨(-1), u, rfl, by unfold mb_put; rw [if_pos c2], by rw [ht]; exact hP9, va_K.moved hW.alike hK, hD9⟩, hS.F ht⟩) hS.2.2 dX1_put_16
set_option maxHeartbeats 1000000 in
set_option maxRecDepth 100000 in
/-- the reference: cut -/
theorem c_mcut (l : Launch) (dC : Nat → ClassId) (dI : Nat → Nat → Nat) (sz : Nat) (g0 g1 g2 : Nat) (cC cD : ClassId) (u : Bk_) (n : Int32) (hu : mb_inv u) : Met l yX1_cut wsX1_cut ({ frames := 0, cells := 0, slots := 0, locals := 0 }) (va_Pc [.ref g0, .int n] (fun U => U.heap.size = sz ∧ va_P (dC, dI) vwCl [(g0, .inr (1, [.int 0, .ref g1, .ref g2, .int u.2.2])), (g1, .inl (cC, 4096, .inl (fun jx => mb_sg (u.1 jx)))), (g2, .inl (cD, 512, .inl (fun jx => mb_sg (u.2.1 jx))))] U.heap ∧ va_K (dC, dI) vwCl [(cC, .byte), (cD, .byte)] U ∧ va_D (fun _ => True) [(g0, .inr (1, [.int 0, .ref g1, .ref g2, .int u.2.2])), (g1, .inl (cC, 4096, .inl (fun jx => mb_sg (u.1 jx)))), (g2, .inl (cD, 512, .inl (fun jx => mb_sg (u.2.1 jx))))])) (va_Qi (fun (r : Int32) (u2 : Bk_) => mb_cut u n = (r, u2)) (at_W dC dI (va_A [(g0, .inr (1, [.int 0, .ref g1, .ref g2, .int u.2.2])), (g1, .inl (cC, 4096, .inl (fun jx => mb_sg (u.1 jx)))), (g2, .inl (cD, 512, .inl (fun jx => mb_sg (u.2.1 jx))))] sz) [(cC, .byte), (cD, .byte)] (bw_X1 g0 g1 g2 cC cD)) (va_A [(g0, .inr (1, [.int 0, .ref g1, .ref g2, .int u.2.2])), (g1, .inl (cC, 4096, .inl (fun jx => mb_sg (u.1 jx)))), (g2, .inl (cD, 512, .inl (fun jx => mb_sg (u.2.1 jx))))] sz)) 0 0 (va_A [(g0, .inr (1, [.int 0, .ref g1, .ref g2, .int u.2.2])), (g1, .inl (cC, 4096, .inl (fun jx => mb_sg (u.1 jx)))), (g2, .inl (cD, 512, .inl (fun jx => mb_sg (u.2.1 jx))))] sz) := by
  refine Met.ofW (cc := cX1_cut) (maxL := 2) (ret := (some .boolean)) (by decide) rfl ?_
  intro p e s m args below meth c s₁ B hml hv
  obtain ⟨rfl, hsz, hP, hK, hD0⟩ := hv
  have hx := B.exec
  have hb := B.bytes
  have hr := B.returns
  have hts := atoms_spec (ws := wsX1_cut) B.pre
  have hown : s.vm.findClass RX1 = some m.cls := findClass_of_methodNamed B.named
  have hlocks := B.notSynchronized
  subst hsz
  have hD := hD0.self (sz := s.heap.size)
  generalize hAe : va_A [(g0, .inr (1, [.int 0, .ref g1, .ref g2, .int u.2.2])), (g1, .inl (cC, 4096, .inl (fun jx => mb_sg (u.1 jx)))), (g2, .inl (cD, 512, .inl (fun jx => mb_sg (u.2.1 jx))))] s.heap.size = A at hD ⊢
  have hA : ∀ q : Nat, s.heap.size ≤ q → A q := fun q h => by rw [← hAe]; exact Or.inr h
  have hS : va_S A s.heap s.heap [] := va_S.rf
  have hP : va_P (dC, dI) vwCl [(g0, .inr (1, [.int 0, .ref g1, .ref g2, .int u.2.2])), (g1, .inl (cC, 4096, .inl (fun jx => mb_sg (u.1 jx)))), (g2, .inl (cD, 512, .inl (fun jx => mb_sg (u.2.1 jx))))] s.heap := hP
  have hl := lv_entry ([.ref g0, .int n]) (n := 2) (Nat.le_of_ble_eq_true rfl)
  rw [lg_entry_eq]
  generalize (lg_sl ([.ref g0, .int n]) ++ List.replicate (2 - (lg_sl ([.ref g0, .int n])).length) Slot.unset).toArray = ls at hl ⊢
  have hl : lv_has ls 2 [(0, .ref g0), (1, .int n)] := hl
  have hu0 := hu.1.1
  have hu2 := hu.1.2
  refine lv_aload_n hx hb dX1_cut_0 rfl (lv_at hl 0 rfl) ?_
  refine lv_iconst (v := 0) hx hb dX1_cut_1 (by decide) ?_
  refine va_put (D := (dC, dI)) (ci := 1) (v := .int 0) (ty := .int) (C := RX1) (T := TX1) (N := 4) hx hb hts (by decide +kernel) tyX1 tyX1_ok nmX1 hown hK hP hD hS 0 rfl rfl 0 (by decide) (hts (.fieldLink RX1 16 "MemoryBankModel" "thrown" "I") (by decide +kernel)) (fun _ h9 => h9) rfl (by decide +kernel) rfl rfl (Nat.le_of_ble_eq_true rfl) dX1_cut_2 (fun H locs hP hD hS => ?_)
  have hP : va_P (dC, dI) vwCl [(g0, .inr (1, [.int 0, .ref g1, .ref g2, .int u.2.2])), (g1, .inl (cC, 4096, .inl (fun jx => mb_sg (u.1 jx)))), (g2, .inl (cD, 512, .inl (fun jx => mb_sg (u.2.1 jx))))] H := hP
  have hD : va_D A [(g0, .inr (1, [.int 0, .ref g1, .ref g2, .int u.2.2])), (g1, .inl (cC, 4096, .inl (fun jx => mb_sg (u.1 jx)))), (g2, .inl (cD, 512, .inl (fun jx => mb_sg (u.2.1 jx))))] := hD
  refine lv_iload_n hx hb dX1_cut_5 rfl (lv_at hl 1 rfl) ?_
  refine lv_if_lt (tgt := 17) hx hb dX1_cut_6 (by decide) (fun c1 => ?_) (fun c1 => ?_)
  · have c2 : mb_part 0 n u.2.2 = 0 := by unfold mb_part; rw [if_neg (by decide), if_pos c1]
    refine lv_iconst (v := 0) hx hb dX1_cut_17 (by decide) ?_
    have hP9 := hP.sub (ws' := [(g0, .inr (1, [.int 0, .ref g1, .ref g2, .int u.2.2])), (g1, .inl (cC, 4096, .inl (fun jx => mb_sg (u.1 jx)))), (g2, .inl (cD, 512, .inl (fun jx => mb_sg (u.2.1 jx))))]) [0, 1, 2] rfl
    have hD9 := hD.sub (ws' := [(g0, .inr (1, [.int 0, .ref g1, .ref g2, .int u.2.2])), (g1, .inl (cC, 4096, .inl (fun jx => mb_sg (u.1 jx)))), (g2, .inl (cD, 512, .inl (fun jx => mb_sg (u.2.1 jx))))]) [0, 1, 2] (by decide) rfl
    exact W.zret (v := 0) hx hb hr (by decide) (fun t ht hW => ⟨⟨0, u, rfl, by unfold mb_cut; rw [if_pos c2], by rw [ht]; exact hP9, va_K.moved hW.alike hK, hD9⟩, hS.F ht⟩) hS.2.2 dX1_cut_18
  · refine lv_iload_n hx hb dX1_cut_9 rfl (lv_at hl 1 rfl) ?_
    refine lv_aload_n hx hb dX1_cut_10 rfl (lv_at hl 0 rfl) ?_
    refine va_get (D := (dC, dI)) (ci := 1) (v := .int u.2.2) (C := RX1) (T := TX1) (N := 4) hx hb hts (by decide +kernel) hown hK hP 0 rfl rfl 3 (by decide) (hts (.fieldLink RX1 21 "MemoryBankModel" "size" "I") (by decide +kernel)) (fun _ h9 => h9) rfl dX1_cut_11 ?_
    refine lv_icmp_le (tgt := 19) hx hb dX1_cut_14 (by decide) (fun c2 => ?_) (fun c2 => ?_)
    · have c3 : ¬ mb_part 0 n u.2.2 = 0 := (mb_part_iff hu0).mpr (by rw [mb_0]; rw [mb_lt, mb_0] at c1; rw [mb_le] at c2; omega)
      refine lv_aload_n hx hb dX1_cut_19 rfl (lv_at hl 0 rfl) ?_
      refine lv_iload_n hx hb dX1_cut_20 rfl (lv_at hl 1 rfl) ?_
      refine va_put (D := (dC, dI)) (ci := 1) (v := .int n) (ty := .int) (C := RX1) (T := TX1) (N := 4) hx hb hts (by decide +kernel) tyX1 tyX1_ok nmX1 hown hK hP hD hS 0 rfl rfl 3 (by decide) (hts (.fieldLink RX1 21 "MemoryBankModel" "size" "I") (by decide +kernel)) (fun _ h9 => h9) rfl (by decide +kernel) rfl rfl (Nat.le_of_ble_eq_true rfl) dX1_cut_21 (fun H locs hP hD hS => ?_)
      have hP : va_P (dC, dI) vwCl [(g0, .inr (1, [.int 0, .ref g1, .ref g2, .int n])), (g1, .inl (cC, 4096, .inl (fun jx => mb_sg (u.1 jx)))), (g2, .inl (cD, 512, .inl (fun jx => mb_sg (u.2.1 jx))))] H := hP
      have hD : va_D A [(g0, .inr (1, [.int 0, .ref g1, .ref g2, .int n])), (g1, .inl (cC, 4096, .inl (fun jx => mb_sg (u.1 jx)))), (g2, .inl (cD, 512, .inl (fun jx => mb_sg (u.2.1 jx))))] := hD
      refine lv_iconst (v := 1) hx hb dX1_cut_24 (by decide) ?_
      have hP9 := hP.sub (ws' := [(g0, .inr (1, [.int 0, .ref g1, .ref g2, .int n])), (g1, .inl (cC, 4096, .inl (fun jx => mb_sg (u.1 jx)))), (g2, .inl (cD, 512, .inl (fun jx => mb_sg (u.2.1 jx))))]) [0, 1, 2] rfl
      have hD9 := hD.sub (ws' := [(g0, .inr (1, [.int 0, .ref g1, .ref g2, .int n])), (g1, .inl (cC, 4096, .inl (fun jx => mb_sg (u.1 jx)))), (g2, .inl (cD, 512, .inl (fun jx => mb_sg (u.2.1 jx))))]) [0, 1, 2] (by decide) rfl
      exact W.zret (v := 1) hx hb hr (by decide) (fun t ht hW => ⟨⟨1, (u.1, u.2.1, n), rfl, by unfold mb_cut; rw [if_neg c3], by rw [ht]; exact hP9, va_K.moved hW.alike hK, hD9⟩, hS.F ht⟩) hS.2.2 dX1_cut_25
    · have c3 : mb_part 0 n u.2.2 = 0 := Classical.byContradiction fun q => by have q2 := (mb_part_iff hu0).mp q; rw [mb_0] at q2; rw [mb_le] at c2; omega
      refine lv_iconst (v := 0) hx hb dX1_cut_17 (by decide) ?_
      have hP9 := hP.sub (ws' := [(g0, .inr (1, [.int 0, .ref g1, .ref g2, .int u.2.2])), (g1, .inl (cC, 4096, .inl (fun jx => mb_sg (u.1 jx)))), (g2, .inl (cD, 512, .inl (fun jx => mb_sg (u.2.1 jx))))]) [0, 1, 2] rfl
      have hD9 := hD.sub (ws' := [(g0, .inr (1, [.int 0, .ref g1, .ref g2, .int u.2.2])), (g1, .inl (cC, 4096, .inl (fun jx => mb_sg (u.1 jx)))), (g2, .inl (cD, 512, .inl (fun jx => mb_sg (u.2.1 jx))))]) [0, 1, 2] (by decide) rfl
      exact W.zret (v := 0) hx hb hr (by decide) (fun t ht hW => ⟨⟨0, u, rfl, by unfold mb_cut; rw [if_pos c3], by rw [ht]; exact hP9, va_K.moved hW.alike hK, hD9⟩, hS.F ht⟩) hS.2.2 dX1_cut_18
set_option maxHeartbeats 1000000 in
set_option maxRecDepth 100000 in
/-- the reference: size -/
theorem c_msize (l : Launch) (dC : Nat → ClassId) (dI : Nat → Nat → Nat) (sz : Nat) (g0 g1 g2 : Nat) (cC cD : ClassId) (u : Bk_) (hu : mb_inv u) : Met l yX1_size wsX1_size ({ frames := 0, cells := 0, slots := 0, locals := 0 }) (va_Pc [.ref g0] (fun U => U.heap.size = sz ∧ va_P (dC, dI) vwCl [(g0, .inr (1, [.int 0, .ref g1, .ref g2, .int u.2.2])), (g1, .inl (cC, 4096, .inl (fun jx => mb_sg (u.1 jx)))), (g2, .inl (cD, 512, .inl (fun jx => mb_sg (u.2.1 jx))))] U.heap ∧ va_K (dC, dI) vwCl [(cC, .byte), (cD, .byte)] U ∧ va_D (fun _ => True) [(g0, .inr (1, [.int 0, .ref g1, .ref g2, .int u.2.2])), (g1, .inl (cC, 4096, .inl (fun jx => mb_sg (u.1 jx)))), (g2, .inl (cD, 512, .inl (fun jx => mb_sg (u.2.1 jx))))])) (va_Qi (fun (r : Int32) (u2 : Bk_) => mb_size u = (r, u2)) (at_W dC dI (va_A [(g0, .inr (1, [.int 0, .ref g1, .ref g2, .int u.2.2])), (g1, .inl (cC, 4096, .inl (fun jx => mb_sg (u.1 jx)))), (g2, .inl (cD, 512, .inl (fun jx => mb_sg (u.2.1 jx))))] sz) [(cC, .byte), (cD, .byte)] (bw_X1 g0 g1 g2 cC cD)) (va_A [(g0, .inr (1, [.int 0, .ref g1, .ref g2, .int u.2.2])), (g1, .inl (cC, 4096, .inl (fun jx => mb_sg (u.1 jx)))), (g2, .inl (cD, 512, .inl (fun jx => mb_sg (u.2.1 jx))))] sz)) 0 0 (va_A [(g0, .inr (1, [.int 0, .ref g1, .ref g2, .int u.2.2])), (g1, .inl (cC, 4096, .inl (fun jx => mb_sg (u.1 jx)))), (g2, .inl (cD, 512, .inl (fun jx => mb_sg (u.2.1 jx))))] sz) := by
  refine Met.ofW (cc := cX1_size) (maxL := 1) (ret := (some .int)) (by decide) rfl ?_
  intro p e s m args below meth c s₁ B hml hv
  obtain ⟨rfl, hsz, hP, hK, hD0⟩ := hv
  have hx := B.exec
  have hb := B.bytes
  have hr := B.returns
  have hts := atoms_spec (ws := wsX1_size) B.pre
  have hown : s.vm.findClass RX1 = some m.cls := findClass_of_methodNamed B.named
  have hlocks := B.notSynchronized
  subst hsz
  have hD := hD0.self (sz := s.heap.size)
  generalize hAe : va_A [(g0, .inr (1, [.int 0, .ref g1, .ref g2, .int u.2.2])), (g1, .inl (cC, 4096, .inl (fun jx => mb_sg (u.1 jx)))), (g2, .inl (cD, 512, .inl (fun jx => mb_sg (u.2.1 jx))))] s.heap.size = A at hD ⊢
  have hA : ∀ q : Nat, s.heap.size ≤ q → A q := fun q h => by rw [← hAe]; exact Or.inr h
  have hS : va_S A s.heap s.heap [] := va_S.rf
  have hP : va_P (dC, dI) vwCl [(g0, .inr (1, [.int 0, .ref g1, .ref g2, .int u.2.2])), (g1, .inl (cC, 4096, .inl (fun jx => mb_sg (u.1 jx)))), (g2, .inl (cD, 512, .inl (fun jx => mb_sg (u.2.1 jx))))] s.heap := hP
  have hl := lv_entry ([.ref g0]) (n := 1) (Nat.le_of_ble_eq_true rfl)
  rw [lg_entry_eq]
  generalize (lg_sl ([.ref g0]) ++ List.replicate (1 - (lg_sl ([.ref g0])).length) Slot.unset).toArray = ls at hl ⊢
  have hl : lv_has ls 1 [(0, .ref g0)] := hl
  refine lv_aload_n hx hb dX1_size_0 rfl (lv_at hl 0 rfl) ?_
  refine lv_iconst (v := 0) hx hb dX1_size_1 (by decide) ?_
  refine va_put (D := (dC, dI)) (ci := 1) (v := .int 0) (ty := .int) (C := RX1) (T := TX1) (N := 4) hx hb hts (by decide +kernel) tyX1 tyX1_ok nmX1 hown hK hP hD hS 0 rfl rfl 0 (by decide) (hts (.fieldLink RX1 16 "MemoryBankModel" "thrown" "I") (by decide +kernel)) (fun _ h9 => h9) rfl (by decide +kernel) rfl rfl (Nat.le_of_ble_eq_true rfl) dX1_size_2 (fun H locs hP hD hS => ?_)
  have hP : va_P (dC, dI) vwCl [(g0, .inr (1, [.int 0, .ref g1, .ref g2, .int u.2.2])), (g1, .inl (cC, 4096, .inl (fun jx => mb_sg (u.1 jx)))), (g2, .inl (cD, 512, .inl (fun jx => mb_sg (u.2.1 jx))))] H := hP
  have hD : va_D A [(g0, .inr (1, [.int 0, .ref g1, .ref g2, .int u.2.2])), (g1, .inl (cC, 4096, .inl (fun jx => mb_sg (u.1 jx)))), (g2, .inl (cD, 512, .inl (fun jx => mb_sg (u.2.1 jx))))] := hD
  refine lv_aload_n hx hb dX1_size_5 rfl (lv_at hl 0 rfl) ?_
  refine va_get (D := (dC, dI)) (ci := 1) (v := .int u.2.2) (C := RX1) (T := TX1) (N := 4) hx hb hts (by decide +kernel) hown hK hP 0 rfl rfl 3 (by decide) (hts (.fieldLink RX1 21 "MemoryBankModel" "size" "I") (by decide +kernel)) (fun _ h9 => h9) rfl dX1_size_6 ?_
  have hP9 := hP.sub (ws' := [(g0, .inr (1, [.int 0, .ref g1, .ref g2, .int u.2.2])), (g1, .inl (cC, 4096, .inl (fun jx => mb_sg (u.1 jx)))), (g2, .inl (cD, 512, .inl (fun jx => mb_sg (u.2.1 jx))))]) [0, 1, 2] rfl
  have hD9 := hD.sub (ws' := [(g0, .inr (1, [.int 0, .ref g1, .ref g2, .int u.2.2])), (g1, .inl (cC, 4096, .inl (fun jx => mb_sg (u.1 jx)))), (g2, .inl (cD, 512, .inl (fun jx => mb_sg (u.2.1 jx))))]) [0, 1, 2] (by decide) rfl
  exact W.iret (v := u.2.2) hx hb hr (fun t ht hW => ⟨⟨u.2.2, u, rfl, rfl, by rw [ht]; exact hP9, va_K.moved hW.alike hK, hD9⟩, hS.F ht⟩) hS.2.2 dX1_size_9
set_option maxHeartbeats 1000000 in
set_option maxRecDepth 100000 in
/-- the reference: rowAt -/
theorem c_mrowAt (l : Launch) (dC : Nat → ClassId) (dI : Nat → Nat → Nat) (sz : Nat) (g0 g1 g2 : Nat) (cC cD : ClassId) (u : Bk_) (k : Int32) (hu : mb_inv u) : Met l yX1_rowAt wsX1_rowAt ({ frames := 0, cells := 0, slots := 0, locals := 0 }) (va_Pc [.ref g0, .int k] (fun U => U.heap.size = sz ∧ va_P (dC, dI) vwCl [(g0, .inr (1, [.int 0, .ref g1, .ref g2, .int u.2.2])), (g1, .inl (cC, 4096, .inl (fun jx => mb_sg (u.1 jx)))), (g2, .inl (cD, 512, .inl (fun jx => mb_sg (u.2.1 jx))))] U.heap ∧ va_K (dC, dI) vwCl [(cC, .byte), (cD, .byte)] U ∧ va_D (fun _ => True) [(g0, .inr (1, [.int 0, .ref g1, .ref g2, .int u.2.2])), (g1, .inl (cC, 4096, .inl (fun jx => mb_sg (u.1 jx)))), (g2, .inl (cD, 512, .inl (fun jx => mb_sg (u.2.1 jx))))])) (va_Qi (fun (r : Int32) (u2 : Bk_) => mb_rowAt u k = (r, u2)) (at_W dC dI (va_A [(g0, .inr (1, [.int 0, .ref g1, .ref g2, .int u.2.2])), (g1, .inl (cC, 4096, .inl (fun jx => mb_sg (u.1 jx)))), (g2, .inl (cD, 512, .inl (fun jx => mb_sg (u.2.1 jx))))] sz) [(cC, .byte), (cD, .byte)] (bw_X1 g0 g1 g2 cC cD)) (va_A [(g0, .inr (1, [.int 0, .ref g1, .ref g2, .int u.2.2])), (g1, .inl (cC, 4096, .inl (fun jx => mb_sg (u.1 jx)))), (g2, .inl (cD, 512, .inl (fun jx => mb_sg (u.2.1 jx))))] sz)) 0 0 (va_A [(g0, .inr (1, [.int 0, .ref g1, .ref g2, .int u.2.2])), (g1, .inl (cC, 4096, .inl (fun jx => mb_sg (u.1 jx)))), (g2, .inl (cD, 512, .inl (fun jx => mb_sg (u.2.1 jx))))] sz) := by
  refine Met.ofW (cc := cX1_rowAt) (maxL := 2) (ret := (some .int)) (by decide) rfl ?_
  intro p e s m args below meth c s₁ B hml hv
  obtain ⟨rfl, hsz, hP, hK, hD0⟩ := hv
  have hx := B.exec
  have hb := B.bytes
  have hr := B.returns
  have hts := atoms_spec (ws := wsX1_rowAt) B.pre
  have hown : s.vm.findClass RX1 = some m.cls := findClass_of_methodNamed B.named
  have hlocks := B.notSynchronized
  subst hsz
  have hD := hD0.self (sz := s.heap.size)
  generalize hAe : va_A [(g0, .inr (1, [.int 0, .ref g1, .ref g2, .int u.2.2])), (g1, .inl (cC, 4096, .inl (fun jx => mb_sg (u.1 jx)))), (g2, .inl (cD, 512, .inl (fun jx => mb_sg (u.2.1 jx))))] s.heap.size = A at hD ⊢
  have hA : ∀ q : Nat, s.heap.size ≤ q → A q := fun q h => by rw [← hAe]; exact Or.inr h
  have hS : va_S A s.heap s.heap [] := va_S.rf
  have hP : va_P (dC, dI) vwCl [(g0, .inr (1, [.int 0, .ref g1, .ref g2, .int u.2.2])), (g1, .inl (cC, 4096, .inl (fun jx => mb_sg (u.1 jx)))), (g2, .inl (cD, 512, .inl (fun jx => mb_sg (u.2.1 jx))))] s.heap := hP
  have hl := lv_entry ([.ref g0, .int k]) (n := 2) (Nat.le_of_ble_eq_true rfl)
  rw [lg_entry_eq]
  generalize (lg_sl ([.ref g0, .int k]) ++ List.replicate (2 - (lg_sl ([.ref g0, .int k])).length) Slot.unset).toArray = ls at hl ⊢
  have hl : lv_has ls 2 [(0, .ref g0), (1, .int k)] := hl
  have hu0 := hu.1.1
  have hu2 := hu.1.2
  refine lv_aload_n hx hb dX1_rowAt_0 rfl (lv_at hl 0 rfl) ?_
  refine lv_iconst (v := 0) hx hb dX1_rowAt_1 (by decide) ?_
  refine va_put (D := (dC, dI)) (ci := 1) (v := .int 0) (ty := .int) (C := RX1) (T := TX1) (N := 4) hx hb hts (by decide +kernel) tyX1 tyX1_ok nmX1 hown hK hP hD hS 0 rfl rfl 0 (by decide) (hts (.fieldLink RX1 16 "MemoryBankModel" "thrown" "I") (by decide +kernel)) (fun _ h9 => h9) rfl (by decide +kernel) rfl rfl (Nat.le_of_ble_eq_true rfl) dX1_rowAt_2 (fun H locs hP hD hS => ?_)
  have hP : va_P (dC, dI) vwCl [(g0, .inr (1, [.int 0, .ref g1, .ref g2, .int u.2.2])), (g1, .inl (cC, 4096, .inl (fun jx => mb_sg (u.1 jx)))), (g2, .inl (cD, 512, .inl (fun jx => mb_sg (u.2.1 jx))))] H := hP
  have hD : va_D A [(g0, .inr (1, [.int 0, .ref g1, .ref g2, .int u.2.2])), (g1, .inl (cC, 4096, .inl (fun jx => mb_sg (u.1 jx)))), (g2, .inl (cD, 512, .inl (fun jx => mb_sg (u.2.1 jx))))] := hD
  refine lv_iload_n hx hb dX1_rowAt_5 rfl (lv_at hl 1 rfl) ?_
  refine lv_if_lt (tgt := 17) hx hb dX1_rowAt_6 (by decide) (fun c1 => ?_) (fun c1 => ?_)
  · have c2 : mb_part k 1 u.2.2 = 0 := by unfold mb_part; rw [if_pos c1]
    refine lv_iconst (v := (-1)) hx hb dX1_rowAt_17 (by decide) ?_
    refine lv_goto (tgt := 31) hx hb dX1_rowAt_18 (by decide) ?_
    have hP9 := hP.sub (ws' := [(g0, .inr (1, [.int 0, .ref g1, .ref g2, .int u.2.2])), (g1, .inl (cC, 4096, .inl (fun jx => mb_sg (u.1 jx)))), (g2, .inl (cD, 512, .inl (fun jx => mb_sg (u.2.1 jx))))]) [0, 1, 2] rfl
    have hD9 := hD.sub (ws' := [(g0, .inr (1, [.int 0, .ref g1, .ref g2, .int u.2.2])), (g1, .inl (cC, 4096, .inl (fun jx => mb_sg (u.1 jx)))), (g2, .inl (cD, 512, .inl (fun jx => mb_sg (u.2.1 jx))))]) [0, 1, 2] (by decide) rfl
    exact W.iret (v := (-1)) hx hb hr (fun t ht hW => ⟨⟨(-1), u, rfl, by unfold mb_rowAt; rw [if_pos c2], by rw [ht]; exact hP9, va_K.moved hW.alike hK, hD9⟩, hS.F ht⟩) hS.2.2 dX1_rowAt_31
  · refine lv_iload_n hx hb dX1_rowAt_9 rfl (lv_at hl 1 rfl) ?_
    refine lv_aload_n hx hb dX1_rowAt_10 rfl (lv_at hl 0 rfl) ?_
    refine va_get (D := (dC, dI)) (ci := 1) (v := .int u.2.2) (C := RX1) (T := TX1) (N := 4) hx hb hts (by decide +kernel) hown hK hP 0 rfl rfl 3 (by decide) (hts (.fieldLink RX1 21 "MemoryBankModel" "size" "I") (by decide +kernel)) (fun _ h9 => h9) rfl dX1_rowAt_11 ?_
    refine lv_icmp_lt (tgt := 21) hx hb dX1_rowAt_14 (by decide) (fun c2 => ?_) (fun c2 => ?_)
    · rw [mb_lt, mb_0] at c1
      rw [mb_lt] at c2
      have c3 : ¬ mb_part k 1 u.2.2 = 0 := (mb_part_iff hu0).mpr (by rw [mb_1]; omega)
      refine lv_aload_n hx hb dX1_rowAt_21 rfl (lv_at hl 0 rfl) ?_
      refine va_get (D := (dC, dI)) (ci := 1) (v := .ref g2) (C := RX1) (T := TX1) (N := 4) hx hb hts (by decide +kernel) hown hK hP 0 rfl rfl 2 (by decide) (hts (.fieldLink RX1 13 "MemoryBankModel" "row" "[B") (by decide +kernel)) (fun _ h9 => h9) rfl dX1_rowAt_22 ?_
      refine lv_iload_n hx hb dX1_rowAt_25 rfl (lv_at hl 1 rfl) ?_
      refine va_bald hx hb hK hP 2 1 rfl rfl (mb_in (by omega) (by omega)) dX1_rowAt_26 ?_
      refine lv_sipush (v := 255) hx hb dX1_rowAt_27 (by decide) ?_
      refine lv_iand hx hb dX1_rowAt_30 ?_
      refine lv_topi (fun yv eyv => ?_)
      obtain rfl : yv = u.2.1 k.toNatClampNeg := eyv.trans (mb_sg255 (hu.2.2 _))
      have hP9 := hP.sub (ws' := [(g0, .inr (1, [.int 0, .ref g1, .ref g2, .int u.2.2])), (g1, .inl (cC, 4096, .inl (fun jx => mb_sg (u.1 jx)))), (g2, .inl (cD, 512, .inl (fun jx => mb_sg (u.2.1 jx))))]) [0, 1, 2] rfl
      have hD9 := hD.sub (ws' := [(g0, .inr (1, [.int 0, .ref g1, .ref g2, .int u.2.2])), (g1, .inl (cC, 4096, .inl (fun jx => mb_sg (u.1 jx)))), (g2, .inl (cD, 512, .inl (fun jx => mb_sg (u.2.1 jx))))]) [0, 1, 2] (by decide) rfl
      exact W.iret (v := (u.2.1 k.toNatClampNeg)) hx hb hr (fun t ht hW => ⟨⟨(u.2.1 k.toNatClampNeg), u, rfl, by unfold mb_rowAt; rw [if_neg c3], by rw [ht]; exact hP9, va_K.moved hW.alike hK, hD9⟩, hS.F ht⟩) hS.2.2 dX1_rowAt_31
    · have c3 : mb_part k 1 u.2.2 = 0 := Classical.byContradiction fun q => by have q2 := (mb_part_iff hu0).mp q; rw [mb_1] at q2; rw [mb_lt] at c2; omega
      refine lv_iconst (v := (-1)) hx hb dX1_rowAt_17 (by decide) ?_
      refine lv_goto (tgt := 31) hx hb dX1_rowAt_18 (by decide) ?_
      have hP9 := hP.sub (ws' := [(g0, .inr (1, [.int 0, .ref g1, .ref g2, .int u.2.2])), (g1, .inl (cC, 4096, .inl (fun jx => mb_sg (u.1 jx)))), (g2, .inl (cD, 512, .inl (fun jx => mb_sg (u.2.1 jx))))]) [0, 1, 2] rfl
      have hD9 := hD.sub (ws' := [(g0, .inr (1, [.int 0, .ref g1, .ref g2, .int u.2.2])), (g1, .inl (cC, 4096, .inl (fun jx => mb_sg (u.1 jx)))), (g2, .inl (cD, 512, .inl (fun jx => mb_sg (u.2.1 jx))))]) [0, 1, 2] (by decide) rfl
      exact W.iret (v := (-1)) hx hb hr (fun t ht hW => ⟨⟨(-1), u, rfl, by unfold mb_rowAt; rw [if_pos c3], by rw [ht]; exact hP9, va_K.moved hW.alike hK, hD9⟩, hS.F ht⟩) hS.2.2 dX1_rowAt_31
set_option maxHeartbeats 1000000 in
set_option maxRecDepth 100000 in
/-- the reference: at -/
theorem c_mat (l : Launch) (dC : Nat → ClassId) (dI : Nat → Nat → Nat) (sz : Nat) (g0 g1 g2 : Nat) (cC cD : ClassId) (u : Bk_) (k : Int32) (hu : mb_inv u) : Met l yX1_at wsX1_at ({ frames := 0, cells := 0, slots := 0, locals := 0 }) (va_Pc [.ref g0, .int k] (fun U => U.heap.size = sz ∧ va_P (dC, dI) vwCl [(g0, .inr (1, [.int 0, .ref g1, .ref g2, .int u.2.2])), (g1, .inl (cC, 4096, .inl (fun jx => mb_sg (u.1 jx)))), (g2, .inl (cD, 512, .inl (fun jx => mb_sg (u.2.1 jx))))] U.heap ∧ va_K (dC, dI) vwCl [(cC, .byte), (cD, .byte)] U ∧ va_D (fun _ => True) [(g0, .inr (1, [.int 0, .ref g1, .ref g2, .int u.2.2])), (g1, .inl (cC, 4096, .inl (fun jx => mb_sg (u.1 jx)))), (g2, .inl (cD, 512, .inl (fun jx => mb_sg (u.2.1 jx))))])) (va_Qi (fun (r : Int32) (u2 : Bk_) => mb_at u k = (r, u2)) (at_W dC dI (va_A [(g0, .inr (1, [.int 0, .ref g1, .ref g2, .int u.2.2])), (g1, .inl (cC, 4096, .inl (fun jx => mb_sg (u.1 jx)))), (g2, .inl (cD, 512, .inl (fun jx => mb_sg (u.2.1 jx))))] sz) [(cC, .byte), (cD, .byte)] (bw_X1 g0 g1 g2 cC cD)) (va_A [(g0, .inr (1, [.int 0, .ref g1, .ref g2, .int u.2.2])), (g1, .inl (cC, 4096, .inl (fun jx => mb_sg (u.1 jx)))), (g2, .inl (cD, 512, .inl (fun jx => mb_sg (u.2.1 jx))))] sz)) 0 0 (va_A [(g0, .inr (1, [.int 0, .ref g1, .ref g2, .int u.2.2])), (g1, .inl (cC, 4096, .inl (fun jx => mb_sg (u.1 jx)))), (g2, .inl (cD, 512, .inl (fun jx => mb_sg (u.2.1 jx))))] sz) := by
  refine Met.ofW (cc := cX1_at) (maxL := 2) (ret := (some .int)) (by decide) rfl ?_
  intro p e s m args below meth c s₁ B hml hv
  obtain ⟨rfl, hsz, hP, hK, hD0⟩ := hv
  have hx := B.exec
  have hb := B.bytes
  have hr := B.returns
  have hts := atoms_spec (ws := wsX1_at) B.pre
  have hown : s.vm.findClass RX1 = some m.cls := findClass_of_methodNamed B.named
  have hlocks := B.notSynchronized
  subst hsz
  have hD := hD0.self (sz := s.heap.size)
  generalize hAe : va_A [(g0, .inr (1, [.int 0, .ref g1, .ref g2, .int u.2.2])), (g1, .inl (cC, 4096, .inl (fun jx => mb_sg (u.1 jx)))), (g2, .inl (cD, 512, .inl (fun jx => mb_sg (u.2.1 jx))))] s.heap.size = A at hD ⊢
  have hA : ∀ q : Nat, s.heap.size ≤ q → A q := fun q h => by rw [← hAe]; exact Or.inr h
  have hS : va_S A s.heap s.heap [] := va_S.rf
  have hP : va_P (dC, dI) vwCl [(g0, .inr (1, [.int 0, .ref g1, .ref g2, .int u.2.2])), (g1, .inl (cC, 4096, .inl (fun jx => mb_sg (u.1 jx)))), (g2, .inl (cD, 512, .inl (fun jx => mb_sg (u.2.1 jx))))] s.heap := hP
  have hl := lv_entry ([.ref g0, .int k]) (n := 2) (Nat.le_of_ble_eq_true rfl)
  rw [lg_entry_eq]
  generalize (lg_sl ([.ref g0, .int k]) ++ List.replicate (2 - (lg_sl ([.ref g0, .int k])).length) Slot.unset).toArray = ls at hl ⊢
  have hl : lv_has ls 2 [(0, .ref g0), (1, .int k)] := hl
  have hu0 := hu.1.1
  have hu2 := hu.1.2
  refine lv_aload_n hx hb dX1_at_0 rfl (lv_at hl 0 rfl) ?_
  refine lv_iconst (v := 0) hx hb dX1_at_1 (by decide) ?_
  refine va_put (D := (dC, dI)) (ci := 1) (v := .int 0) (ty := .int) (C := RX1) (T := TX1) (N := 4) hx hb hts (by decide +kernel) tyX1 tyX1_ok nmX1 hown hK hP hD hS 0 rfl rfl 0 (by decide) (hts (.fieldLink RX1 16 "MemoryBankModel" "thrown" "I") (by decide +kernel)) (fun _ h9 => h9) rfl (by decide +kernel) rfl rfl (Nat.le_of_ble_eq_true rfl) dX1_at_2 (fun H locs hP hD hS => ?_)
  have hP : va_P (dC, dI) vwCl [(g0, .inr (1, [.int 0, .ref g1, .ref g2, .int u.2.2])), (g1, .inl (cC, 4096, .inl (fun jx => mb_sg (u.1 jx)))), (g2, .inl (cD, 512, .inl (fun jx => mb_sg (u.2.1 jx))))] H := hP
  have hD : va_D A [(g0, .inr (1, [.int 0, .ref g1, .ref g2, .int u.2.2])), (g1, .inl (cC, 4096, .inl (fun jx => mb_sg (u.1 jx)))), (g2, .inl (cD, 512, .inl (fun jx => mb_sg (u.2.1 jx))))] := hD
  refine lv_iload_n hx hb dX1_at_5 rfl (lv_at hl 1 rfl) ?_
  refine lv_if_lt (tgt := 16) hx hb dX1_at_6 (by decide) (fun c1 => ?_) (fun c1 => ?_)
  · have c2 : mb_part k 1 4096 = 0 := by unfold mb_part; rw [if_pos c1]
    refine lv_iconst (v := (-1)) hx hb dX1_at_16 (by decide) ?_
    refine lv_goto (tgt := 30) hx hb dX1_at_17 (by decide) ?_
    have hP9 := hP.sub (ws' := [(g0, .inr (1, [.int 0, .ref g1, .ref g2, .int u.2.2])), (g1, .inl (cC, 4096, .inl (fun jx => mb_sg (u.1 jx)))), (g2, .inl (cD, 512, .inl (fun jx => mb_sg (u.2.1 jx))))]) [0, 1, 2] rfl
    have hD9 := hD.sub (ws' := [(g0, .inr (1, [.int 0, .ref g1, .ref g2, .int u.2.2])), (g1, .inl (cC, 4096, .inl (fun jx => mb_sg (u.1 jx)))), (g2, .inl (cD, 512, .inl (fun jx => mb_sg (u.2.1 jx))))]) [0, 1, 2] (by decide) rfl
    exact W.iret (v := (-1)) hx hb hr (fun t ht hW => ⟨⟨(-1), u, rfl, by unfold mb_at; rw [if_pos c2], by rw [ht]; exact hP9, va_K.moved hW.alike hK, hD9⟩, hS.F ht⟩) hS.2.2 dX1_at_30
  · refine lv_iload_n hx hb dX1_at_9 rfl (lv_at hl 1 rfl) ?_
    refine lv_sipush (v := 4096) hx hb dX1_at_10 (by decide) ?_
    refine lv_icmp_lt (tgt := 20) hx hb dX1_at_13 (by decide) (fun c2 => ?_) (fun c2 => ?_)
    · rw [mb_lt, mb_0] at c1
      rw [mb_lt, mb_4096] at c2
      have c3 : ¬ mb_part k 1 4096 = 0 := (mb_part_iff (by decide)).mpr (by rw [mb_1, mb_4096]; omega)
      refine lv_aload_n hx hb dX1_at_20 rfl (lv_at hl 0 rfl) ?_
      refine va_get (D := (dC, dI)) (ci := 1) (v := .ref g1) (C := RX1) (T := TX1) (N := 4) hx hb hts (by decide +kernel) hown hK hP 0 rfl rfl 1 (by decide) (hts (.fieldLink RX1 7 "MemoryBankModel" "memory" "[B") (by decide +kernel)) (fun _ h9 => h9) rfl dX1_at_21 ?_
      refine lv_iload_n hx hb dX1_at_24 rfl (lv_at hl 1 rfl) ?_
      refine va_bald hx hb hK hP 1 0 rfl rfl (mb_in (by omega) (by omega)) dX1_at_25 ?_
      refine lv_sipush (v := 255) hx hb dX1_at_26 (by decide) ?_
      refine lv_iand hx hb dX1_at_29 ?_
      refine lv_topi (fun yv eyv => ?_)
      obtain rfl : yv = u.1 k.toNatClampNeg := eyv.trans (mb_sg255 (hu.2.1 _))
      have hP9 := hP.sub (ws' := [(g0, .inr (1, [.int 0, .ref g1, .ref g2, .int u.2.2])), (g1, .inl (cC, 4096, .inl (fun jx => mb_sg (u.1 jx)))), (g2, .inl (cD, 512, .inl (fun jx => mb_sg (u.2.1 jx))))]) [0, 1, 2] rfl
      have hD9 := hD.sub (ws' := [(g0, .inr (1, [.int 0, .ref g1, .ref g2, .int u.2.2])), (g1, .inl (cC, 4096, .inl (fun jx => mb_sg (u.1 jx)))), (g2, .inl (cD, 512, .inl (fun jx => mb_sg (u.2.1 jx))))]) [0, 1, 2] (by decide) rfl
      exact W.iret (v := (u.1 k.toNatClampNeg)) hx hb hr (fun t ht hW => ⟨⟨(u.1 k.toNatClampNeg), u, rfl, by unfold mb_at; rw [if_neg c3], by rw [ht]; exact hP9, va_K.moved hW.alike hK, hD9⟩, hS.F ht⟩) hS.2.2 dX1_at_30
    · have c3 : mb_part k 1 4096 = 0 := Classical.byContradiction fun q => by have q2 := (mb_part_iff (by decide)).mp q; rw [mb_1, mb_4096] at q2; rw [mb_lt, mb_4096] at c2; omega
      refine lv_iconst (v := (-1)) hx hb dX1_at_16 (by decide) ?_
      refine lv_goto (tgt := 30) hx hb dX1_at_17 (by decide) ?_
      have hP9 := hP.sub (ws' := [(g0, .inr (1, [.int 0, .ref g1, .ref g2, .int u.2.2])), (g1, .inl (cC, 4096, .inl (fun jx => mb_sg (u.1 jx)))), (g2, .inl (cD, 512, .inl (fun jx => mb_sg (u.2.1 jx))))]) [0, 1, 2] rfl
      have hD9 := hD.sub (ws' := [(g0, .inr (1, [.int 0, .ref g1, .ref g2, .int u.2.2])), (g1, .inl (cC, 4096, .inl (fun jx => mb_sg (u.1 jx)))), (g2, .inl (cD, 512, .inl (fun jx => mb_sg (u.2.1 jx))))]) [0, 1, 2] (by decide) rfl
      exact W.iret (v := (-1)) hx hb hr (fun t ht hW => ⟨⟨(-1), u, rfl, by unfold mb_at; rw [if_pos c3], by rw [ht]; exact hP9, va_K.moved hW.alike hK, hD9⟩, hS.F ht⟩) hS.2.2 dX1_at_30
set_option maxHeartbeats 1000000 in
set_option maxRecDepth 100000 in
/-- the reference: check -/
theorem c_mcheck (l : Launch) (dC : Nat → ClassId) (dI : Nat → Nat → Nat) (sz : Nat) (g0 g1 g2 : Nat) (cC cD : ClassId) (u : Bk_) (a n : Int32) (hu : mb_inv u) : Met l yX1_check wsX1_check ({ frames := 1, cells := 0, slots := 0, locals := 26 }) (va_Pc [.ref g0, .int a, .int n] (fun U => U.heap.size = sz ∧ va_P (dC, dI) vwCl [(g0, .inr (1, [.int 0, .ref g1, .ref g2, .int u.2.2])), (g1, .inl (cC, 4096, .inl (fun jx => mb_sg (u.1 jx)))), (g2, .inl (cD, 512, .inl (fun jx => mb_sg (u.2.1 jx))))] U.heap ∧ va_K (dC, dI) vwCl [(cC, .byte), (cD, .byte)] U ∧ va_D (fun _ => True) [(g0, .inr (1, [.int 0, .ref g1, .ref g2, .int u.2.2])), (g1, .inl (cC, 4096, .inl (fun jx => mb_sg (u.1 jx)))), (g2, .inl (cD, 512, .inl (fun jx => mb_sg (u.2.1 jx))))])) (va_Qi (fun (r : Int32) (u2 : Bk_) => mb_check u a n = (r, u2)) (at_W dC dI (va_A [(g0, .inr (1, [.int 0, .ref g1, .ref g2, .int u.2.2])), (g1, .inl (cC, 4096, .inl (fun jx => mb_sg (u.1 jx)))), (g2, .inl (cD, 512, .inl (fun jx => mb_sg (u.2.1 jx))))] sz) [(cC, .byte), (cD, .byte)] (bw_X1 g0 g1 g2 cC cD)) (va_A [(g0, .inr (1, [.int 0, .ref g1, .ref g2, .int u.2.2])), (g1, .inl (cC, 4096, .inl (fun jx => mb_sg (u.1 jx)))), (g2, .inl (cD, 512, .inl (fun jx => mb_sg (u.2.1 jx))))] sz)) 0 0 (va_A [(g0, .inr (1, [.int 0, .ref g1, .ref g2, .int u.2.2])), (g1, .inl (cC, 4096, .inl (fun jx => mb_sg (u.1 jx)))), (g2, .inl (cD, 512, .inl (fun jx => mb_sg (u.2.1 jx))))] sz) := by
  refine Met.ofW (cc := cX1_check) (maxL := 3) (ret := (some .int)) (by decide) rfl ?_
  intro p e s m args below meth c s₁ B hml hv
  obtain ⟨rfl, hsz, hP, hK, hD0⟩ := hv
  have hx := B.exec
  have hb := B.bytes
  have hr := B.returns
  have hts := atoms_spec (ws := wsX1_check) B.pre
  have hown : s.vm.findClass RX1 = some m.cls := findClass_of_methodNamed B.named
  have hlocks := B.notSynchronized
  subst hsz
  have hD := hD0.self (sz := s.heap.size)
  generalize hAe : va_A [(g0, .inr (1, [.int 0, .ref g1, .ref g2, .int u.2.2])), (g1, .inl (cC, 4096, .inl (fun jx => mb_sg (u.1 jx)))), (g2, .inl (cD, 512, .inl (fun jx => mb_sg (u.2.1 jx))))] s.heap.size = A at hD ⊢
  have hA : ∀ q : Nat, s.heap.size ≤ q → A q := fun q h => by rw [← hAe]; exact Or.inr h
  have hS : va_S A s.heap s.heap [] := va_S.rf
  have hP : va_P (dC, dI) vwCl [(g0, .inr (1, [.int 0, .ref g1, .ref g2, .int u.2.2])), (g1, .inl (cC, 4096, .inl (fun jx => mb_sg (u.1 jx)))), (g2, .inl (cD, 512, .inl (fun jx => mb_sg (u.2.1 jx))))] s.heap := hP
  have hl := lv_entry ([.ref g0, .int a, .int n]) (n := 3) (Nat.le_of_ble_eq_true rfl)
  rw [lg_entry_eq]
  generalize (lg_sl ([.ref g0, .int a, .int n]) ++ List.replicate (3 - (lg_sl ([.ref g0, .int a, .int n])).length) Slot.unset).toArray = ls at hl ⊢
  have hl : lv_has ls 3 [(0, .ref g0), (1, .int a), (2, .int n)] := hl
  refine lv_aload_n hx hb dX1_check_0 rfl (lv_at hl 0 rfl) ?_
  refine lv_iconst (v := 0) hx hb dX1_check_1 (by decide) ?_
  refine va_put (D := (dC, dI)) (ci := 1) (v := .int 0) (ty := .int) (C := RX1) (T := TX1) (N := 4) hx hb hts (by decide +kernel) tyX1 tyX1_ok nmX1 hown hK hP hD hS 0 rfl rfl 0 (by decide) (hts (.fieldLink RX1 16 "MemoryBankModel" "thrown" "I") (by decide +kernel)) (fun _ h9 => h9) rfl (by decide +kernel) rfl rfl (Nat.le_of_ble_eq_true rfl) dX1_check_2 (fun H locs hP hD hS => ?_)
  have hP : va_P (dC, dI) vwCl [(g0, .inr (1, [.int 0, .ref g1, .ref g2, .int u.2.2])), (g1, .inl (cC, 4096, .inl (fun jx => mb_sg (u.1 jx)))), (g2, .inl (cD, 512, .inl (fun jx => mb_sg (u.2.1 jx))))] H := hP
  have hD : va_D A [(g0, .inr (1, [.int 0, .ref g1, .ref g2, .int u.2.2])), (g1, .inl (cC, 4096, .inl (fun jx => mb_sg (u.1 jx)))), (g2, .inl (cD, 512, .inl (fun jx => mb_sg (u.2.1 jx))))] := hD
  refine lv_iload_n hx hb dX1_check_5 rfl (lv_at hl 1 rfl) ?_
  refine lv_iload_n hx hb dX1_check_6 rfl (lv_at hl 2 rfl) ?_
  refine lv_sipush (v := 4096) hx hb dX1_check_7 (by decide) ?_
  have hPc := hP.sub (ws' := []) [] rfl
  have hDc := hD.sub (ws' := []) [] (by decide) rfl
  have hKc := hK.sub (tys' := []) [] rfl
  have hFc := va_free (wc := []) hD hS hA [] rfl
  refine va_calli (va_runS (As := [.int a, .int n, .int 4096]) (rest := []) ⟨hx, hb, hml, hown, hts⟩ (c_in l dC dI H.size a n 4096 (by decide)) (va_cwS 3 hts gX1_check_X1_in rfl rfl rfl (by decide +kernel) ⟨Nat.le_of_ble_eq_true rfl, Nat.le_of_ble_eq_true rfl⟩) ⟨fun a U g mk q => by obtain ⟨q0, q1, qP, qK, qD⟩ := q; exact ⟨q0, q1, qP, va_K.moved (u := U) (U := U.calling g mk a) (Vm.Alike.refl U.vm) qK, qD⟩, fun U hU hW => ⟨rfl, by rw [hU], by rw [hU]; exact hPc, va_K.moved hW.alike hKc, hDc.weaken (fun _ _ _ _ => trivial)⟩⟩ rfl rfl hl.1 rfl (lv_room (Nat.le_of_ble_eq_true rfl)) dX1_check_10 ⟨Nat.le_of_ble_eq_true rfl, Nat.le_of_ble_eq_true rfl⟩) hS (fun q _ h => hFc q h) hFc (fun r1 u1 t H1 locs ht hvm hw_u1 hB hz1 hk1 hS => ?_)
  obtain ⟨hP1, hK1, hD1⟩ := hB
  rw [ht] at hP1
  obtain ⟨hP, hD⟩ := va_join (wr := [(g0, .inr (1, [.int 0, .ref g1, .ref g2, .int u.2.2])), (g1, .inl (cC, 4096, .inl (fun jx => mb_sg (u.1 jx)))), (g2, .inl (cD, 512, .inl (fun jx => mb_sg (u.2.1 jx))))]) (w1 := []) hP hD [] [0, 1, 2] rfl rfl (by decide) (by decide) hk1 hFc hP1 hD1
  clear hPc hDc hFc hk1 hP1 hD1 ht
  generalize H1 = H at hP hS ⊢
  have hP : va_P (dC, dI) vwCl [(g0, .inr (1, [.int 0, .ref g1, .ref g2, .int u.2.2])), (g1, .inl (cC, 4096, .inl (fun jx => mb_sg (u.1 jx)))), (g2, .inl (cD, 512, .inl (fun jx => mb_sg (u.2.1 jx))))] H := hP
  have hD : va_D A [(g0, .inr (1, [.int 0, .ref g1, .ref g2, .int u.2.2])), (g1, .inl (cC, 4096, .inl (fun jx => mb_sg (u.1 jx)))), (g2, .inl (cD, 512, .inl (fun jx => mb_sg (u.2.1 jx))))] := hD
  subst hw_u1
  refine lv_if_eq (tgt := 28) hx hb dX1_check_13 (by decide) (fun c1 => ?_) (fun c1 => ?_)
  · refine lv_iconst (v := (-1)) hx hb dX1_check_28 (by decide) ?_
    have hP9 := hP.sub (ws' := [(g0, .inr (1, [.int 0, .ref g1, .ref g2, .int u.2.2])), (g1, .inl (cC, 4096, .inl (fun jx => mb_sg (u.1 jx)))), (g2, .inl (cD, 512, .inl (fun jx => mb_sg (u.2.1 jx))))]) [0, 1, 2] rfl
    have hD9 := hD.sub (ws' := [(g0, .inr (1, [.int 0, .ref g1, .ref g2, .int u.2.2])), (g1, .inl (cC, 4096, .inl (fun jx => mb_sg (u.1 jx)))), (g2, .inl (cD, 512, .inl (fun jx => mb_sg (u.2.1 jx))))]) [0, 1, 2] (by decide) rfl
    exact W.iret (v := (-1)) hx hb hr (fun t ht hW => ⟨⟨(-1), u, rfl, by unfold mb_check; rw [if_pos c1], by rw [ht]; exact hP9, va_K.moved hW.alike hK, hD9⟩, hS.F ht⟩) hS.2.2 dX1_check_29
  · have hq := (mb_part_iff (by decide)).mp c1
    rw [mb_4096] at hq
    have ea := mb_nI hq.1
    have en := mb_nI hq.2.1
    have hq3 : a.toNatClampNeg + n.toNatClampNeg ≤ 4096 := by rw [mb_cl, mb_cl]; omega
    refine lv_aload_n hx hb dX1_check_16 rfl (lv_at hl 0 rfl) ?_
    refine va_get (D := (dC, dI)) (ci := 1) (v := .ref g1) (C := RX1) (T := TX1) (N := 4) hx hb hts (by decide +kernel) hown hK hP 0 rfl rfl 1 (by decide) (hts (.fieldLink RX1 7 "MemoryBankModel" "memory" "[B") (by decide +kernel)) (fun _ h9 => h9) rfl dX1_check_17 ?_
    refine lv_iload_n hx hb dX1_check_20 rfl (lv_at hl 1 rfl) ?_
    refine lv_topi (fun yv eyv => ?_)
    obtain rfl : yv = nI a.toNatClampNeg := eyv.trans ea
    refine lv_iload_n hx hb dX1_check_21 rfl (lv_at hl 2 rfl) ?_
    refine lv_topi (fun yv eyv => ?_)
    obtain rfl : yv = nI n.toNatClampNeg := eyv.trans en
    have hPc := hP.sub (ws' := [(g1, .inl (cC, 4096, .inl (fun jx => mb_sg (u.1 jx))))]) [1] rfl
    have hDc := hD.sub (ws' := [(g1, .inl (cC, 4096, .inl (fun jx => mb_sg (u.1 jx))))]) [1] (by decide) rfl
    have hKc := hK.sub (tys' := [(cC, .byte)]) [0] rfl
    have hFc := va_free (wc := [(g1, .inl (cC, 4096, .inl (fun jx => mb_sg (u.1 jx))))]) hD hS hA [1] rfl
    refine va_calli (va_runS (As := [.ref g1, .int (nI a.toNatClampNeg), .int (nI n.toNatClampNeg)]) (rest := []) ⟨hx, hb, hml, hown, hts⟩ (c_mcheckOf l dC dI H.size g1 cC 4096 u.1 a.toNatClampNeg n.toNatClampNeg hu.2.1 hq3 (by decide)) (va_cwS 3 hts gX1_check_X1_checkOf rfl rfl rfl (by decide +kernel) ⟨Nat.le_of_ble_eq_true rfl, Nat.le_of_ble_eq_true rfl⟩) ⟨fun a U g mk q => by obtain ⟨q0, q1, qP, qK, qD⟩ := q; exact ⟨q0, q1, qP, va_K.moved (u := U) (U := U.calling g mk a) (Vm.Alike.refl U.vm) qK, qD⟩, fun U hU hW => ⟨rfl, by rw [hU], by rw [hU]; exact hPc, va_K.moved hW.alike hKc, hDc.weaken (fun _ _ _ _ => trivial)⟩⟩ rfl rfl hl.1 rfl (lv_room (Nat.le_of_ble_eq_true rfl)) dX1_check_22 ⟨Nat.le_of_ble_eq_true rfl, Nat.le_of_ble_eq_true rfl⟩) hS (fun q _ h => hFc q h) hFc (fun r2 u2 t H1 locs ht hvm hw_u2 hB hz1 hk1 hS => ?_)
    obtain ⟨hP1, hK1, hD1⟩ := hB
    rw [ht] at hP1
    obtain ⟨hP, hD⟩ := va_join (wr := [(g0, .inr (1, [.int 0, .ref g1, .ref g2, .int u.2.2])), (g2, .inl (cD, 512, .inl (fun jx => mb_sg (u.2.1 jx))))]) (w1 := [(g1, .inl (cC, 4096, .inl (fun jx => mb_sg (u.1 jx))))]) hP hD [1] [0, 2] rfl rfl (by decide) (by decide) hk1 hFc hP1 hD1
    clear hPc hDc hFc hk1 hP1 hD1 ht
    generalize H1 = H at hP hS ⊢
    have hP : va_P (dC, dI) vwCl [(g0, .inr (1, [.int 0, .ref g1, .ref g2, .int u.2.2])), (g2, .inl (cD, 512, .inl (fun jx => mb_sg (u.2.1 jx)))), (g1, .inl (cC, 4096, .inl (fun jx => mb_sg (u.1 jx))))] H := hP
    have hD : va_D A [(g0, .inr (1, [.int 0, .ref g1, .ref g2, .int u.2.2])), (g2, .inl (cD, 512, .inl (fun jx => mb_sg (u.2.1 jx)))), (g1, .inl (cC, 4096, .inl (fun jx => mb_sg (u.1 jx))))] := hD
    have hP := hP.sub (ws' := [(g0, .inr (1, [.int 0, .ref g1, .ref g2, .int u.2.2])), (g1, .inl (cC, 4096, .inl (fun jx => mb_sg (u.1 jx)))), (g2, .inl (cD, 512, .inl (fun jx => mb_sg (u.2.1 jx))))]) [0, 2, 1] rfl
    have hD := hD.sub (ws' := [(g0, .inr (1, [.int 0, .ref g1, .ref g2, .int u.2.2])), (g1, .inl (cC, 4096, .inl (fun jx => mb_sg (u.1 jx)))), (g2, .inl (cD, 512, .inl (fun jx => mb_sg (u.2.1 jx))))]) [0, 2, 1] (by decide) rfl
    refine lv_goto (tgt := 29) hx hb dX1_check_25 (by decide) ?_
    have hP9 := hP.sub (ws' := [(g0, .inr (1, [.int 0, .ref g1, .ref g2, .int u.2.2])), (g1, .inl (cC, 4096, .inl (fun jx => mb_sg (u.1 jx)))), (g2, .inl (cD, 512, .inl (fun jx => mb_sg (u.2.1 jx))))]) [0, 1, 2] rfl
    have hD9 := hD.sub (ws' := [(g0, .inr (1, [.int 0, .ref g1, .ref g2, .int u.2.2])), (g1, .inl (cC, 4096, .inl (fun jx => mb_sg (u.1 jx)))), (g2, .inl (cD, 512, .inl (fun jx => mb_sg (u.2.1 jx))))]) [0, 1, 2] (by decide) rfl
    exact W.iret (v := r2) hx hb hr (fun t ht hW => ⟨⟨r2, u, rfl, by unfold mb_check; rw [if_neg c1, hw_u2], by rw [ht]; exact hP9, va_K.moved hW.alike hK, hD9⟩, hS.F ht⟩) hS.2.2 dX1_check_29
set_option maxHeartbeats 1000000 in
set_option maxRecDepth 100000 in
/-- the reference: rowCheck -/
theorem c_mrowCheck (l : Launch) (dC : Nat → ClassId) (dI : Nat → Nat → Nat) (sz : Nat) (g0 g1 g2 : Nat) (cC cD : ClassId) (u : Bk_) (n : Int32) (hu : mb_inv u) : Met l yX1_rowCheck wsX1_rowCheck ({ frames := 1, cells := 0, slots := 0, locals := 26 }) (va_Pc [.ref g0, .int n] (fun U => U.heap.size = sz ∧ va_P (dC, dI) vwCl [(g0, .inr (1, [.int 0, .ref g1, .ref g2, .int u.2.2])), (g1, .inl (cC, 4096, .inl (fun jx => mb_sg (u.1 jx)))), (g2, .inl (cD, 512, .inl (fun jx => mb_sg (u.2.1 jx))))] U.heap ∧ va_K (dC, dI) vwCl [(cC, .byte), (cD, .byte)] U ∧ va_D (fun _ => True) [(g0, .inr (1, [.int 0, .ref g1, .ref g2, .int u.2.2])), (g1, .inl (cC, 4096, .inl (fun jx => mb_sg (u.1 jx)))), (g2, .inl (cD, 512, .inl (fun jx => mb_sg (u.2.1 jx))))])) (va_Qi (fun (r : Int32) (u2 : Bk_) => mb_rowCheck u n = (r, u2)) (at_W dC dI (va_A [(g0, .inr (1, [.int 0, .ref g1, .ref g2, .int u.2.2])), (g1, .inl (cC, 4096, .inl (fun jx => mb_sg (u.1 jx)))), (g2, .inl (cD, 512, .inl (fun jx => mb_sg (u.2.1 jx))))] sz) [(cC, .byte), (cD, .byte)] (bw_X1 g0 g1 g2 cC cD)) (va_A [(g0, .inr (1, [.int 0, .ref g1, .ref g2, .int u.2.2])), (g1, .inl (cC, 4096, .inl (fun jx => mb_sg (u.1 jx)))), (g2, .inl (cD, 512, .inl (fun jx => mb_sg (u.2.1 jx))))] sz)) 0 0 (va_A [(g0, .inr (1, [.int 0, .ref g1, .ref g2, .int u.2.2])), (g1, .inl (cC, 4096, .inl (fun jx => mb_sg (u.1 jx)))), (g2, .inl (cD, 512, .inl (fun jx => mb_sg (u.2.1 jx))))] sz) := by
  refine Met.ofW (cc := cX1_rowCheck) (maxL := 2) (ret := (some .int)) (by decide) rfl ?_
  intro p e s m args below meth c s₁ B hml hv
  obtain ⟨rfl, hsz, hP, hK, hD0⟩ := hv
  have hx := B.exec
  have hb := B.bytes
  have hr := B.returns
  have hts := atoms_spec (ws := wsX1_rowCheck) B.pre
  have hown : s.vm.findClass RX1 = some m.cls := findClass_of_methodNamed B.named
  have hlocks := B.notSynchronized
  subst hsz
  have hD := hD0.self (sz := s.heap.size)
  generalize hAe : va_A [(g0, .inr (1, [.int 0, .ref g1, .ref g2, .int u.2.2])), (g1, .inl (cC, 4096, .inl (fun jx => mb_sg (u.1 jx)))), (g2, .inl (cD, 512, .inl (fun jx => mb_sg (u.2.1 jx))))] s.heap.size = A at hD ⊢
  have hA : ∀ q : Nat, s.heap.size ≤ q → A q := fun q h => by rw [← hAe]; exact Or.inr h
  have hS : va_S A s.heap s.heap [] := va_S.rf
  have hP : va_P (dC, dI) vwCl [(g0, .inr (1, [.int 0, .ref g1, .ref g2, .int u.2.2])), (g1, .inl (cC, 4096, .inl (fun jx => mb_sg (u.1 jx)))), (g2, .inl (cD, 512, .inl (fun jx => mb_sg (u.2.1 jx))))] s.heap := hP
  have hl := lv_entry ([.ref g0, .int n]) (n := 2) (Nat.le_of_ble_eq_true rfl)
  rw [lg_entry_eq]
  generalize (lg_sl ([.ref g0, .int n]) ++ List.replicate (2 - (lg_sl ([.ref g0, .int n])).length) Slot.unset).toArray = ls at hl ⊢
  have hl : lv_has ls 2 [(0, .ref g0), (1, .int n)] := hl
  refine lv_aload_n hx hb dX1_rowCheck_0 rfl (lv_at hl 0 rfl) ?_
  refine lv_iconst (v := 0) hx hb dX1_rowCheck_1 (by decide) ?_
  refine va_put (D := (dC, dI)) (ci := 1) (v := .int 0) (ty := .int) (C := RX1) (T := TX1) (N := 4) hx hb hts (by decide +kernel) tyX1 tyX1_ok nmX1 hown hK hP hD hS 0 rfl rfl 0 (by decide) (hts (.fieldLink RX1 16 "MemoryBankModel" "thrown" "I") (by decide +kernel)) (fun _ h9 => h9) rfl (by decide +kernel) rfl rfl (Nat.le_of_ble_eq_true rfl) dX1_rowCheck_2 (fun H locs hP hD hS => ?_)
  have hP : va_P (dC, dI) vwCl [(g0, .inr (1, [.int 0, .ref g1, .ref g2, .int u.2.2])), (g1, .inl (cC, 4096, .inl (fun jx => mb_sg (u.1 jx)))), (g2, .inl (cD, 512, .inl (fun jx => mb_sg (u.2.1 jx))))] H := hP
  have hD : va_D A [(g0, .inr (1, [.int 0, .ref g1, .ref g2, .int u.2.2])), (g1, .inl (cC, 4096, .inl (fun jx => mb_sg (u.1 jx)))), (g2, .inl (cD, 512, .inl (fun jx => mb_sg (u.2.1 jx))))] := hD
  refine lv_iconst (v := 0) hx hb dX1_rowCheck_5 (by decide) ?_
  refine lv_iload_n hx hb dX1_rowCheck_6 rfl (lv_at hl 1 rfl) ?_
  refine lv_aload_n hx hb dX1_rowCheck_7 rfl (lv_at hl 0 rfl) ?_
  refine va_get (D := (dC, dI)) (ci := 1) (v := .int u.2.2) (C := RX1) (T := TX1) (N := 4) hx hb hts (by decide +kernel) hown hK hP 0 rfl rfl 3 (by decide) (hts (.fieldLink RX1 21 "MemoryBankModel" "size" "I") (by decide +kernel)) (fun _ h9 => h9) rfl dX1_rowCheck_8 ?_
  have hPc := hP.sub (ws' := []) [] rfl
  have hDc := hD.sub (ws' := []) [] (by decide) rfl
  have hKc := hK.sub (tys' := []) [] rfl
  have hFc := va_free (wc := []) hD hS hA [] rfl
  refine va_calli (va_runS (As := [.int 0, .int n, .int u.2.2]) (rest := []) ⟨hx, hb, hml, hown, hts⟩ (c_in l dC dI H.size 0 n u.2.2 hu.1.1) (va_cwS 3 hts gX1_rowCheck_X1_in rfl rfl rfl (by decide +kernel) ⟨Nat.le_of_ble_eq_true rfl, Nat.le_of_ble_eq_true rfl⟩) ⟨fun a U g mk q => by obtain ⟨q0, q1, qP, qK, qD⟩ := q; exact ⟨q0, q1, qP, va_K.moved (u := U) (U := U.calling g mk a) (Vm.Alike.refl U.vm) qK, qD⟩, fun U hU hW => ⟨rfl, by rw [hU], by rw [hU]; exact hPc, va_K.moved hW.alike hKc, hDc.weaken (fun _ _ _ _ => trivial)⟩⟩ rfl rfl hl.1 rfl (lv_room (Nat.le_of_ble_eq_true rfl)) dX1_rowCheck_11 ⟨Nat.le_of_ble_eq_true rfl, Nat.le_of_ble_eq_true rfl⟩) hS (fun q _ h => hFc q h) hFc (fun r1 u1 t H1 locs ht hvm hw_u1 hB hz1 hk1 hS => ?_)
  obtain ⟨hP1, hK1, hD1⟩ := hB
  rw [ht] at hP1
  obtain ⟨hP, hD⟩ := va_join (wr := [(g0, .inr (1, [.int 0, .ref g1, .ref g2, .int u.2.2])), (g1, .inl (cC, 4096, .inl (fun jx => mb_sg (u.1 jx)))), (g2, .inl (cD, 512, .inl (fun jx => mb_sg (u.2.1 jx))))]) (w1 := []) hP hD [] [0, 1, 2] rfl rfl (by decide) (by decide) hk1 hFc hP1 hD1
  clear hPc hDc hFc hk1 hP1 hD1 ht
  generalize H1 = H at hP hS ⊢
  have hP : va_P (dC, dI) vwCl [(g0, .inr (1, [.int 0, .ref g1, .ref g2, .int u.2.2])), (g1, .inl (cC, 4096, .inl (fun jx => mb_sg (u.1 jx)))), (g2, .inl (cD, 512, .inl (fun jx => mb_sg (u.2.1 jx))))] H := hP
  have hD : va_D A [(g0, .inr (1, [.int 0, .ref g1, .ref g2, .int u.2.2])), (g1, .inl (cC, 4096, .inl (fun jx => mb_sg (u.1 jx)))), (g2, .inl (cD, 512, .inl (fun jx => mb_sg (u.2.1 jx))))] := hD
  subst hw_u1
  refine lv_if_eq (tgt := 29) hx hb dX1_rowCheck_14 (by decide) (fun c1 => ?_) (fun c1 => ?_)
  · refine lv_iconst (v := (-1)) hx hb dX1_rowCheck_29 (by decide) ?_
    have hP9 := hP.sub (ws' := [(g0, .inr (1, [.int 0, .ref g1, .ref g2, .int u.2.2])), (g1, .inl (cC, 4096, .inl (fun jx => mb_sg (u.1 jx)))), (g2, .inl (cD, 512, .inl (fun jx => mb_sg (u.2.1 jx))))]) [0, 1, 2] rfl
    have hD9 := hD.sub (ws' := [(g0, .inr (1, [.int 0, .ref g1, .ref g2, .int u.2.2])), (g1, .inl (cC, 4096, .inl (fun jx => mb_sg (u.1 jx)))), (g2, .inl (cD, 512, .inl (fun jx => mb_sg (u.2.1 jx))))]) [0, 1, 2] (by decide) rfl
    exact W.iret (v := (-1)) hx hb hr (fun t ht hW => ⟨⟨(-1), u, rfl, by unfold mb_rowCheck; rw [if_pos c1], by rw [ht]; exact hP9, va_K.moved hW.alike hK, hD9⟩, hS.F ht⟩) hS.2.2 dX1_rowCheck_30
  · have hq := (mb_part_iff hu.1.1).mp c1
    rw [mb_0] at hq
    have en := mb_nI hq.2.1
    have hq3 : 0 + n.toNatClampNeg ≤ 512 := by rw [mb_cl]; have := hu.1.2; omega
    refine lv_aload_n hx hb dX1_rowCheck_17 rfl (lv_at hl 0 rfl) ?_
    refine va_get (D := (dC, dI)) (ci := 1) (v := .ref g2) (C := RX1) (T := TX1) (N := 4) hx hb hts (by decide +kernel) hown hK hP 0 rfl rfl 2 (by decide) (hts (.fieldLink RX1 13 "MemoryBankModel" "row" "[B") (by decide +kernel)) (fun _ h9 => h9) rfl dX1_rowCheck_18 ?_
    refine lv_iconst (v := 0) hx hb dX1_rowCheck_21 (by decide) ?_
    refine lv_iload_n hx hb dX1_rowCheck_22 rfl (lv_at hl 1 rfl) ?_
    refine lv_topi (fun yv eyv => ?_)
    obtain rfl : yv = nI n.toNatClampNeg := eyv.trans en
    have hPc := hP.sub (ws' := [(g2, .inl (cD, 512, .inl (fun jx => mb_sg (u.2.1 jx))))]) [2] rfl
    have hDc := hD.sub (ws' := [(g2, .inl (cD, 512, .inl (fun jx => mb_sg (u.2.1 jx))))]) [2] (by decide) rfl
    have hKc := hK.sub (tys' := [(cD, .byte)]) [1] rfl
    have hFc := va_free (wc := [(g2, .inl (cD, 512, .inl (fun jx => mb_sg (u.2.1 jx))))]) hD hS hA [2] rfl
    refine va_calli (va_runS (As := [.ref g2, .int 0, .int (nI n.toNatClampNeg)]) (rest := []) ⟨hx, hb, hml, hown, hts⟩ (c_mcheckOf l dC dI H.size g2 cD 512 u.2.1 0 n.toNatClampNeg hu.2.2 hq3 (by decide)) (va_cwS 3 hts gX1_rowCheck_X1_checkOf rfl rfl rfl (by decide +kernel) ⟨Nat.le_of_ble_eq_true rfl, Nat.le_of_ble_eq_true rfl⟩) ⟨fun a U g mk q => by obtain ⟨q0, q1, qP, qK, qD⟩ := q; exact ⟨q0, q1, qP, va_K.moved (u := U) (U := U.calling g mk a) (Vm.Alike.refl U.vm) qK, qD⟩, fun U hU hW => ⟨rfl, by rw [hU], by rw [hU]; exact hPc, va_K.moved hW.alike hKc, hDc.weaken (fun _ _ _ _ => trivial)⟩⟩ rfl rfl hl.1 rfl (lv_room (Nat.le_of_ble_eq_true rfl)) dX1_rowCheck_23 ⟨Nat.le_of_ble_eq_true rfl, Nat.le_of_ble_eq_true rfl⟩) hS (fun q _ h => hFc q h) hFc (fun r2 u2 t H1 locs ht hvm hw_u2 hB hz1 hk1 hS => ?_)
    obtain ⟨hP1, hK1, hD1⟩ := hB
    rw [ht] at hP1
    obtain ⟨hP, hD⟩ := va_join (wr := [(g0, .inr (1, [.int 0, .ref g1, .ref g2, .int u.2.2])), (g1, .inl (cC, 4096, .inl (fun jx => mb_sg (u.1 jx))))]) (w1 := [(g2, .inl (cD, 512, .inl (fun jx => mb_sg (u.2.1 jx))))]) hP hD [2] [0, 1] rfl rfl (by decide) (by decide) hk1 hFc hP1 hD1
    clear hPc hDc hFc hk1 hP1 hD1 ht
    generalize H1 = H at hP hS ⊢
    have hP : va_P (dC, dI) vwCl [(g0, .inr (1, [.int 0, .ref g1, .ref g2, .int u.2.2])), (g1, .inl (cC, 4096, .inl (fun jx => mb_sg (u.1 jx)))), (g2, .inl (cD, 512, .inl (fun jx => mb_sg (u.2.1 jx))))] H := hP
    have hD : va_D A [(g0, .inr (1, [.int 0, .ref g1, .ref g2, .int u.2.2])), (g1, .inl (cC, 4096, .inl (fun jx => mb_sg (u.1 jx)))), (g2, .inl (cD, 512, .inl (fun jx => mb_sg (u.2.1 jx))))] := hD
    have hP := hP.sub (ws' := [(g0, .inr (1, [.int 0, .ref g1, .ref g2, .int u.2.2])), (g1, .inl (cC, 4096, .inl (fun jx => mb_sg (u.1 jx)))), (g2, .inl (cD, 512, .inl (fun jx => mb_sg (u.2.1 jx))))]) [0, 1, 2] rfl
    have hD := hD.sub (ws' := [(g0, .inr (1, [.int 0, .ref g1, .ref g2, .int u.2.2])), (g1, .inl (cC, 4096, .inl (fun jx => mb_sg (u.1 jx)))), (g2, .inl (cD, 512, .inl (fun jx => mb_sg (u.2.1 jx))))]) [0, 1, 2] (by decide) rfl
    refine lv_goto (tgt := 30) hx hb dX1_rowCheck_26 (by decide) ?_
    have hP9 := hP.sub (ws' := [(g0, .inr (1, [.int 0, .ref g1, .ref g2, .int u.2.2])), (g1, .inl (cC, 4096, .inl (fun jx => mb_sg (u.1 jx)))), (g2, .inl (cD, 512, .inl (fun jx => mb_sg (u.2.1 jx))))]) [0, 1, 2] rfl
    have hD9 := hD.sub (ws' := [(g0, .inr (1, [.int 0, .ref g1, .ref g2, .int u.2.2])), (g1, .inl (cC, 4096, .inl (fun jx => mb_sg (u.1 jx)))), (g2, .inl (cD, 512, .inl (fun jx => mb_sg (u.2.1 jx))))]) [0, 1, 2] (by decide) rfl
    exact W.iret (v := r2) hx hb hr (fun t ht hW => ⟨⟨r2, u, rfl, by unfold mb_rowCheck; rw [if_neg c1, hw_u2], by rw [ht]; exact hP9, va_K.moved hW.alike hK, hD9⟩, hS.F ht⟩) hS.2.2 dX1_rowCheck_30
set_option maxHeartbeats 1000000 in
set_option maxRecDepth 100000 in
/-- the reference: seal -/
theorem c_mseal (l : Launch) (dC : Nat → ClassId) (dI : Nat → Nat → Nat) (sz : Nat) (g0 g1 g2 : Nat) (cC cD : ClassId) (u : Bk_) (hu : mb_inv u) : Met l yX1_seal wsX1_seal ({ frames := 1, cells := 0, slots := 0, locals := 26 }) (va_Pc [.ref g0] (fun U => U.heap.size = sz ∧ va_P (dC, dI) vwCl [(g0, .inr (1, [.int 0, .ref g1, .ref g2, .int u.2.2])), (g1, .inl (cC, 4096, .inl (fun jx => mb_sg (u.1 jx)))), (g2, .inl (cD, 512, .inl (fun jx => mb_sg (u.2.1 jx))))] U.heap ∧ va_K (dC, dI) vwCl [(cC, .byte), (cD, .byte)] U ∧ va_D (fun _ => True) [(g0, .inr (1, [.int 0, .ref g1, .ref g2, .int u.2.2])), (g1, .inl (cC, 4096, .inl (fun jx => mb_sg (u.1 jx)))), (g2, .inl (cD, 512, .inl (fun jx => mb_sg (u.2.1 jx))))])) (va_Qi (fun (r : Int32) (u2 : Bk_) => mb_seal u = (r, u2)) (at_W dC dI (va_A [(g0, .inr (1, [.int 0, .ref g1, .ref g2, .int u.2.2])), (g1, .inl (cC, 4096, .inl (fun jx => mb_sg (u.1 jx)))), (g2, .inl (cD, 512, .inl (fun jx => mb_sg (u.2.1 jx))))] sz) [(cC, .byte), (cD, .byte)] (bw_X1 g0 g1 g2 cC cD)) (va_A [(g0, .inr (1, [.int 0, .ref g1, .ref g2, .int u.2.2])), (g1, .inl (cC, 4096, .inl (fun jx => mb_sg (u.1 jx)))), (g2, .inl (cD, 512, .inl (fun jx => mb_sg (u.2.1 jx))))] sz)) 0 0 (va_A [(g0, .inr (1, [.int 0, .ref g1, .ref g2, .int u.2.2])), (g1, .inl (cC, 4096, .inl (fun jx => mb_sg (u.1 jx)))), (g2, .inl (cD, 512, .inl (fun jx => mb_sg (u.2.1 jx))))] sz) := by
  refine Met.ofW (cc := cX1_seal) (maxL := 2) (ret := (some .boolean)) (by decide) rfl ?_
  intro p e s m args below meth c s₁ B hml hv
  obtain ⟨rfl, hsz, hP, hK, hD0⟩ := hv
  have hx := B.exec
  have hb := B.bytes
  have hr := B.returns
  have hts := atoms_spec (ws := wsX1_seal) B.pre
  have hown : s.vm.findClass RX1 = some m.cls := findClass_of_methodNamed B.named
  have hlocks := B.notSynchronized
  subst hsz
  have hD := hD0.self (sz := s.heap.size)
  generalize hAe : va_A [(g0, .inr (1, [.int 0, .ref g1, .ref g2, .int u.2.2])), (g1, .inl (cC, 4096, .inl (fun jx => mb_sg (u.1 jx)))), (g2, .inl (cD, 512, .inl (fun jx => mb_sg (u.2.1 jx))))] s.heap.size = A at hD ⊢
  have hA : ∀ q : Nat, s.heap.size ≤ q → A q := fun q h => by rw [← hAe]; exact Or.inr h
  have hS : va_S A s.heap s.heap [] := va_S.rf
  have hP : va_P (dC, dI) vwCl [(g0, .inr (1, [.int 0, .ref g1, .ref g2, .int u.2.2])), (g1, .inl (cC, 4096, .inl (fun jx => mb_sg (u.1 jx)))), (g2, .inl (cD, 512, .inl (fun jx => mb_sg (u.2.1 jx))))] s.heap := hP
  have hl := lv_entry ([.ref g0]) (n := 2) (Nat.le_of_ble_eq_true rfl)
  rw [lg_entry_eq]
  generalize (lg_sl ([.ref g0]) ++ List.replicate (2 - (lg_sl ([.ref g0])).length) Slot.unset).toArray = ls at hl ⊢
  have hl : lv_has ls 2 [(0, .ref g0)] := hl
  have hu0 := hu.1.1
  have hu2 := hu.1.2
  refine lv_aload_n hx hb dX1_seal_0 rfl (lv_at hl 0 rfl) ?_
  refine lv_iconst (v := 0) hx hb dX1_seal_1 (by decide) ?_
  refine va_put (D := (dC, dI)) (ci := 1) (v := .int 0) (ty := .int) (C := RX1) (T := TX1) (N := 4) hx hb hts (by decide +kernel) tyX1 tyX1_ok nmX1 hown hK hP hD hS 0 rfl rfl 0 (by decide) (hts (.fieldLink RX1 16 "MemoryBankModel" "thrown" "I") (by decide +kernel)) (fun _ h9 => h9) rfl (by decide +kernel) rfl rfl (Nat.le_of_ble_eq_true rfl) dX1_seal_2 (fun H locs hP hD hS => ?_)
  have hP : va_P (dC, dI) vwCl [(g0, .inr (1, [.int 0, .ref g1, .ref g2, .int u.2.2])), (g1, .inl (cC, 4096, .inl (fun jx => mb_sg (u.1 jx)))), (g2, .inl (cD, 512, .inl (fun jx => mb_sg (u.2.1 jx))))] H := hP
  have hD : va_D A [(g0, .inr (1, [.int 0, .ref g1, .ref g2, .int u.2.2])), (g1, .inl (cC, 4096, .inl (fun jx => mb_sg (u.1 jx)))), (g2, .inl (cD, 512, .inl (fun jx => mb_sg (u.2.1 jx))))] := hD
  refine lv_aload_n hx hb dX1_seal_5 rfl (lv_at hl 0 rfl) ?_
  refine va_get (D := (dC, dI)) (ci := 1) (v := .int u.2.2) (C := RX1) (T := TX1) (N := 4) hx hb hts (by decide +kernel) hown hK hP 0 rfl rfl 3 (by decide) (hts (.fieldLink RX1 21 "MemoryBankModel" "size" "I") (by decide +kernel)) (fun _ h9 => h9) rfl dX1_seal_6 ?_
  refine lv_sipush (v := 510) hx hb dX1_seal_9 (by decide) ?_
  refine lv_icmp_le (tgt := 17) hx hb dX1_seal_12 (by decide) (fun c1 => ?_) (fun c1 => ?_)
  · have hz : u.2.2.toInt ≤ 510 := by rw [mb_le, show (510 : Int32).toInt = 510 from by decide] at c1; exact c1
    have c2 : ¬ mb_room 2 u.2.2 = 0 := (mb_room_iff hu0).mpr (by rw [mb_2]; omega)
    have en := mb_nI hu0
    have hq3 : 0 + u.2.2.toNatClampNeg ≤ 512 := by rw [mb_cl]; omega
    have hz1 : (u.2.2 + 1).toInt = u.2.2.toInt + 1 := by rw [mb_add hu0 (by decide) (by rw [mb_1]; omega), mb_1]
    refine lv_aload_n hx hb dX1_seal_17 rfl (lv_at hl 0 rfl) ?_
    refine va_get (D := (dC, dI)) (ci := 1) (v := .ref g2) (C := RX1) (T := TX1) (N := 4) hx hb hts (by decide +kernel) hown hK hP 0 rfl rfl 2 (by decide) (hts (.fieldLink RX1 13 "MemoryBankModel" "row" "[B") (by decide +kernel)) (fun _ h9 => h9) rfl dX1_seal_18 ?_
    refine lv_iconst (v := 0) hx hb dX1_seal_21 (by decide) ?_
    refine lv_aload_n hx hb dX1_seal_22 rfl (lv_at hl 0 rfl) ?_
    refine va_get (D := (dC, dI)) (ci := 1) (v := .int u.2.2) (C := RX1) (T := TX1) (N := 4) hx hb hts (by decide +kernel) hown hK hP 0 rfl rfl 3 (by decide) (hts (.fieldLink RX1 21 "MemoryBankModel" "size" "I") (by decide +kernel)) (fun _ h9 => h9) rfl dX1_seal_23 ?_
    refine lv_topi (fun yv eyv => ?_)
    obtain rfl : yv = nI u.2.2.toNatClampNeg := eyv.trans en
    have hPc := hP.sub (ws' := [(g2, .inl (cD, 512, .inl (fun jx => mb_sg (u.2.1 jx))))]) [2] rfl
    have hDc := hD.sub (ws' := [(g2, .inl (cD, 512, .inl (fun jx => mb_sg (u.2.1 jx))))]) [2] (by decide) rfl
    have hKc := hK.sub (tys' := [(cD, .byte)]) [1] rfl
    have hFc := va_free (wc := [(g2, .inl (cD, 512, .inl (fun jx => mb_sg (u.2.1 jx))))]) hD hS hA [2] rfl
    refine va_calli (va_runS (As := [.ref g2, .int 0, .int (nI u.2.2.toNatClampNeg)]) (rest := []) ⟨hx, hb, hml, hown, hts⟩ (c_mcheckOf l dC dI H.size g2 cD 512 u.2.1 0 u.2.2.toNatClampNeg hu.2.2 hq3 (by decide)) (va_cwS 3 hts gX1_seal_X1_checkOf rfl rfl rfl (by decide +kernel) ⟨Nat.le_of_ble_eq_true rfl, Nat.le_of_ble_eq_true rfl⟩) ⟨fun a U g mk q => by obtain ⟨q0, q1, qP, qK, qD⟩ := q; exact ⟨q0, q1, qP, va_K.moved (u := U) (U := U.calling g mk a) (Vm.Alike.refl U.vm) qK, qD⟩, fun U hU hW => ⟨rfl, by rw [hU], by rw [hU]; exact hPc, va_K.moved hW.alike hKc, hDc.weaken (fun _ _ _ _ => trivial)⟩⟩ rfl rfl hl.1 rfl (lv_room (Nat.le_of_ble_eq_true rfl)) dX1_seal_26 ⟨Nat.le_of_ble_eq_true rfl, Nat.le_of_ble_eq_true rfl⟩) hS (fun q _ h => hFc q h) hFc (fun r3 u3 t H1 locs ht hvm hw_u3 hB hz1 hk1 hS => ?_)
    obtain ⟨hP1, hK1, hD1⟩ := hB
    rw [ht] at hP1
    obtain ⟨hP, hD⟩ := va_join (wr := [(g0, .inr (1, [.int 0, .ref g1, .ref g2, .int u.2.2])), (g1, .inl (cC, 4096, .inl (fun jx => mb_sg (u.1 jx))))]) (w1 := [(g2, .inl (cD, 512, .inl (fun jx => mb_sg (u.2.1 jx))))]) hP hD [2] [0, 1] rfl rfl (by decide) (by decide) hk1 hFc hP1 hD1
    clear hPc hDc hFc hk1 hP1 hD1 ht
    generalize H1 = H at hP hS ⊢
    have hP : va_P (dC, dI) vwCl [(g0, .inr (1, [.int 0, .ref g1, .ref g2, .int u.2.2])), (g1, .inl (cC, 4096, .inl (fun jx => mb_sg (u.1 jx)))), (g2, .inl (cD, 512, .inl (fun jx => mb_sg (u.2.1 jx))))] H := hP
    have hD : va_D A [(g0, .inr (1, [.int 0, .ref g1, .ref g2, .int u.2.2])), (g1, .inl (cC, 4096, .inl (fun jx => mb_sg (u.1 jx)))), (g2, .inl (cD, 512, .inl (fun jx => mb_sg (u.2.1 jx))))] := hD
    have hP := hP.sub (ws' := [(g0, .inr (1, [.int 0, .ref g1, .ref g2, .int u.2.2])), (g1, .inl (cC, 4096, .inl (fun jx => mb_sg (u.1 jx)))), (g2, .inl (cD, 512, .inl (fun jx => mb_sg (u.2.1 jx))))]) [0, 1, 2] rfl
    have hD := hD.sub (ws' := [(g0, .inr (1, [.int 0, .ref g1, .ref g2, .int u.2.2])), (g1, .inl (cC, 4096, .inl (fun jx => mb_sg (u.1 jx)))), (g2, .inl (cD, 512, .inl (fun jx => mb_sg (u.2.1 jx))))]) [0, 1, 2] (by decide) rfl
    subst hw_u3
    refine lv_istore_n (lv' := [(1, .int (mb_ck u.2.1 0 u.2.2.toNatClampNeg)), (0, .ref g0)]) hx hb dX1_seal_29 rfl hl (by decide) rfl (fun ls hl => ?_)
    refine lv_aload_n hx hb dX1_seal_30 rfl (lv_at hl 1 rfl) ?_
    refine va_get (D := (dC, dI)) (ci := 1) (v := .ref g2) (C := RX1) (T := TX1) (N := 4) hx hb hts (by decide +kernel) hown hK hP 0 rfl rfl 2 (by decide) (hts (.fieldLink RX1 13 "MemoryBankModel" "row" "[B") (by decide +kernel)) (fun _ h9 => h9) rfl dX1_seal_31 ?_
    refine lv_aload_n hx hb dX1_seal_34 rfl (lv_at hl 1 rfl) ?_
    refine va_get (D := (dC, dI)) (ci := 1) (v := .int u.2.2) (C := RX1) (T := TX1) (N := 4) hx hb hts (by decide +kernel) hown hK hP 0 rfl rfl 3 (by decide) (hts (.fieldLink RX1 21 "MemoryBankModel" "size" "I") (by decide +kernel)) (fun _ h9 => h9) rfl dX1_seal_35 ?_
    refine lv_iload_n hx hb dX1_seal_38 rfl (lv_at hl 0 rfl) ?_
    refine lv_bipush (v := 8) hx hb dX1_seal_39 (by decide) ?_
    refine lv_ishr hx hb dX1_seal_41 ?_
    refine lv_i2b (v := ((mb_ck u.2.1 0 u.2.2.toNatClampNeg) >>> (8 &&& 31)).toInt8.toInt32) hx hb dX1_seal_42 rfl ?_
    refine va_bast hx hb hK hP hD hS 2 1 rfl rfl (mb_in hu0 (by omega)) dX1_seal_43 (fun H locs hP hD hS => ?_)
    have ew : upd (fun jx => mb_sg (u.2.1 jx)) (u.2.2).toNatClampNeg (vp_nar .byte ((mb_ck u.2.1 0 u.2.2.toNatClampNeg) >>> (8 &&& 31)).toInt8.toInt32) = (fun jx => mb_sg ((mb_app u ((mb_ck u.2.1 0 u.2.2.toNatClampNeg) >>> ((8 : Int32) &&& 31))).2.1 jx)) := by rw [pk_vb, ← mb_sgand]; exact mb_sgupd _ _ _
    have hP : va_P (dC, dI) vwCl [(g0, .inr (1, [.int 0, .ref g1, .ref g2, .int u.2.2])), (g1, .inl (cC, 4096, .inl (fun jx => mb_sg (u.1 jx)))), (g2, .inl (cD, 512, .inl (upd (fun jx => mb_sg (u.2.1 jx)) (u.2.2).toNatClampNeg (vp_nar .byte ((mb_ck u.2.1 0 u.2.2.toNatClampNeg) >>> (8 &&& 31)).toInt8.toInt32))))] H := hP
    have hD : va_D A [(g0, .inr (1, [.int 0, .ref g1, .ref g2, .int u.2.2])), (g1, .inl (cC, 4096, .inl (fun jx => mb_sg (u.1 jx)))), (g2, .inl (cD, 512, .inl (upd (fun jx => mb_sg (u.2.1 jx)) (u.2.2).toNatClampNeg (vp_nar .byte ((mb_ck u.2.1 0 u.2.2.toNatClampNeg) >>> (8 &&& 31)).toInt8.toInt32))))] := hD
    rw [ew] at hP hD
    clear ew
    have hP : va_P (dC, dI) vwCl [(g0, .inr (1, [.int 0, .ref g1, .ref g2, .int u.2.2])), (g1, .inl (cC, 4096, .inl (fun jx => mb_sg (u.1 jx)))), (g2, .inl (cD, 512, .inl (fun jx => mb_sg ((mb_app u ((mb_ck u.2.1 0 u.2.2.toNatClampNeg) >>> ((8 : Int32) &&& 31))).2.1 jx))))] H := hP
    have hD : va_D A [(g0, .inr (1, [.int 0, .ref g1, .ref g2, .int u.2.2])), (g1, .inl (cC, 4096, .inl (fun jx => mb_sg (u.1 jx)))), (g2, .inl (cD, 512, .inl (fun jx => mb_sg ((mb_app u ((mb_ck u.2.1 0 u.2.2.toNatClampNeg) >>> ((8 : Int32) &&& 31))).2.1 jx))))] := hD
    refine lv_aload_n hx hb dX1_seal_44 rfl (lv_at hl 1 rfl) ?_
    refine va_get (D := (dC, dI)) (ci := 1) (v := .ref g2) (C := RX1) (T := TX1) (N := 4) hx hb hts (by decide +kernel) hown hK hP 0 rfl rfl 2 (by decide) (hts (.fieldLink RX1 13 "MemoryBankModel" "row" "[B") (by decide +kernel)) (fun _ h9 => h9) rfl dX1_seal_45 ?_
    refine lv_aload_n hx hb dX1_seal_48 rfl (lv_at hl 1 rfl) ?_
    refine va_get (D := (dC, dI)) (ci := 1) (v := .int u.2.2) (C := RX1) (T := TX1) (N := 4) hx hb hts (by decide +kernel) hown hK hP 0 rfl rfl 3 (by decide) (hts (.fieldLink RX1 21 "MemoryBankModel" "size" "I") (by decide +kernel)) (fun _ h9 => h9) rfl dX1_seal_49 ?_
    refine lv_iconst (v := 1) hx hb dX1_seal_52 (by decide) ?_
    refine lv_iadd hx hb dX1_seal_53 ?_
    refine lv_iload_n hx hb dX1_seal_54 rfl (lv_at hl 0 rfl) ?_
    refine lv_i2b (v := (mb_ck u.2.1 0 u.2.2.toNatClampNeg).toInt8.toInt32) hx hb dX1_seal_55 rfl ?_
    refine va_bast hx hb hK hP hD hS 2 1 rfl rfl (mb_in (by omega) (by omega)) dX1_seal_56 (fun H locs hP hD hS => ?_)
    have ew : upd (fun jx => mb_sg ((mb_app u ((mb_ck u.2.1 0 u.2.2.toNatClampNeg) >>> ((8 : Int32) &&& 31))).2.1 jx)) ((u.2.2 + 1)).toNatClampNeg (vp_nar .byte (mb_ck u.2.1 0 u.2.2.toNatClampNeg).toInt8.toInt32) = (fun jx => mb_sg ((mb_app (mb_app u ((mb_ck u.2.1 0 u.2.2.toNatClampNeg) >>> ((8 : Int32) &&& 31))) (mb_ck u.2.1 0 u.2.2.toNatClampNeg)).2.1 jx)) := by rw [pk_vb, ← mb_sgand]; exact mb_sgupd _ _ _
    have hP : va_P (dC, dI) vwCl [(g0, .inr (1, [.int 0, .ref g1, .ref g2, .int u.2.2])), (g1, .inl (cC, 4096, .inl (fun jx => mb_sg (u.1 jx)))), (g2, .inl (cD, 512, .inl (upd (fun jx => mb_sg ((mb_app u ((mb_ck u.2.1 0 u.2.2.toNatClampNeg) >>> ((8 : Int32) &&& 31))).2.1 jx)) ((u.2.2 + 1)).toNatClampNeg (vp_nar .byte (mb_ck u.2.1 0 u.2.2.toNatClampNeg).toInt8.toInt32))))] H := hP
    have hD : va_D A [(g0, .inr (1, [.int 0, .ref g1, .ref g2, .int u.2.2])), (g1, .inl (cC, 4096, .inl (fun jx => mb_sg (u.1 jx)))), (g2, .inl (cD, 512, .inl (upd (fun jx => mb_sg ((mb_app u ((mb_ck u.2.1 0 u.2.2.toNatClampNeg) >>> ((8 : Int32) &&& 31))).2.1 jx)) ((u.2.2 + 1)).toNatClampNeg (vp_nar .byte (mb_ck u.2.1 0 u.2.2.toNatClampNeg).toInt8.toInt32))))] := hD
    rw [ew] at hP hD
    clear ew
    have hP : va_P (dC, dI) vwCl [(g0, .inr (1, [.int 0, .ref g1, .ref g2, .int u.2.2])), (g1, .inl (cC, 4096, .inl (fun jx => mb_sg (u.1 jx)))), (g2, .inl (cD, 512, .inl (fun jx => mb_sg ((mb_app (mb_app u ((mb_ck u.2.1 0 u.2.2.toNatClampNeg) >>> ((8 : Int32) &&& 31))) (mb_ck u.2.1 0 u.2.2.toNatClampNeg)).2.1 jx))))] H := hP
    have hD : va_D A [(g0, .inr (1, [.int 0, .ref g1, .ref g2, .int u.2.2])), (g1, .inl (cC, 4096, .inl (fun jx => mb_sg (u.1 jx)))), (g2, .inl (cD, 512, .inl (fun jx => mb_sg ((mb_app (mb_app u ((mb_ck u.2.1 0 u.2.2.toNatClampNeg) >>> ((8 : Int32) &&& 31))) (mb_ck u.2.1 0 u.2.2.toNatClampNeg)).2.1 jx))))] := hD
    refine lv_aload_n hx hb dX1_seal_57 rfl (lv_at hl 1 rfl) ?_
    refine lv_dup hx hb dX1_seal_58 rfl ?_
    refine va_get (D := (dC, dI)) (ci := 1) (v := .int u.2.2) (C := RX1) (T := TX1) (N := 4) hx hb hts (by decide +kernel) hown hK hP 0 rfl rfl 3 (by decide) (hts (.fieldLink RX1 21 "MemoryBankModel" "size" "I") (by decide +kernel)) (fun _ h9 => h9) rfl dX1_seal_59 ?_
    refine lv_iconst (v := 2) hx hb dX1_seal_62 (by decide) ?_
    refine lv_iadd hx hb dX1_seal_63 ?_
    refine va_put (D := (dC, dI)) (ci := 1) (v := .int (u.2.2 + 2)) (ty := .int) (C := RX1) (T := TX1) (N := 4) hx hb hts (by decide +kernel) tyX1 tyX1_ok nmX1 hown hK hP hD hS 0 rfl rfl 3 (by decide) (hts (.fieldLink RX1 21 "MemoryBankModel" "size" "I") (by decide +kernel)) (fun _ h9 => h9) rfl (by decide +kernel) rfl rfl (Nat.le_of_ble_eq_true rfl) dX1_seal_64 (fun H locs hP hD hS => ?_)
    have hP : va_P (dC, dI) vwCl [(g0, .inr (1, [.int 0, .ref g1, .ref g2, .int (u.2.2 + 2)])), (g1, .inl (cC, 4096, .inl (fun jx => mb_sg (u.1 jx)))), (g2, .inl (cD, 512, .inl (fun jx => mb_sg ((mb_app (mb_app u ((mb_ck u.2.1 0 u.2.2.toNatClampNeg) >>> ((8 : Int32) &&& 31))) (mb_ck u.2.1 0 u.2.2.toNatClampNeg)).2.1 jx))))] H := hP
    have hD : va_D A [(g0, .inr (1, [.int 0, .ref g1, .ref g2, .int (u.2.2 + 2)])), (g1, .inl (cC, 4096, .inl (fun jx => mb_sg (u.1 jx)))), (g2, .inl (cD, 512, .inl (fun jx => mb_sg ((mb_app (mb_app u ((mb_ck u.2.1 0 u.2.2.toNatClampNeg) >>> ((8 : Int32) &&& 31))) (mb_ck u.2.1 0 u.2.2.toNatClampNeg)).2.1 jx))))] := hD
    refine lv_iconst (v := 1) hx hb dX1_seal_67 (by decide) ?_
    have ez : u.2.2 + 2 = (u.2.2 + 1) + 1 := by rw [Int32.add_assoc]; rfl
    rw [ez] at hP hD
    have hP : va_P (dC, dI) vwCl [(g0, .inr (1, [.int 0, .ref g1, .ref g2, .int ((u.2.2 + 1) + 1)])), (g1, .inl (cC, 4096, .inl (fun jx => mb_sg (u.1 jx)))), (g2, .inl (cD, 512, .inl (fun jx => mb_sg ((mb_app (mb_app u ((mb_ck u.2.1 0 u.2.2.toNatClampNeg) >>> ((8 : Int32) &&& 31))) (mb_ck u.2.1 0 u.2.2.toNatClampNeg)).2.1 jx))))] H := hP
    have hD : va_D A [(g0, .inr (1, [.int 0, .ref g1, .ref g2, .int ((u.2.2 + 1) + 1)])), (g1, .inl (cC, 4096, .inl (fun jx => mb_sg (u.1 jx)))), (g2, .inl (cD, 512, .inl (fun jx => mb_sg ((mb_app (mb_app u ((mb_ck u.2.1 0 u.2.2.toNatClampNeg) >>> ((8 : Int32) &&& 31))) (mb_ck u.2.1 0 u.2.2.toNatClampNeg)).2.1 jx))))] := hD
    have hP9 := hP.sub (ws' := [(g0, .inr (1, [.int 0, .ref g1, .ref g2, .int ((u.2.2 + 1) + 1)])), (g1, .inl (cC, 4096, .inl (fun jx => mb_sg (u.1 jx)))), (g2, .inl (cD, 512, .inl (fun jx => mb_sg ((mb_app (mb_app u ((mb_ck u.2.1 0 u.2.2.toNatClampNeg) >>> ((8 : Int32) &&& 31))) (mb_ck u.2.1 0 u.2.2.toNatClampNeg)).2.1 jx))))]) [0, 1, 2] rfl
    have hD9 := hD.sub (ws' := [(g0, .inr (1, [.int 0, .ref g1, .ref g2, .int ((u.2.2 + 1) + 1)])), (g1, .inl (cC, 4096, .inl (fun jx => mb_sg (u.1 jx)))), (g2, .inl (cD, 512, .inl (fun jx => mb_sg ((mb_app (mb_app u ((mb_ck u.2.1 0 u.2.2.toNatClampNeg) >>> ((8 : Int32) &&& 31))) (mb_ck u.2.1 0 u.2.2.toNatClampNeg)).2.1 jx))))]) [0, 1, 2] (by decide) rfl
    exact W.zret (v := 1) hx hb hr (by decide) (fun t ht hW => ⟨⟨1, (mb_app (mb_app u ((mb_ck u.2.1 0 u.2.2.toNatClampNeg) >>> ((8 : Int32) &&& 31))) (mb_ck u.2.1 0 u.2.2.toNatClampNeg)), rfl, by unfold mb_seal; rw [if_neg c2], by rw [ht]; exact hP9, va_K.moved hW.alike hK, hD9⟩, hS.F ht⟩) hS.2.2 dX1_seal_68
  · have c2 : mb_room 2 u.2.2 = 0 := Classical.byContradiction fun q => by have q2 := (mb_room_iff hu0).mp q; rw [mb_2] at q2; rw [mb_le, show (510 : Int32).toInt = 510 from by decide] at c1; omega
    refine lv_iconst (v := 0) hx hb dX1_seal_15 (by decide) ?_
    have hP9 := hP.sub (ws' := [(g0, .inr (1, [.int 0, .ref g1, .ref g2, .int u.2.2])), (g1, .inl (cC, 4096, .inl (fun jx => mb_sg (u.1 jx)))), (g2, .inl (cD, 512, .inl (fun jx => mb_sg (u.2.1 jx))))]) [0, 1, 2] rfl
    have hD9 := hD.sub (ws' := [(g0, .inr (1, [.int 0, .ref g1, .ref g2, .int u.2.2])), (g1, .inl (cC, 4096, .inl (fun jx => mb_sg (u.1 jx)))), (g2, .inl (cD, 512, .inl (fun jx => mb_sg (u.2.1 jx))))]) [0, 1, 2] (by decide) rfl
    exact W.zret (v := 0) hx hb hr (by decide) (fun t ht hW => ⟨⟨0, u, rfl, by unfold mb_seal; rw [if_pos c2], by rw [ht]; exact hP9, va_K.moved hW.alike hK, hD9⟩, hS.F ht⟩) hS.2.2 dX1_seal_16
set_option maxHeartbeats 1000000 in
set_option maxRecDepth 100000 in
theorem lp_mload {p : Program} {l : Launch} {e : Env} {R : Room} {s : State} {m : MethodId} {args : Array Value} {below : List Frame} {meth : Method} {c : Code} {cells slots : Nat} {Q : State → Prop} {A : Nat → Prop} {H0 : Heap} (hx : p.tables.exec = Jvm.exec) (hb : c.code = cX1_load) (hown : s.vm.findClass RX1 = some m.cls) (hts : ∀ w ∈ wsX1_load, w.before args s = true) (dC : Nat → ClassId) (dI : Nat → Nat → Nat) (g0 g1 g2 : Nat) (cC cD : ClassId) (u : Bk_) (k n a : Nat) (h1 : k + n ≤ 512) (h2 : a + n ≤ 4096) (hK : va_K (dC, dI) vwCl [(cC, .byte), (cD, .byte)] s) :
    ∀ (i j : Nat), j + i = n → ∀ (H : Heap) (locs : List Loc), va_P (dC, dI) vwCl [(g0, .inr (1, [.int 0, .ref g1, .ref g2, .int u.2.2])), (g1, .inl (cC, 4096, .inl (fun jx => mb_sg ((va_cpy u.2.1 u.1 k a (j)) jx)))), (g2, .inl (cD, 512, .inl (fun jx => mb_sg (u.2.1 jx))))] H → va_D A [(g0, .inr (1, [.int 0, .ref g1, .ref g2, .int u.2.2])), (g1, .inl (cC, 4096, .inl (fun jx => mb_sg ((va_cpy u.2.1 u.1 k a (j)) jx)))), (g2, .inl (cD, 512, .inl (fun jx => mb_sg (u.2.1 jx))))] → va_S A H0 H locs → (∀ (H : Heap) (locs : List Loc), va_P (dC, dI) vwCl [(g0, .inr (1, [.int 0, .ref g1, .ref g2, .int u.2.2])), (g1, .inl (cC, 4096, .inl (fun jx => mb_sg ((va_cpy u.2.1 u.1 k a (n)) jx)))), (g2, .inl (cD, 512, .inl (fun jx => mb_sg (u.2.1 jx))))] H → va_D A [(g0, .inr (1, [.int 0, .ref g1, .ref g2, .int u.2.2])), (g1, .inl (cC, 4096, .inl (fun jx => mb_sg ((va_cpy u.2.1 u.1 k a (n)) jx)))), (g2, .inl (cD, 512, .inl (fun jx => mb_sg (u.2.1 jx))))] → va_S A H0 H locs → ∀ ls : Array Slot, lv_has ls 5 [(0, .ref g0), (1, .int (nI k)), (2, .int (nI n)), (3, .int (nI a)), (4, .int (nI (n)))] → W p l e R s m args below meth c H locs cells slots Q (F0 m 68 ls [])) → ∀ ls : Array Slot, lv_has ls 5 [(0, .ref g0), (1, .int (nI k)), (2, .int (nI n)), (3, .int (nI a)), (4, .int (nI (j)))] → W p l e R s m args below meth c H locs cells slots Q (F0 m 38 ls []) := by
  intro i
  induction i with
  | zero =>
    intro j hj H locs hP hD hS kk ls hl
    obtain rfl : j = n := by omega
    refine lv_iload hx hb dX1_load_38 (lv_at hl 4 rfl) ?_
    refine lv_iload_n hx hb dX1_load_40 rfl (lv_at hl 2 rfl) ?_
    refine lv_icmp_ge (tgt := 68) hx hb dX1_load_41 (by decide) (fun c1 => ?_) (fun c1 => ?_)
    · exact kk H locs hP hD hS ls hl
    · exact absurd (nI_le (Nat.le_refl _) (by omega)) c1
  | succ i ih =>
    intro j hj H locs hP hD hS kk ls hl
    refine lv_iload hx hb dX1_load_38 (lv_at hl 4 rfl) ?_
    refine lv_iload_n hx hb dX1_load_40 rfl (lv_at hl 2 rfl) ?_
    refine lv_icmp_ge (tgt := 68) hx hb dX1_load_41 (by decide) (fun c1 => ?_) (fun c1 => ?_)
    · exact absurd c1 (nI_ge (by omega) (by omega))
    · refine lv_aload_n hx hb dX1_load_44 rfl (lv_at hl 0 rfl) ?_
      refine va_get (D := (dC, dI)) (ci := 1) (v := .ref g1) (C := RX1) (T := TX1) (N := 4) hx hb hts (by decide +kernel) hown hK hP 0 rfl rfl 1 (by decide) (hts (.fieldLink RX1 7 "MemoryBankModel" "memory" "[B") (by decide +kernel)) (fun _ h9 => h9) rfl dX1_load_45 ?_
      refine lv_iload_n hx hb dX1_load_48 rfl (lv_at hl 3 rfl) ?_
      refine lv_iload hx hb dX1_load_49 (lv_at hl 4 rfl) ?_
      refine lv_iadd hx hb dX1_load_51 ?_
      refine lv_topi (fun yv eyv => ?_)
      obtain rfl : yv = nI (a + j) := eyv.trans (nI_add a j)
      refine lv_aload_n hx hb dX1_load_52 rfl (lv_at hl 0 rfl) ?_
      refine va_get (D := (dC, dI)) (ci := 1) (v := .ref g2) (C := RX1) (T := TX1) (N := 4) hx hb hts (by decide +kernel) hown hK hP 0 rfl rfl 2 (by decide) (hts (.fieldLink RX1 13 "MemoryBankModel" "row" "[B") (by decide +kernel)) (fun _ h9 => h9) rfl dX1_load_53 ?_
      refine lv_iload_n hx hb dX1_load_56 rfl (lv_at hl 1 rfl) ?_
      refine lv_iload hx hb dX1_load_57 (lv_at hl 4 rfl) ?_
      refine lv_iadd hx hb dX1_load_59 ?_
      refine lv_topi (fun yv eyv => ?_)
      obtain rfl : yv = nI (k + j) := eyv.trans (nI_add k j)
      refine va_bald hx hb hK hP 2 1 rfl rfl (vp_in_nI (by omega) (by omega)) dX1_load_60 ?_
      refine lv_topi (fun yv eyv => ?_)
      obtain rfl : yv = mb_sg (u.2.1 (k + j)) := eyv.trans (by rw [nI_clamp (by omega)])
      refine va_bast hx hb hK hP hD hS 1 0 rfl rfl (vp_in_nI (by omega) (by omega)) dX1_load_61 (fun H locs hP hD hS => ?_)
      have ew : upd (fun jx => mb_sg ((va_cpy u.2.1 u.1 k a (j)) jx)) ((nI (a + j))).toNatClampNeg (vp_nar .byte (mb_sg (u.2.1 (k + j)))) = (fun jx => mb_sg ((va_cpy u.2.1 u.1 k a (j + 1)) jx)) := by rw [nI_clamp (by omega), mb_nar, mb_sgupd, mb_cpy1]
      have hP : va_P (dC, dI) vwCl [(g0, .inr (1, [.int 0, .ref g1, .ref g2, .int u.2.2])), (g1, .inl (cC, 4096, .inl (upd (fun jx => mb_sg ((va_cpy u.2.1 u.1 k a (j)) jx)) ((nI (a + j))).toNatClampNeg (vp_nar .byte (mb_sg (u.2.1 (k + j))))))), (g2, .inl (cD, 512, .inl (fun jx => mb_sg (u.2.1 jx))))] H := hP
      have hD : va_D A [(g0, .inr (1, [.int 0, .ref g1, .ref g2, .int u.2.2])), (g1, .inl (cC, 4096, .inl (upd (fun jx => mb_sg ((va_cpy u.2.1 u.1 k a (j)) jx)) ((nI (a + j))).toNatClampNeg (vp_nar .byte (mb_sg (u.2.1 (k + j))))))), (g2, .inl (cD, 512, .inl (fun jx => mb_sg (u.2.1 jx))))] := hD
      rw [ew] at hP hD
      clear ew
      have hP : va_P (dC, dI) vwCl [(g0, .inr (1, [.int 0, .ref g1, .ref g2, .int u.2.2])), (g1, .inl (cC, 4096, .inl (fun jx => mb_sg ((va_cpy u.2.1 u.1 k a (j + 1)) jx)))), (g2, .inl (cD, 512, .inl (fun jx => mb_sg (u.2.1 jx))))] H := hP
      have hD : va_D A [(g0, .inr (1, [.int 0, .ref g1, .ref g2, .int u.2.2])), (g1, .inl (cC, 4096, .inl (fun jx => mb_sg ((va_cpy u.2.1 u.1 k a (j + 1)) jx)))), (g2, .inl (cD, 512, .inl (fun jx => mb_sg (u.2.1 jx))))] := hD
      refine lv_iinc (v := nI (j + 1)) (lv' := [(4, .int (nI (j + 1))), (0, .ref g0), (1, .int (nI k)), (2, .int (nI n)), (3, .int (nI a))]) hx hb dX1_load_62 hl (k := 4) rfl (by rw [← nI_1]; rfl) (by decide) rfl (fun ls hl => ?_)
      refine lv_goto (tgt := 38) hx hb dX1_load_65 (by decide) ?_
      exact ih (j + 1) (by omega) _ _ hP hD hS kk ls (lv_sub hl [1, 2, 3, 4, 0] rfl)
set_option maxHeartbeats 1000000 in
set_option maxRecDepth 100000 in
/-- the reference: load -/
theorem c_mload (l : Launch) (dC : Nat → ClassId) (dI : Nat → Nat → Nat) (sz : Nat) (g0 g1 g2 : Nat) (cC cD : ClassId) (u : Bk_) (k n a : Int32) (hu : mb_inv u) : Met l yX1_load wsX1_load ({ frames := 1, cells := 0, slots := 0, locals := 22 }) (va_Pc [.ref g0, .int k, .int n, .int a] (fun U => U.heap.size = sz ∧ va_P (dC, dI) vwCl [(g0, .inr (1, [.int 0, .ref g1, .ref g2, .int u.2.2])), (g1, .inl (cC, 4096, .inl (fun jx => mb_sg (u.1 jx)))), (g2, .inl (cD, 512, .inl (fun jx => mb_sg (u.2.1 jx))))] U.heap ∧ va_K (dC, dI) vwCl [(cC, .byte), (cD, .byte)] U ∧ va_D (fun _ => True) [(g0, .inr (1, [.int 0, .ref g1, .ref g2, .int u.2.2])), (g1, .inl (cC, 4096, .inl (fun jx => mb_sg (u.1 jx)))), (g2, .inl (cD, 512, .inl (fun jx => mb_sg (u.2.1 jx))))])) (va_Qi (fun (r : Int32) (u2 : Bk_) => mb_load u k n a = (r, u2)) (at_W dC dI (va_A [(g0, .inr (1, [.int 0, .ref g1, .ref g2, .int u.2.2])), (g1, .inl (cC, 4096, .inl (fun jx => mb_sg (u.1 jx)))), (g2, .inl (cD, 512, .inl (fun jx => mb_sg (u.2.1 jx))))] sz) [(cC, .byte), (cD, .byte)] (bw_X1 g0 g1 g2 cC cD)) (va_A [(g0, .inr (1, [.int 0, .ref g1, .ref g2, .int u.2.2])), (g1, .inl (cC, 4096, .inl (fun jx => mb_sg (u.1 jx)))), (g2, .inl (cD, 512, .inl (fun jx => mb_sg (u.2.1 jx))))] sz)) 0 0 (va_A [(g0, .inr (1, [.int 0, .ref g1, .ref g2, .int u.2.2])), (g1, .inl (cC, 4096, .inl (fun jx => mb_sg (u.1 jx)))), (g2, .inl (cD, 512, .inl (fun jx => mb_sg (u.2.1 jx))))] sz) := by
  refine Met.ofW (cc := cX1_load) (maxL := 5) (ret := (some .boolean)) (by decide) rfl ?_
  intro p e s m args below meth c s₁ B hml hv
  obtain ⟨rfl, hsz, hP, hK, hD0⟩ := hv
  have hx := B.exec
  have hb := B.bytes
  have hr := B.returns
  have hts := atoms_spec (ws := wsX1_load) B.pre
  have hown : s.vm.findClass RX1 = some m.cls := findClass_of_methodNamed B.named
  have hlocks := B.notSynchronized
  subst hsz
  have hD := hD0.self (sz := s.heap.size)
  generalize hAe : va_A [(g0, .inr (1, [.int 0, .ref g1, .ref g2, .int u.2.2])), (g1, .inl (cC, 4096, .inl (fun jx => mb_sg (u.1 jx)))), (g2, .inl (cD, 512, .inl (fun jx => mb_sg (u.2.1 jx))))] s.heap.size = A at hD ⊢
  have hA : ∀ q : Nat, s.heap.size ≤ q → A q := fun q h => by rw [← hAe]; exact Or.inr h
  have hS : va_S A s.heap s.heap [] := va_S.rf
  have hP : va_P (dC, dI) vwCl [(g0, .inr (1, [.int 0, .ref g1, .ref g2, .int u.2.2])), (g1, .inl (cC, 4096, .inl (fun jx => mb_sg (u.1 jx)))), (g2, .inl (cD, 512, .inl (fun jx => mb_sg (u.2.1 jx))))] s.heap := hP
  have hl := lv_entry ([.ref g0, .int k, .int n, .int a]) (n := 5) (Nat.le_of_ble_eq_true rfl)
  rw [lg_entry_eq]
  generalize (lg_sl ([.ref g0, .int k, .int n, .int a]) ++ List.replicate (5 - (lg_sl ([.ref g0, .int k, .int n, .int a])).length) Slot.unset).toArray = ls at hl ⊢
  have hl : lv_has ls 5 [(0, .ref g0), (1, .int k), (2, .int n), (3, .int a)] := hl
  have hu0 := hu.1.1
  have hu2 := hu.1.2
  refine lv_aload_n hx hb dX1_load_0 rfl (lv_at hl 0 rfl) ?_
  refine lv_iconst (v := 0) hx hb dX1_load_1 (by decide) ?_
  refine va_put (D := (dC, dI)) (ci := 1) (v := .int 0) (ty := .int) (C := RX1) (T := TX1) (N := 4) hx hb hts (by decide +kernel) tyX1 tyX1_ok nmX1 hown hK hP hD hS 0 rfl rfl 0 (by decide) (hts (.fieldLink RX1 16 "MemoryBankModel" "thrown" "I") (by decide +kernel)) (fun _ h9 => h9) rfl (by decide +kernel) rfl rfl (Nat.le_of_ble_eq_true rfl) dX1_load_2 (fun H locs hP hD hS => ?_)
  have hP : va_P (dC, dI) vwCl [(g0, .inr (1, [.int 0, .ref g1, .ref g2, .int u.2.2])), (g1, .inl (cC, 4096, .inl (fun jx => mb_sg (u.1 jx)))), (g2, .inl (cD, 512, .inl (fun jx => mb_sg (u.2.1 jx))))] H := hP
  have hD : va_D A [(g0, .inr (1, [.int 0, .ref g1, .ref g2, .int u.2.2])), (g1, .inl (cC, 4096, .inl (fun jx => mb_sg (u.1 jx)))), (g2, .inl (cD, 512, .inl (fun jx => mb_sg (u.2.1 jx))))] := hD
  refine lv_iload_n hx hb dX1_load_5 rfl (lv_at hl 2 rfl) ?_
  refine lv_iconst (v := 1) hx hb dX1_load_6 (by decide) ?_
  refine lv_icmp_lt (tgt := 33) hx hb dX1_load_7 (by decide) (fun c1 => ?_) (fun c1 => ?_)
  · refine lv_iconst (v := 0) hx hb dX1_load_33 (by decide) ?_
    have hP9 := hP.sub (ws' := [(g0, .inr (1, [.int 0, .ref g1, .ref g2, .int u.2.2])), (g1, .inl (cC, 4096, .inl (fun jx => mb_sg (u.1 jx)))), (g2, .inl (cD, 512, .inl (fun jx => mb_sg (u.2.1 jx))))]) [0, 1, 2] rfl
    have hD9 := hD.sub (ws' := [(g0, .inr (1, [.int 0, .ref g1, .ref g2, .int u.2.2])), (g1, .inl (cC, 4096, .inl (fun jx => mb_sg (u.1 jx)))), (g2, .inl (cD, 512, .inl (fun jx => mb_sg (u.2.1 jx))))]) [0, 1, 2] (by decide) rfl
    exact W.zret (v := 0) hx hb hr (by decide) (fun t ht hW => ⟨⟨0, u, rfl, by unfold mb_load; rw [if_pos c1], by rw [ht]; exact hP9, va_K.moved hW.alike hK, hD9⟩, hS.F ht⟩) hS.2.2 dX1_load_34
  · refine lv_iload_n hx hb dX1_load_10 rfl (lv_at hl 1 rfl) ?_
    refine lv_iload_n hx hb dX1_load_11 rfl (lv_at hl 2 rfl) ?_
    refine lv_aload_n hx hb dX1_load_12 rfl (lv_at hl 0 rfl) ?_
    refine va_get (D := (dC, dI)) (ci := 1) (v := .int u.2.2) (C := RX1) (T := TX1) (N := 4) hx hb hts (by decide +kernel) hown hK hP 0 rfl rfl 3 (by decide) (hts (.fieldLink RX1 21 "MemoryBankModel" "size" "I") (by decide +kernel)) (fun _ h9 => h9) rfl dX1_load_13 ?_
    have hPc := hP.sub (ws' := []) [] rfl
    have hDc := hD.sub (ws' := []) [] (by decide) rfl
    have hKc := hK.sub (tys' := []) [] rfl
    have hFc := va_free (wc := []) hD hS hA [] rfl
    refine va_calli (va_runS (As := [.int k, .int n, .int u.2.2]) (rest := []) ⟨hx, hb, hml, hown, hts⟩ (c_in l dC dI H.size k n u.2.2 hu0) (va_cwS 3 hts gX1_load_X1_in rfl rfl rfl (by decide +kernel) ⟨Nat.le_of_ble_eq_true rfl, Nat.le_of_ble_eq_true rfl⟩) ⟨fun a U g mk q => by obtain ⟨q0, q1, qP, qK, qD⟩ := q; exact ⟨q0, q1, qP, va_K.moved (u := U) (U := U.calling g mk a) (Vm.Alike.refl U.vm) qK, qD⟩, fun U hU hW => ⟨rfl, by rw [hU], by rw [hU]; exact hPc, va_K.moved hW.alike hKc, hDc.weaken (fun _ _ _ _ => trivial)⟩⟩ rfl rfl hl.1 rfl (lv_room (Nat.le_of_ble_eq_true rfl)) dX1_load_16 ⟨Nat.le_of_ble_eq_true rfl, Nat.le_of_ble_eq_true rfl⟩) hS (fun q _ h => hFc q h) hFc (fun r1 u1 t H1 locs ht hvm hw_u1 hB hz1 hk1 hS => ?_)
    obtain ⟨hP1, hK1, hD1⟩ := hB
    rw [ht] at hP1
    obtain ⟨hP, hD⟩ := va_join (wr := [(g0, .inr (1, [.int 0, .ref g1, .ref g2, .int u.2.2])), (g1, .inl (cC, 4096, .inl (fun jx => mb_sg (u.1 jx)))), (g2, .inl (cD, 512, .inl (fun jx => mb_sg (u.2.1 jx))))]) (w1 := []) hP hD [] [0, 1, 2] rfl rfl (by decide) (by decide) hk1 hFc hP1 hD1
    clear hPc hDc hFc hk1 hP1 hD1 ht
    generalize H1 = H at hP hS ⊢
    have hP : va_P (dC, dI) vwCl [(g0, .inr (1, [.int 0, .ref g1, .ref g2, .int u.2.2])), (g1, .inl (cC, 4096, .inl (fun jx => mb_sg (u.1 jx)))), (g2, .inl (cD, 512, .inl (fun jx => mb_sg (u.2.1 jx))))] H := hP
    have hD : va_D A [(g0, .inr (1, [.int 0, .ref g1, .ref g2, .int u.2.2])), (g1, .inl (cC, 4096, .inl (fun jx => mb_sg (u.1 jx)))), (g2, .inl (cD, 512, .inl (fun jx => mb_sg (u.2.1 jx))))] := hD
    subst hw_u1
    refine lv_if_eq (tgt := 33) hx hb dX1_load_19 (by decide) (fun c2 => ?_) (fun c2 => ?_)
    · refine lv_iconst (v := 0) hx hb dX1_load_33 (by decide) ?_
      have hP9 := hP.sub (ws' := [(g0, .inr (1, [.int 0, .ref g1, .ref g2, .int u.2.2])), (g1, .inl (cC, 4096, .inl (fun jx => mb_sg (u.1 jx)))), (g2, .inl (cD, 512, .inl (fun jx => mb_sg (u.2.1 jx))))]) [0, 1, 2] rfl
      have hD9 := hD.sub (ws' := [(g0, .inr (1, [.int 0, .ref g1, .ref g2, .int u.2.2])), (g1, .inl (cC, 4096, .inl (fun jx => mb_sg (u.1 jx)))), (g2, .inl (cD, 512, .inl (fun jx => mb_sg (u.2.1 jx))))]) [0, 1, 2] (by decide) rfl
      exact W.zret (v := 0) hx hb hr (by decide) (fun t ht hW => ⟨⟨0, u, rfl, by unfold mb_load; rw [if_neg c1, if_pos c2], by rw [ht]; exact hP9, va_K.moved hW.alike hK, hD9⟩, hS.F ht⟩) hS.2.2 dX1_load_34
    · refine lv_iload_n hx hb dX1_load_22 rfl (lv_at hl 3 rfl) ?_
      refine lv_iload_n hx hb dX1_load_23 rfl (lv_at hl 2 rfl) ?_
      refine lv_sipush (v := 4096) hx hb dX1_load_24 (by decide) ?_
      have hPc := hP.sub (ws' := []) [] rfl
      have hDc := hD.sub (ws' := []) [] (by decide) rfl
      have hKc := hK.sub (tys' := []) [] rfl
      have hFc := va_free (wc := []) hD hS hA [] rfl
      refine va_calli (va_runS (As := [.int a, .int n, .int 4096]) (rest := []) ⟨hx, hb, hml, hown, hts⟩ (c_in l dC dI H.size a n 4096 (by decide)) (va_cwS 3 hts gX1_load_X1_in rfl rfl rfl (by decide +kernel) ⟨Nat.le_of_ble_eq_true rfl, Nat.le_of_ble_eq_true rfl⟩) ⟨fun a U g mk q => by obtain ⟨q0, q1, qP, qK, qD⟩ := q; exact ⟨q0, q1, qP, va_K.moved (u := U) (U := U.calling g mk a) (Vm.Alike.refl U.vm) qK, qD⟩, fun U hU hW => ⟨rfl, by rw [hU], by rw [hU]; exact hPc, va_K.moved hW.alike hKc, hDc.weaken (fun _ _ _ _ => trivial)⟩⟩ rfl rfl hl.1 rfl (lv_room (Nat.le_of_ble_eq_true rfl)) dX1_load_27 ⟨Nat.le_of_ble_eq_true rfl, Nat.le_of_ble_eq_true rfl⟩) hS (fun q _ h => hFc q h) hFc (fun r2 u2 t H1 locs ht hvm hw_u2 hB hz1 hk1 hS => ?_)
      obtain ⟨hP1, hK1, hD1⟩ := hB
      rw [ht] at hP1
      obtain ⟨hP, hD⟩ := va_join (wr := [(g0, .inr (1, [.int 0, .ref g1, .ref g2, .int u.2.2])), (g1, .inl (cC, 4096, .inl (fun jx => mb_sg (u.1 jx)))), (g2, .inl (cD, 512, .inl (fun jx => mb_sg (u.2.1 jx))))]) (w1 := []) hP hD [] [0, 1, 2] rfl rfl (by decide) (by decide) hk1 hFc hP1 hD1
      clear hPc hDc hFc hk1 hP1 hD1 ht
      generalize H1 = H at hP hS ⊢
      have hP : va_P (dC, dI) vwCl [(g0, .inr (1, [.int 0, .ref g1, .ref g2, .int u.2.2])), (g1, .inl (cC, 4096, .inl (fun jx => mb_sg (u.1 jx)))), (g2, .inl (cD, 512, .inl (fun jx => mb_sg (u.2.1 jx))))] H := hP
      have hD : va_D A [(g0, .inr (1, [.int 0, .ref g1, .ref g2, .int u.2.2])), (g1, .inl (cC, 4096, .inl (fun jx => mb_sg (u.1 jx)))), (g2, .inl (cD, 512, .inl (fun jx => mb_sg (u.2.1 jx))))] := hD
      subst hw_u2
      refine lv_if_ne (tgt := 35) hx hb dX1_load_30 (by decide) (fun c3 => ?_) (fun c3 => ?_)
      · have hq := (mb_part_iff hu0).mp c2
        have hq2 := (mb_part_iff (by decide)).mp c3
        rw [mb_4096] at hq2
        refine lv_iconst (v := 0) hx hb dX1_load_35 (by decide) ?_
        refine lv_istore (lv' := [(4, .int 0), (0, .ref g0), (1, .int k), (2, .int n), (3, .int a)]) hx hb dX1_load_36 hl (by decide) rfl (fun ls hl => ?_)
        have hl2 := lv_sub hl [1, 2, 3, 4, 0] rfl
        rw [mb_nI hq.1, mb_nI hq.2.1, mb_nI hq2.1] at hl2
        have hP : va_P (dC, dI) vwCl [(g0, .inr (1, [.int 0, .ref g1, .ref g2, .int u.2.2])), (g1, .inl (cC, 4096, .inl (fun jx => mb_sg ((va_cpy u.2.1 u.1 k.toNatClampNeg a.toNatClampNeg 0) jx)))), (g2, .inl (cD, 512, .inl (fun jx => mb_sg (u.2.1 jx))))] H := by rw [mb_cpy0]; exact hP
        have hD : va_D A [(g0, .inr (1, [.int 0, .ref g1, .ref g2, .int u.2.2])), (g1, .inl (cC, 4096, .inl (fun jx => mb_sg ((va_cpy u.2.1 u.1 k.toNatClampNeg a.toNatClampNeg 0) jx)))), (g2, .inl (cD, 512, .inl (fun jx => mb_sg (u.2.1 jx))))] := by rw [mb_cpy0]; exact hD
        refine lp_mload hx hb hown hts dC dI g0 g1 g2 cC cD u k.toNatClampNeg n.toNatClampNeg a.toNatClampNeg (by rw [mb_cl, mb_cl]; omega) (by rw [mb_cl, mb_cl]; omega) hK n.toNatClampNeg 0 (by omega) _ _ hP hD hS ?_ ls hl2
        intro H locs hP hD hS ls hl
        refine lv_iconst (v := 1) hx hb dX1_load_68 (by decide) ?_
        have hP9 := hP.sub (ws' := [(g0, .inr (1, [.int 0, .ref g1, .ref g2, .int u.2.2])), (g1, .inl (cC, 4096, .inl (fun jx => mb_sg ((va_cpy u.2.1 u.1 k.toNatClampNeg a.toNatClampNeg n.toNatClampNeg) jx)))), (g2, .inl (cD, 512, .inl (fun jx => mb_sg (u.2.1 jx))))]) [0, 1, 2] rfl
        have hD9 := hD.sub (ws' := [(g0, .inr (1, [.int 0, .ref g1, .ref g2, .int u.2.2])), (g1, .inl (cC, 4096, .inl (fun jx => mb_sg ((va_cpy u.2.1 u.1 k.toNatClampNeg a.toNatClampNeg n.toNatClampNeg) jx)))), (g2, .inl (cD, 512, .inl (fun jx => mb_sg (u.2.1 jx))))]) [0, 1, 2] (by decide) rfl
        exact W.zret (v := 1) hx hb hr (by decide) (fun t ht hW => ⟨⟨1, (va_cpy u.2.1 u.1 k.toNatClampNeg a.toNatClampNeg n.toNatClampNeg, u.2.1, u.2.2), rfl, by unfold mb_load; rw [if_neg c1, if_neg c2, if_neg c3], by rw [ht]; exact hP9, va_K.moved hW.alike hK, hD9⟩, hS.F ht⟩) hS.2.2 dX1_load_69
      · refine lv_iconst (v := 0) hx hb dX1_load_33 (by decide) ?_
        have hP9 := hP.sub (ws' := [(g0, .inr (1, [.int 0, .ref g1, .ref g2, .int u.2.2])), (g1, .inl (cC, 4096, .inl (fun jx => mb_sg (u.1 jx)))), (g2, .inl (cD, 512, .inl (fun jx => mb_sg (u.2.1 jx))))]) [0, 1, 2] rfl
        have hD9 := hD.sub (ws' := [(g0, .inr (1, [.int 0, .ref g1, .ref g2, .int u.2.2])), (g1, .inl (cC, 4096, .inl (fun jx => mb_sg (u.1 jx)))), (g2, .inl (cD, 512, .inl (fun jx => mb_sg (u.2.1 jx))))]) [0, 1, 2] (by decide) rfl
        exact W.zret (v := 0) hx hb hr (by decide) (fun t ht hW => ⟨⟨0, u, rfl, by unfold mb_load; rw [if_neg c1, if_neg c2, if_pos c3], by rw [ht]; exact hP9, va_K.moved hW.alike hK, hD9⟩, hS.F ht⟩) hS.2.2 dX1_load_34
set_option maxHeartbeats 1000000 in
set_option maxRecDepth 100000 in
theorem lp_mdump {p : Program} {l : Launch} {e : Env} {R : Room} {s : State} {m : MethodId} {args : Array Value} {below : List Frame} {meth : Method} {c : Code} {cells slots : Nat} {Q : State → Prop} {A : Nat → Prop} {H0 : Heap} (hx : p.tables.exec = Jvm.exec) (hb : c.code = cX1_dump) (hown : s.vm.findClass RX1 = some m.cls) (hts : ∀ w ∈ wsX1_dump, w.before args s = true) (dC : Nat → ClassId) (dI : Nat → Nat → Nat) (g0 g1 g2 : Nat) (cC cD : ClassId) (f g : Nat → Int32) (z n a : Nat) (h1 : z + n ≤ 512) (h2 : a + n ≤ 4096) (hK : va_K (dC, dI) vwCl [(cC, .byte), (cD, .byte)] s) :
    ∀ (i j : Nat), j + i = n → ∀ (H : Heap) (locs : List Loc), va_P (dC, dI) vwCl [(g0, .inr (1, [.int 0, .ref g1, .ref g2, .int (nI (z + (j)))])), (g1, .inl (cC, 4096, .inl (fun jx => mb_sg (f jx)))), (g2, .inl (cD, 512, .inl (fun jx => mb_sg ((va_cpy f g a z (j)) jx))))] H → va_D A [(g0, .inr (1, [.int 0, .ref g1, .ref g2, .int (nI (z + (j)))])), (g1, .inl (cC, 4096, .inl (fun jx => mb_sg (f jx)))), (g2, .inl (cD, 512, .inl (fun jx => mb_sg ((va_cpy f g a z (j)) jx))))] → va_S A H0 H locs → (∀ (H : Heap) (locs : List Loc), va_P (dC, dI) vwCl [(g0, .inr (1, [.int 0, .ref g1, .ref g2, .int (nI (z + (n)))])), (g1, .inl (cC, 4096, .inl (fun jx => mb_sg (f jx)))), (g2, .inl (cD, 512, .inl (fun jx => mb_sg ((va_cpy f g a z (n)) jx))))] H → va_D A [(g0, .inr (1, [.int 0, .ref g1, .ref g2, .int (nI (z + (n)))])), (g1, .inl (cC, 4096, .inl (fun jx => mb_sg (f jx)))), (g2, .inl (cD, 512, .inl (fun jx => mb_sg ((va_cpy f g a z (n)) jx))))] → va_S A H0 H locs → ∀ ls : Array Slot, lv_has ls 4 [(0, .ref g0), (1, .int (nI a)), (2, .int (nI n)), (3, .int (nI (n)))] → W p l e R s m args below meth c H locs cells slots Q (F0 m 77 ls [])) → ∀ ls : Array Slot, lv_has ls 4 [(0, .ref g0), (1, .int (nI a)), (2, .int (nI n)), (3, .int (nI (j)))] → W p l e R s m args below meth c H locs cells slots Q (F0 m 39 ls []) := by
  intro i
  induction i with
  | zero =>
    intro j hj H locs hP hD hS kk ls hl
    obtain rfl : j = n := by omega
    refine lv_iload_n hx hb dX1_dump_39 rfl (lv_at hl 3 rfl) ?_
    refine lv_iload_n hx hb dX1_dump_40 rfl (lv_at hl 2 rfl) ?_
    refine lv_icmp_ge (tgt := 77) hx hb dX1_dump_41 (by decide) (fun c1 => ?_) (fun c1 => ?_)
    · exact kk H locs hP hD hS ls hl
    · exact absurd (nI_le (Nat.le_refl _) (by omega)) c1
  | succ i ih =>
    intro j hj H locs hP hD hS kk ls hl
    refine lv_iload_n hx hb dX1_dump_39 rfl (lv_at hl 3 rfl) ?_
    refine lv_iload_n hx hb dX1_dump_40 rfl (lv_at hl 2 rfl) ?_
    refine lv_icmp_ge (tgt := 77) hx hb dX1_dump_41 (by decide) (fun c1 => ?_) (fun c1 => ?_)
    · exact absurd c1 (nI_ge (by omega) (by omega))
    · refine lv_aload_n hx hb dX1_dump_44 rfl (lv_at hl 0 rfl) ?_
      refine va_get (D := (dC, dI)) (ci := 1) (v := .ref g2) (C := RX1) (T := TX1) (N := 4) hx hb hts (by decide +kernel) hown hK hP 0 rfl rfl 2 (by decide) (hts (.fieldLink RX1 13 "MemoryBankModel" "row" "[B") (by decide +kernel)) (fun _ h9 => h9) rfl dX1_dump_45 ?_
      refine lv_aload_n hx hb dX1_dump_48 rfl (lv_at hl 0 rfl) ?_
      refine va_get (D := (dC, dI)) (ci := 1) (v := .int (nI (z + (j)))) (C := RX1) (T := TX1) (N := 4) hx hb hts (by decide +kernel) hown hK hP 0 rfl rfl 3 (by decide) (hts (.fieldLink RX1 21 "MemoryBankModel" "size" "I") (by decide +kernel)) (fun _ h9 => h9) rfl dX1_dump_49 ?_
      refine lv_aload_n hx hb dX1_dump_52 rfl (lv_at hl 0 rfl) ?_
      refine va_get (D := (dC, dI)) (ci := 1) (v := .ref g1) (C := RX1) (T := TX1) (N := 4) hx hb hts (by decide +kernel) hown hK hP 0 rfl rfl 1 (by decide) (hts (.fieldLink RX1 7 "MemoryBankModel" "memory" "[B") (by decide +kernel)) (fun _ h9 => h9) rfl dX1_dump_53 ?_
      refine lv_iload_n hx hb dX1_dump_56 rfl (lv_at hl 1 rfl) ?_
      refine lv_iload_n hx hb dX1_dump_57 rfl (lv_at hl 3 rfl) ?_
      refine lv_iadd hx hb dX1_dump_58 ?_
      refine lv_topi (fun yv eyv => ?_)
      obtain rfl : yv = nI (a + j) := eyv.trans (nI_add a j)
      refine va_bald hx hb hK hP 1 0 rfl rfl (vp_in_nI (by omega) (by omega)) dX1_dump_59 ?_
      refine lv_topi (fun yv eyv => ?_)
      obtain rfl : yv = mb_sg (f (a + j)) := eyv.trans (by rw [nI_clamp (by omega)])
      refine va_bast hx hb hK hP hD hS 2 1 rfl rfl (vp_in_nI (by omega) (by omega)) dX1_dump_60 (fun H locs hP hD hS => ?_)
      have ew : upd (fun jx => mb_sg ((va_cpy f g a z (j)) jx)) ((nI (z + (j)))).toNatClampNeg (vp_nar .byte (mb_sg (f (a + j)))) = (fun jx => mb_sg ((va_cpy f g a z (j + 1)) jx)) := by rw [nI_clamp (by omega), mb_nar, mb_sgupd, mb_cpy1]
      have hP : va_P (dC, dI) vwCl [(g0, .inr (1, [.int 0, .ref g1, .ref g2, .int (nI (z + (j)))])), (g1, .inl (cC, 4096, .inl (fun jx => mb_sg (f jx)))), (g2, .inl (cD, 512, .inl (upd (fun jx => mb_sg ((va_cpy f g a z (j)) jx)) ((nI (z + (j)))).toNatClampNeg (vp_nar .byte (mb_sg (f (a + j)))))))] H := hP
      have hD : va_D A [(g0, .inr (1, [.int 0, .ref g1, .ref g2, .int (nI (z + (j)))])), (g1, .inl (cC, 4096, .inl (fun jx => mb_sg (f jx)))), (g2, .inl (cD, 512, .inl (upd (fun jx => mb_sg ((va_cpy f g a z (j)) jx)) ((nI (z + (j)))).toNatClampNeg (vp_nar .byte (mb_sg (f (a + j)))))))] := hD
      rw [ew] at hP hD
      clear ew
      have hP : va_P (dC, dI) vwCl [(g0, .inr (1, [.int 0, .ref g1, .ref g2, .int (nI (z + (j)))])), (g1, .inl (cC, 4096, .inl (fun jx => mb_sg (f jx)))), (g2, .inl (cD, 512, .inl (fun jx => mb_sg ((va_cpy f g a z (j + 1)) jx))))] H := hP
      have hD : va_D A [(g0, .inr (1, [.int 0, .ref g1, .ref g2, .int (nI (z + (j)))])), (g1, .inl (cC, 4096, .inl (fun jx => mb_sg (f jx)))), (g2, .inl (cD, 512, .inl (fun jx => mb_sg ((va_cpy f g a z (j + 1)) jx))))] := hD
      refine lv_aload_n hx hb dX1_dump_61 rfl (lv_at hl 0 rfl) ?_
      refine lv_dup hx hb dX1_dump_62 rfl ?_
      refine va_get (D := (dC, dI)) (ci := 1) (v := .int (nI (z + (j)))) (C := RX1) (T := TX1) (N := 4) hx hb hts (by decide +kernel) hown hK hP 0 rfl rfl 3 (by decide) (hts (.fieldLink RX1 21 "MemoryBankModel" "size" "I") (by decide +kernel)) (fun _ h9 => h9) rfl dX1_dump_63 ?_
      refine lv_iconst (v := 1) hx hb dX1_dump_66 (by decide) ?_
      refine lv_iadd hx hb dX1_dump_67 ?_
      refine lv_topi (fun yv eyv => ?_)
      obtain rfl : yv = nI (z + (j + 1)) := eyv.trans (nI_1 (z + j))
      refine va_put (D := (dC, dI)) (ci := 1) (v := .int (nI (z + (j + 1)))) (ty := .int) (C := RX1) (T := TX1) (N := 4) hx hb hts (by decide +kernel) tyX1 tyX1_ok nmX1 hown hK hP hD hS 0 rfl rfl 3 (by decide) (hts (.fieldLink RX1 21 "MemoryBankModel" "size" "I") (by decide +kernel)) (fun _ h9 => h9) rfl (by decide +kernel) rfl rfl (Nat.le_of_ble_eq_true rfl) dX1_dump_68 (fun H locs hP hD hS => ?_)
      have hP : va_P (dC, dI) vwCl [(g0, .inr (1, [.int 0, .ref g1, .ref g2, .int (nI (z + (j + 1)))])), (g1, .inl (cC, 4096, .inl (fun jx => mb_sg (f jx)))), (g2, .inl (cD, 512, .inl (fun jx => mb_sg ((va_cpy f g a z (j + 1)) jx))))] H := hP
      have hD : va_D A [(g0, .inr (1, [.int 0, .ref g1, .ref g2, .int (nI (z + (j + 1)))])), (g1, .inl (cC, 4096, .inl (fun jx => mb_sg (f jx)))), (g2, .inl (cD, 512, .inl (fun jx => mb_sg ((va_cpy f g a z (j + 1)) jx))))] := hD
      refine lv_iinc (v := nI (j + 1)) (lv' := [(3, .int (nI (j + 1))), (0, .ref g0), (1, .int (nI a)), (2, .int (nI n))]) hx hb dX1_dump_71 hl (k := 3) rfl (by rw [← nI_1]; rfl) (by decide) rfl (fun ls hl => ?_)
      refine lv_goto (tgt := 39) hx hb dX1_dump_74 (by decide) ?_
      exact ih (j + 1) (by omega) _ _ hP hD hS kk ls (lv_sub hl [1, 2, 3, 0] rfl)
set_option maxHeartbeats 1000000 in
set_option maxRecDepth 100000 in
/-- the reference: dump -/
theorem c_mdump (l : Launch) (dC : Nat → ClassId) (dI : Nat → Nat → Nat) (sz : Nat) (g0 g1 g2 : Nat) (cC cD : ClassId) (u : Bk_) (a n : Int32) (hu : mb_inv u) : Met l yX1_dump wsX1_dump ({ frames := 1, cells := 0, slots := 0, locals := 22 }) (va_Pc [.ref g0, .int a, .int n] (fun U => U.heap.size = sz ∧ va_P (dC, dI) vwCl [(g0, .inr (1, [.int 0, .ref g1, .ref g2, .int u.2.2])), (g1, .inl (cC, 4096, .inl (fun jx => mb_sg (u.1 jx)))), (g2, .inl (cD, 512, .inl (fun jx => mb_sg (u.2.1 jx))))] U.heap ∧ va_K (dC, dI) vwCl [(cC, .byte), (cD, .byte)] U ∧ va_D (fun _ => True) [(g0, .inr (1, [.int 0, .ref g1, .ref g2, .int u.2.2])), (g1, .inl (cC, 4096, .inl (fun jx => mb_sg (u.1 jx)))), (g2, .inl (cD, 512, .inl (fun jx => mb_sg (u.2.1 jx))))])) (va_Qi (fun (r : Int32) (u2 : Bk_) => mb_dump u a n = (r, u2)) (at_W dC dI (va_A [(g0, .inr (1, [.int 0, .ref g1, .ref g2, .int u.2.2])), (g1, .inl (cC, 4096, .inl (fun jx => mb_sg (u.1 jx)))), (g2, .inl (cD, 512, .inl (fun jx => mb_sg (u.2.1 jx))))] sz) [(cC, .byte), (cD, .byte)] (bw_X1 g0 g1 g2 cC cD)) (va_A [(g0, .inr (1, [.int 0, .ref g1, .ref g2, .int u.2.2])), (g1, .inl (cC, 4096, .inl (fun jx => mb_sg (u.1 jx)))), (g2, .inl (cD, 512, .inl (fun jx => mb_sg (u.2.1 jx))))] sz)) 0 0 (va_A [(g0, .inr (1, [.int 0, .ref g1, .ref g2, .int u.2.2])), (g1, .inl (cC, 4096, .inl (fun jx => mb_sg (u.1 jx)))), (g2, .inl (cD, 512, .inl (fun jx => mb_sg (u.2.1 jx))))] sz) := by
  refine Met.ofW (cc := cX1_dump) (maxL := 4) (ret := (some .boolean)) (by decide) rfl ?_
  intro p e s m args below meth c s₁ B hml hv
  obtain ⟨rfl, hsz, hP, hK, hD0⟩ := hv
  have hx := B.exec
  have hb := B.bytes
  have hr := B.returns
  have hts := atoms_spec (ws := wsX1_dump) B.pre
  have hown : s.vm.findClass RX1 = some m.cls := findClass_of_methodNamed B.named
  have hlocks := B.notSynchronized
  subst hsz
  have hD := hD0.self (sz := s.heap.size)
  generalize hAe : va_A [(g0, .inr (1, [.int 0, .ref g1, .ref g2, .int u.2.2])), (g1, .inl (cC, 4096, .inl (fun jx => mb_sg (u.1 jx)))), (g2, .inl (cD, 512, .inl (fun jx => mb_sg (u.2.1 jx))))] s.heap.size = A at hD ⊢
  have hA : ∀ q : Nat, s.heap.size ≤ q → A q := fun q h => by rw [← hAe]; exact Or.inr h
  have hS : va_S A s.heap s.heap [] := va_S.rf
  have hP : va_P (dC, dI) vwCl [(g0, .inr (1, [.int 0, .ref g1, .ref g2, .int u.2.2])), (g1, .inl (cC, 4096, .inl (fun jx => mb_sg (u.1 jx)))), (g2, .inl (cD, 512, .inl (fun jx => mb_sg (u.2.1 jx))))] s.heap := hP
  have hl := lv_entry ([.ref g0, .int a, .int n]) (n := 4) (Nat.le_of_ble_eq_true rfl)
  rw [lg_entry_eq]
  generalize (lg_sl ([.ref g0, .int a, .int n]) ++ List.replicate (4 - (lg_sl ([.ref g0, .int a, .int n])).length) Slot.unset).toArray = ls at hl ⊢
  have hl : lv_has ls 4 [(0, .ref g0), (1, .int a), (2, .int n)] := hl
  have hu0 := hu.1.1
  have hu2 := hu.1.2
  refine lv_aload_n hx hb dX1_dump_0 rfl (lv_at hl 0 rfl) ?_
  refine lv_iconst (v := 0) hx hb dX1_dump_1 (by decide) ?_
  refine va_put (D := (dC, dI)) (ci := 1) (v := .int 0) (ty := .int) (C := RX1) (T := TX1) (N := 4) hx hb hts (by decide +kernel) tyX1 tyX1_ok nmX1 hown hK hP hD hS 0 rfl rfl 0 (by decide) (hts (.fieldLink RX1 16 "MemoryBankModel" "thrown" "I") (by decide +kernel)) (fun _ h9 => h9) rfl (by decide +kernel) rfl rfl (Nat.le_of_ble_eq_true rfl) dX1_dump_2 (fun H locs hP hD hS => ?_)
  have hP : va_P (dC, dI) vwCl [(g0, .inr (1, [.int 0, .ref g1, .ref g2, .int u.2.2])), (g1, .inl (cC, 4096, .inl (fun jx => mb_sg (u.1 jx)))), (g2, .inl (cD, 512, .inl (fun jx => mb_sg (u.2.1 jx))))] H := hP
  have hD : va_D A [(g0, .inr (1, [.int 0, .ref g1, .ref g2, .int u.2.2])), (g1, .inl (cC, 4096, .inl (fun jx => mb_sg (u.1 jx)))), (g2, .inl (cD, 512, .inl (fun jx => mb_sg (u.2.1 jx))))] := hD
  refine lv_iload_n hx hb dX1_dump_5 rfl (lv_at hl 2 rfl) ?_
  refine lv_iconst (v := 1) hx hb dX1_dump_6 (by decide) ?_
  refine lv_icmp_lt (tgt := 35) hx hb dX1_dump_7 (by decide) (fun c1 => ?_) (fun c1 => ?_)
  · refine lv_iconst (v := 0) hx hb dX1_dump_35 (by decide) ?_
    have hP9 := hP.sub (ws' := [(g0, .inr (1, [.int 0, .ref g1, .ref g2, .int u.2.2])), (g1, .inl (cC, 4096, .inl (fun jx => mb_sg (u.1 jx)))), (g2, .inl (cD, 512, .inl (fun jx => mb_sg (u.2.1 jx))))]) [0, 1, 2] rfl
    have hD9 := hD.sub (ws' := [(g0, .inr (1, [.int 0, .ref g1, .ref g2, .int u.2.2])), (g1, .inl (cC, 4096, .inl (fun jx => mb_sg (u.1 jx)))), (g2, .inl (cD, 512, .inl (fun jx => mb_sg (u.2.1 jx))))]) [0, 1, 2] (by decide) rfl
    exact W.zret (v := 0) hx hb hr (by decide) (fun t ht hW => ⟨⟨0, u, rfl, by unfold mb_dump; rw [if_pos c1], by rw [ht]; exact hP9, va_K.moved hW.alike hK, hD9⟩, hS.F ht⟩) hS.2.2 dX1_dump_36
  · refine lv_iload_n hx hb dX1_dump_10 rfl (lv_at hl 1 rfl) ?_
    refine lv_iload_n hx hb dX1_dump_11 rfl (lv_at hl 2 rfl) ?_
    refine lv_sipush (v := 4096) hx hb dX1_dump_12 (by decide) ?_
    have hPc := hP.sub (ws' := []) [] rfl
    have hDc := hD.sub (ws' := []) [] (by decide) rfl
    have hKc := hK.sub (tys' := []) [] rfl
    have hFc := va_free (wc := []) hD hS hA [] rfl
    refine va_calli (va_runS (As := [.int a, .int n, .int 4096]) (rest := []) ⟨hx, hb, hml, hown, hts⟩ (c_in l dC dI H.size a n 4096 (by decide)) (va_cwS 3 hts gX1_dump_X1_in rfl rfl rfl (by decide +kernel) ⟨Nat.le_of_ble_eq_true rfl, Nat.le_of_ble_eq_true rfl⟩) ⟨fun a U g mk q => by obtain ⟨q0, q1, qP, qK, qD⟩ := q; exact ⟨q0, q1, qP, va_K.moved (u := U) (U := U.calling g mk a) (Vm.Alike.refl U.vm) qK, qD⟩, fun U hU hW => ⟨rfl, by rw [hU], by rw [hU]; exact hPc, va_K.moved hW.alike hKc, hDc.weaken (fun _ _ _ _ => trivial)⟩⟩ rfl rfl hl.1 rfl (lv_room (Nat.le_of_ble_eq_true rfl)) dX1_dump_15 ⟨Nat.le_of_ble_eq_true rfl, Nat.le_of_ble_eq_true rfl⟩) hS (fun q _ h => hFc q h) hFc (fun r1 u1 t H1 locs ht hvm hw_u1 hB hz1 hk1 hS => ?_)
    obtain ⟨hP1, hK1, hD1⟩ := hB
    rw [ht] at hP1
    obtain ⟨hP, hD⟩ := va_join (wr := [(g0, .inr (1, [.int 0, .ref g1, .ref g2, .int u.2.2])), (g1, .inl (cC, 4096, .inl (fun jx => mb_sg (u.1 jx)))), (g2, .inl (cD, 512, .inl (fun jx => mb_sg (u.2.1 jx))))]) (w1 := []) hP hD [] [0, 1, 2] rfl rfl (by decide) (by decide) hk1 hFc hP1 hD1
    clear hPc hDc hFc hk1 hP1 hD1 ht
    generalize H1 = H at hP hS ⊢
    have hP : va_P (dC, dI) vwCl [(g0, .inr (1, [.int 0, .ref g1, .ref g2, .int u.2.2])), (g1, .inl (cC, 4096, .inl (fun jx => mb_sg (u.1 jx)))), (g2, .inl (cD, 512, .inl (fun jx => mb_sg (u.2.1 jx))))] H := hP
    have hD : va_D A [(g0, .inr (1, [.int 0, .ref g1, .ref g2, .int u.2.2])), (g1, .inl (cC, 4096, .inl (fun jx => mb_sg (u.1 jx)))), (g2, .inl (cD, 512, .inl (fun jx => mb_sg (u.2.1 jx))))] := hD
    subst hw_u1
    refine lv_if_eq (tgt := 35) hx hb dX1_dump_18 (by decide) (fun c2 => ?_) (fun c2 => ?_)
    · refine lv_iconst (v := 0) hx hb dX1_dump_35 (by decide) ?_
      have hP9 := hP.sub (ws' := [(g0, .inr (1, [.int 0, .ref g1, .ref g2, .int u.2.2])), (g1, .inl (cC, 4096, .inl (fun jx => mb_sg (u.1 jx)))), (g2, .inl (cD, 512, .inl (fun jx => mb_sg (u.2.1 jx))))]) [0, 1, 2] rfl
      have hD9 := hD.sub (ws' := [(g0, .inr (1, [.int 0, .ref g1, .ref g2, .int u.2.2])), (g1, .inl (cC, 4096, .inl (fun jx => mb_sg (u.1 jx)))), (g2, .inl (cD, 512, .inl (fun jx => mb_sg (u.2.1 jx))))]) [0, 1, 2] (by decide) rfl
      exact W.zret (v := 0) hx hb hr (by decide) (fun t ht hW => ⟨⟨0, u, rfl, by unfold mb_dump; rw [if_neg c1, if_pos c2], by rw [ht]; exact hP9, va_K.moved hW.alike hK, hD9⟩, hS.F ht⟩) hS.2.2 dX1_dump_36
    · refine lv_aload_n hx hb dX1_dump_21 rfl (lv_at hl 0 rfl) ?_
      refine va_get (D := (dC, dI)) (ci := 1) (v := .int u.2.2) (C := RX1) (T := TX1) (N := 4) hx hb hts (by decide +kernel) hown hK hP 0 rfl rfl 3 (by decide) (hts (.fieldLink RX1 21 "MemoryBankModel" "size" "I") (by decide +kernel)) (fun _ h9 => h9) rfl dX1_dump_22 ?_
      refine lv_iload_n hx hb dX1_dump_25 rfl (lv_at hl 2 rfl) ?_
      refine lv_sipush (v := 512) hx hb dX1_dump_26 (by decide) ?_
      have hPc := hP.sub (ws' := []) [] rfl
      have hDc := hD.sub (ws' := []) [] (by decide) rfl
      have hKc := hK.sub (tys' := []) [] rfl
      have hFc := va_free (wc := []) hD hS hA [] rfl
      refine va_calli (va_runS (As := [.int u.2.2, .int n, .int 512]) (rest := []) ⟨hx, hb, hml, hown, hts⟩ (c_in l dC dI H.size u.2.2 n 512 (by decide)) (va_cwS 3 hts gX1_dump_X1_in rfl rfl rfl (by decide +kernel) ⟨Nat.le_of_ble_eq_true rfl, Nat.le_of_ble_eq_true rfl⟩) ⟨fun a U g mk q => by obtain ⟨q0, q1, qP, qK, qD⟩ := q; exact ⟨q0, q1, qP, va_K.moved (u := U) (U := U.calling g mk a) (Vm.Alike.refl U.vm) qK, qD⟩, fun U hU hW => ⟨rfl, by rw [hU], by rw [hU]; exact hPc, va_K.moved hW.alike hKc, hDc.weaken (fun _ _ _ _ => trivial)⟩⟩ rfl rfl hl.1 rfl (lv_room (Nat.le_of_ble_eq_true rfl)) dX1_dump_29 ⟨Nat.le_of_ble_eq_true rfl, Nat.le_of_ble_eq_true rfl⟩) hS (fun q _ h => hFc q h) hFc (fun r2 u2 t H1 locs ht hvm hw_u2 hB hz1 hk1 hS => ?_)
      obtain ⟨hP1, hK1, hD1⟩ := hB
      rw [ht] at hP1
      obtain ⟨hP, hD⟩ := va_join (wr := [(g0, .inr (1, [.int 0, .ref g1, .ref g2, .int u.2.2])), (g1, .inl (cC, 4096, .inl (fun jx => mb_sg (u.1 jx)))), (g2, .inl (cD, 512, .inl (fun jx => mb_sg (u.2.1 jx))))]) (w1 := []) hP hD [] [0, 1, 2] rfl rfl (by decide) (by decide) hk1 hFc hP1 hD1
      clear hPc hDc hFc hk1 hP1 hD1 ht
      generalize H1 = H at hP hS ⊢
      have hP : va_P (dC, dI) vwCl [(g0, .inr (1, [.int 0, .ref g1, .ref g2, .int u.2.2])), (g1, .inl (cC, 4096, .inl (fun jx => mb_sg (u.1 jx)))), (g2, .inl (cD, 512, .inl (fun jx => mb_sg (u.2.1 jx))))] H := hP
      have hD : va_D A [(g0, .inr (1, [.int 0, .ref g1, .ref g2, .int u.2.2])), (g1, .inl (cC, 4096, .inl (fun jx => mb_sg (u.1 jx)))), (g2, .inl (cD, 512, .inl (fun jx => mb_sg (u.2.1 jx))))] := hD
      subst hw_u2
      refine lv_if_ne (tgt := 37) hx hb dX1_dump_32 (by decide) (fun c3 => ?_) (fun c3 => ?_)
      · have hq := (mb_part_iff (by decide)).mp c2
        rw [mb_4096] at hq
        have hq2 := (mb_part_iff (by decide)).mp c3
        rw [mb_512] at hq2
        have c4 : ¬ mb_room n u.2.2 = 0 := (mb_room_iff hu0).mpr (by omega)
        have ez := mb_nI hu0
        have en := mb_nI hq.2.1
        refine lv_iconst (v := 0) hx hb dX1_dump_37 (by decide) ?_
        refine lv_istore_n (lv' := [(3, .int 0), (0, .ref g0), (1, .int a), (2, .int n)]) hx hb dX1_dump_38 rfl hl (by decide) rfl (fun ls hl => ?_)
        have hl2 := lv_sub hl [1, 2, 3, 0] rfl
        rw [mb_nI hq.1, mb_nI hq.2.1] at hl2
        have hP : va_P (dC, dI) vwCl [(g0, .inr (1, [.int 0, .ref g1, .ref g2, .int (nI (u.2.2.toNatClampNeg + 0))])), (g1, .inl (cC, 4096, .inl (fun jx => mb_sg (u.1 jx)))), (g2, .inl (cD, 512, .inl (fun jx => mb_sg ((va_cpy u.1 u.2.1 a.toNatClampNeg u.2.2.toNatClampNeg 0) jx))))] H := by rw [mb_cpy0, Nat.add_zero, ← ez]; exact hP
        have hD : va_D A [(g0, .inr (1, [.int 0, .ref g1, .ref g2, .int (nI (u.2.2.toNatClampNeg + 0))])), (g1, .inl (cC, 4096, .inl (fun jx => mb_sg (u.1 jx)))), (g2, .inl (cD, 512, .inl (fun jx => mb_sg ((va_cpy u.1 u.2.1 a.toNatClampNeg u.2.2.toNatClampNeg 0) jx))))] := by rw [mb_cpy0, Nat.add_zero, ← ez]; exact hD
        refine lp_mdump hx hb hown hts dC dI g0 g1 g2 cC cD u.1 u.2.1 u.2.2.toNatClampNeg n.toNatClampNeg a.toNatClampNeg (by rw [mb_cl, mb_cl]; omega) (by rw [mb_cl, mb_cl]; omega) hK n.toNatClampNeg 0 (by omega) _ _ hP hD hS ?_ ls hl2
        intro H locs hP hD hS ls hl
        have esum : nI (u.2.2.toNatClampNeg + n.toNatClampNeg) = u.2.2 + n := by rw [← nI_add, ← ez, ← en]
        rw [esum] at hP hD
        have hP : va_P (dC, dI) vwCl [(g0, .inr (1, [.int 0, .ref g1, .ref g2, .int (u.2.2 + n)])), (g1, .inl (cC, 4096, .inl (fun jx => mb_sg (u.1 jx)))), (g2, .inl (cD, 512, .inl (fun jx => mb_sg ((va_cpy u.1 u.2.1 a.toNatClampNeg u.2.2.toNatClampNeg n.toNatClampNeg) jx))))] H := hP
        have hD : va_D A [(g0, .inr (1, [.int 0, .ref g1, .ref g2, .int (u.2.2 + n)])), (g1, .inl (cC, 4096, .inl (fun jx => mb_sg (u.1 jx)))), (g2, .inl (cD, 512, .inl (fun jx => mb_sg ((va_cpy u.1 u.2.1 a.toNatClampNeg u.2.2.toNatClampNeg n.toNatClampNeg) jx))))] := hD
        refine lv_iconst (v := 1) hx hb dX1_dump_77 (by decide) ?_
        have hP9 := hP.sub (ws' := [(g0, .inr (1, [.int 0, .ref g1, .ref g2, .int (u.2.2 + n)])), (g1, .inl (cC, 4096, .inl (fun jx => mb_sg (u.1 jx)))), (g2, .inl (cD, 512, .inl (fun jx => mb_sg ((va_cpy u.1 u.2.1 a.toNatClampNeg u.2.2.toNatClampNeg n.toNatClampNeg) jx))))]) [0, 1, 2] rfl
        have hD9 := hD.sub (ws' := [(g0, .inr (1, [.int 0, .ref g1, .ref g2, .int (u.2.2 + n)])), (g1, .inl (cC, 4096, .inl (fun jx => mb_sg (u.1 jx)))), (g2, .inl (cD, 512, .inl (fun jx => mb_sg ((va_cpy u.1 u.2.1 a.toNatClampNeg u.2.2.toNatClampNeg n.toNatClampNeg) jx))))]) [0, 1, 2] (by decide) rfl
        exact W.zret (v := 1) hx hb hr (by decide) (fun t ht hW => ⟨⟨1, (u.1, va_cpy u.1 u.2.1 a.toNatClampNeg u.2.2.toNatClampNeg n.toNatClampNeg, u.2.2 + n), rfl, by unfold mb_dump; rw [if_neg c1, if_neg c2, if_neg c4], by rw [ht]; exact hP9, va_K.moved hW.alike hK, hD9⟩, hS.F ht⟩) hS.2.2 dX1_dump_78
      · have hq := (mb_part_iff (by decide)).mp c2
        have c4 : mb_room n u.2.2 = 0 := Classical.byContradiction fun q => by have q2 := (mb_room_iff hu0).mp q; exact (mb_part_iff (a := u.2.2) (b := n) (c := 512) (by decide)).mpr ⟨hu0, hq.2.1, by rw [mb_512]; omega⟩ c3
        refine lv_iconst (v := 0) hx hb dX1_dump_35 (by decide) ?_
        have hP9 := hP.sub (ws' := [(g0, .inr (1, [.int 0, .ref g1, .ref g2, .int u.2.2])), (g1, .inl (cC, 4096, .inl (fun jx => mb_sg (u.1 jx)))), (g2, .inl (cD, 512, .inl (fun jx => mb_sg (u.2.1 jx))))]) [0, 1, 2] rfl
        have hD9 := hD.sub (ws' := [(g0, .inr (1, [.int 0, .ref g1, .ref g2, .int u.2.2])), (g1, .inl (cC, 4096, .inl (fun jx => mb_sg (u.1 jx)))), (g2, .inl (cD, 512, .inl (fun jx => mb_sg (u.2.1 jx))))]) [0, 1, 2] (by decide) rfl
        exact W.zret (v := 0) hx hb hr (by decide) (fun t ht hW => ⟨⟨0, u, rfl, by unfold mb_dump; rw [if_neg c1, if_neg c2, if_pos c4], by rw [ht]; exact hP9, va_K.moved hW.alike hK, hD9⟩, hS.F ht⟩) hS.2.2 dX1_dump_36
end
section
theorem mb_new4096 (cA : ClassId) : vp_cell cA (4096, .inl (fun jx => mb_sg ((fun _ => 0 : Nat → Int32) jx))) = arrV cA 4096 (fun _ => defaultValue .byte) := by
  show arrV cA 4096 (fun _ => .int (mb_sg 0)) = _
  rw [show mb_sg 0 = 0 from by decide]
  rfl
theorem mb_new512 (cA : ClassId) : vp_cell cA (512, .inl (fun jx => mb_sg ((fun _ => 0 : Nat → Int32) jx))) = arrV cA 512 (fun _ => defaultValue .byte) := by
  show arrV cA 512 (fun _ => .int (mb_sg 0)) = _
  rw [show mb_sg 0 = 0 from by decide]
  rfl
set_option maxHeartbeats 400000 in
set_option maxRecDepth 100000 in
/-- the reference: a new object -/
theorem c_X1_init (l : Launch) (dC : Nat → ClassId) (dI : Nat → Nat → Nat) (sz : Nat) (g0 : Nat)  : Met l yX1_init wsX1_init ({ frames := 1, cells := 2, slots := 4608, locals := 12 }) (va_Pc [.ref g0] (fun U => U.heap.size = sz ∧ va_P (dC, dI) vwCl [(g0, .inr (1, [.int 0, .null, .null, .int 0]))] U.heap ∧ va_K (dC, dI) vwCl [] U ∧ va_D (fun _ => True) [(g0, .inr (1, [.int 0, .null, .null, .int 0]))])) (va_Qv (fun (u2 : (Nat × Nat) × (ClassId × ClassId)) => True) (at_N dC dI (va_A [(g0, .inr (1, [.int 0, .null, .null, .int 0]))] sz) (fun q => bw_X1 g0 q.1.1 q.1.2 q.2.1 q.2.2 (fun _ => 0, fun _ => 0, 0)) (fun q => [(q.2.1, .byte), (q.2.2, .byte)])) (va_A [(g0, .inr (1, [.int 0, .null, .null, .int 0]))] sz)) 2 4608 (va_A [(g0, .inr (1, [.int 0, .null, .null, .int 0]))] sz) := by
  refine Met.ofW (cc := cX1_init) (maxL := 1) (ret := none) (by decide) rfl ?_
  intro p e s m args below meth c s₁ B hml hv
  obtain ⟨rfl, hsz, hP, hK, hD0⟩ := hv
  have hx := B.exec
  have hb := B.bytes
  have hr := B.returns
  have hts := atoms_spec (ws := wsX1_init) B.pre
  have hown : s.vm.findClass RX1 = some m.cls := findClass_of_methodNamed B.named
  have hlocks := B.notSynchronized
  have hin : meth.name = "<init>" := (name_of_methodNamed B.named B.method).1
  subst hsz
  have hD := hD0.self (sz := s.heap.size)
  generalize hAe : va_A [(g0, .inr (1, [.int 0, .null, .null, .int 0]))] s.heap.size = A at hD ⊢
  have hA : ∀ q : Nat, s.heap.size ≤ q → A q := fun q h => by rw [← hAe]; exact Or.inr h
  have hS : va_S A s.heap s.heap [] := va_S.rf
  have hP : va_P (dC, dI) vwCl [(g0, .inr (1, [.int 0, .null, .null, .int 0]))] s.heap := hP
  have hl := lv_entry ([.ref g0]) (n := 1) (Nat.le_of_ble_eq_true rfl)
  rw [lg_entry_eq]
  generalize (lg_sl ([.ref g0]) ++ List.replicate (1 - (lg_sl ([.ref g0])).length) Slot.unset).toArray = ls at hl ⊢
  have hl : lv_has ls 1 [(0, .ref g0)] := hl
  refine lv_aload_n hx hb dX1_init_0 rfl (lv_at hl 0 rfl) ?_
  refine W.objInit hx hb hown (hts (.methodLink RX1 1 objectInit) (by decide +kernel)) (hts (.instanceMethod objectInit) (by decide +kernel)) (hts _ (List.mem_of_getElem? (l := wsX1_init) (i := 3) rfl)) rfl (by rw [hml]; exact hl.1) rfl dX1_init_1 (Nat.le_of_ble_eq_true rfl) (Nat.le_of_ble_eq_true rfl) ?_
  refine W.eq (g2 := F0 m 4 ls []) rfl ?_
  refine lv_aload_n hx hb dX1_init_4 rfl (lv_at hl 0 rfl) ?_
  refine lv_sipush (v := 4096) hx hb dX1_init_5 (by decide) ?_
  refine va_newa (atype := .byte) (N' := 4096) (a0 := (4096, .inl (fun jx => mb_sg ((fun _ => 0 : Nat → Int32) jx)))) (ty := .byte) (n := 4096) hx hb (hts (.arrayClass .byte) (by decide +kernel)) rfl hK hP hD hS hA mb_new4096 (by decide +kernel) (by decide +kernel) (by decide +kernel) (by decide +kernel) (by decide +kernel) dX1_init_8 (fun g1 cC H hK hP hD hS => ?_)
  have hP : va_P (dC, dI) vwCl [(g0, .inr (1, [.int 0, .null, .null, .int 0])), (g1, .inl (cC, 4096, .inl (fun jx => mb_sg ((fun _ => 0 : Nat → Int32) jx))))] H := hP
  have hD : va_D A [(g0, .inr (1, [.int 0, .null, .null, .int 0])), (g1, .inl (cC, 4096, .inl (fun jx => mb_sg ((fun _ => 0 : Nat → Int32) jx))))] := hD
  have hK : va_K (dC, dI) vwCl [(cC, .byte)] s := hK
  refine W.widen (k := 1) (n := 4096) (Nat.le_of_ble_eq_true rfl) (Nat.le_of_ble_eq_true rfl) ?_
  refine va_putF (D := (dC, dI)) (ci := 1) (v := .ref g1) (ty := .array .byte) (C := RX1) (T := TX1) (N := 4) hx hb hts (by decide +kernel) tyX1 tyX1_ok nmX1 hown hK hP hD hS 0 rfl rfl 1 (by decide) (hts (.fieldLink RX1 7 "MemoryBankModel" "memory" "[B") (by decide +kernel)) (fun _ h9 => h9) rfl hin rfl (by decide +kernel) rfl rfl (Nat.le_of_ble_eq_true rfl) dX1_init_10 (fun H locs hP hD hS => ?_)
  have hP : va_P (dC, dI) vwCl [(g0, .inr (1, [.int 0, .ref g1, .null, .int 0])), (g1, .inl (cC, 4096, .inl (fun jx => mb_sg ((fun _ => 0 : Nat → Int32) jx))))] H := hP
  have hD : va_D A [(g0, .inr (1, [.int 0, .ref g1, .null, .int 0])), (g1, .inl (cC, 4096, .inl (fun jx => mb_sg ((fun _ => 0 : Nat → Int32) jx))))] := hD
  refine lv_aload_n hx hb dX1_init_13 rfl (lv_at hl 0 rfl) ?_
  refine lv_sipush (v := 512) hx hb dX1_init_14 (by decide) ?_
  refine va_newa (atype := .byte) (N' := 512) (a0 := (512, .inl (fun jx => mb_sg ((fun _ => 0 : Nat → Int32) jx)))) (ty := .byte) (n := 512) hx hb (hts (.arrayClass .byte) (by decide +kernel)) rfl hK hP hD hS hA mb_new512 (by decide +kernel) (by decide +kernel) (by decide +kernel) (by decide +kernel) (by decide +kernel) dX1_init_17 (fun g2 cD H hK hP hD hS => ?_)
  have hP : va_P (dC, dI) vwCl [(g0, .inr (1, [.int 0, .ref g1, .null, .int 0])), (g1, .inl (cC, 4096, .inl (fun jx => mb_sg ((fun _ => 0 : Nat → Int32) jx)))), (g2, .inl (cD, 512, .inl (fun jx => mb_sg ((fun _ => 0 : Nat → Int32) jx))))] H := hP
  have hD : va_D A [(g0, .inr (1, [.int 0, .ref g1, .null, .int 0])), (g1, .inl (cC, 4096, .inl (fun jx => mb_sg ((fun _ => 0 : Nat → Int32) jx)))), (g2, .inl (cD, 512, .inl (fun jx => mb_sg ((fun _ => 0 : Nat → Int32) jx))))] := hD
  have hK : va_K (dC, dI) vwCl [(cC, .byte), (cD, .byte)] s := hK
  refine W.widen (k := 2) (n := 4608) (Nat.le_of_ble_eq_true rfl) (Nat.le_of_ble_eq_true rfl) ?_
  refine va_putF (D := (dC, dI)) (ci := 1) (v := .ref g2) (ty := .array .byte) (C := RX1) (T := TX1) (N := 4) hx hb hts (by decide +kernel) tyX1 tyX1_ok nmX1 hown hK hP hD hS 0 rfl rfl 2 (by decide) (hts (.fieldLink RX1 13 "MemoryBankModel" "row" "[B") (by decide +kernel)) (fun _ h9 => h9) rfl hin rfl (by decide +kernel) rfl rfl (Nat.le_of_ble_eq_true rfl) dX1_init_19 (fun H locs hP hD hS => ?_)
  have hP : va_P (dC, dI) vwCl [(g0, .inr (1, [.int 0, .ref g1, .ref g2, .int 0])), (g1, .inl (cC, 4096, .inl (fun jx => mb_sg ((fun _ => 0 : Nat → Int32) jx)))), (g2, .inl (cD, 512, .inl (fun jx => mb_sg ((fun _ => 0 : Nat → Int32) jx))))] H := hP
  have hD : va_D A [(g0, .inr (1, [.int 0, .ref g1, .ref g2, .int 0])), (g1, .inl (cC, 4096, .inl (fun jx => mb_sg ((fun _ => 0 : Nat → Int32) jx)))), (g2, .inl (cD, 512, .inl (fun jx => mb_sg ((fun _ => 0 : Nat → Int32) jx))))] := hD
  have hP9 := hP.sub (ws' := [(g0, .inr (1, [.int 0, .ref g1, .ref g2, .int 0])), (g1, .inl (cC, 4096, .inl (fun jx => mb_sg ((fun _ => 0 : Nat → Int32) jx)))), (g2, .inl (cD, 512, .inl (fun jx => mb_sg ((fun _ => 0 : Nat → Int32) jx))))]) [0, 1, 2] rfl
  have hD9 := hD.sub (ws' := [(g0, .inr (1, [.int 0, .ref g1, .ref g2, .int 0])), (g1, .inl (cC, 4096, .inl (fun jx => mb_sg ((fun _ => 0 : Nat → Int32) jx)))), (g2, .inl (cD, 512, .inl (fun jx => mb_sg ((fun _ => 0 : Nat → Int32) jx))))]) [0, 1, 2] (by decide) rfl
  exact W.vret hx hb hr (fun t ht hW => ⟨⟨((g1, g2), (cC, cD)), rfl, trivial, by rw [ht]; exact hP9, va_K.moved hW.alike hK, hD9⟩, hS.F ht⟩) hS.2.2 dX1_init_22
end
section
-- ===== end of PART A; then your names; then what follows =====
/-! THE CLAIM OUT OF ONE WALK OF THE LAW'S BODY. Your part is whole_start (and what it stands on); all else here is the same for every law, but numbers. -/
def R_law : String := "MemoryBankLaw"
def lw_P (b : Addr) (xs : List Int32) (args : Array Value) (s : State) : Prop := args = #[.ref b] ∧ s.IntsAt b xs ∧ xs.length ≤ 2048 ∧ (Jvm.Cond.and given_1 narrow_1).before args s = true
def lw_Q (_ : Array Value) (s : State) (o : Outcome) (t : State) : Prop := o = .returned (some (.int 1)) ∧ Framed s o t [] 6 9223
def lw_Z (below : List Frame) (a : Array Value) (s : State) : State → Prop := fun t => ∃ o, t.status = .running ∧ Ended t below o ∧ lw_Q a s o t
/-- the law's own end, with 1 on the stack, nothing written that was there before, its room as the claim has it -/
theorem lw_ret {p : Program} {l : Launch} {e : Env} {s : State} {m : MethodId} {below : List Frame} {meth : Method} {c : Code} {b : Nat} (hx : p.tables.exec = Jvm.exec) (hb : c.code = code) (hr : meth.sig.returnType = ret) (hlocks : meth.locks = false) {pc : Nat} {H : Heap} {ls : Array Slot} (hdg : decode code pc = .ok (.ireturn, 1)) : W p l e room_1 s m #[Value.ref b] below meth c H [] 6 9223 (lw_Z below #[Value.ref b] s) (F0 m pc ls [.int 1]) := by
  intro T hT X
  obtain ⟨fs, hret, hrun, hended, hW, hframe⟩ := X.leave (v := some (.int 1)) (hlocks := hlocks) (fun h => by rw [hr] at h; cases h)
  have hmeth' : T.vm.method? m = some meth := X.method'
  refine ⟨T.setFrames fs, ?_, .returned (some (.int 1)), hrun, hended, rfl, ⟨_, rfl⟩, hW, hframe⟩
  jvm_step X.here [X.here.top, hx, hb, hdg, hmeth', hr, ret, narrow_b1]
  (try refine ⟨rfl, ?_⟩); (try refine ⟨rfl, ?_⟩)
  first | (intro acts; rw [hret _ acts rfl rfl rfl]) | rw [hret _ _ rfl rfl rfl]
  exact Steps.refl _
/-- what holds at the law's entry: the machine, the code, the tables' words (any of lw_tbl by 'hts w (by decide +kernel)'), the script of L ints xs at the cell b, what the Statement gives of the start (any of its parts by flat_of_before) -/
def lw_At (p : Program) (s : State) (m : MethodId) (meth : Method) (c : Code) (b L : Nat) (xs : Nat → Int32) : Prop :=
  p.tables.exec = Jvm.exec ∧ c.code = code ∧ meth.sig.returnType = ret ∧ c.maxLocals = 4 ∧ s.vm.findClass R_law = some m.cls ∧ (∀ w ∈ lw_tbl, w.before #[Value.ref b] s = true) ∧ va_X b L xs s s.heap ∧ b < s.heap.size ∧ meth.locks = false ∧ (Jvm.Cond.and given_1 narrow_1).before #[Value.ref b] s = true
-- ===== YOUR PART BEGINS =====
end
section
set_option maxHeartbeats 2000000 in
set_option maxRecDepth 100000 in
/-- the law at put: both answer alike, and stand alike behind it -/
theorem lo_put {p : Program} {l : Launch} {e : Env} {s : State} {m : MethodId} {below : List Frame} {meth : Method} {c : Code} {dC : Nat → ClassId} {dI : Nat → Nat → Nat} {b L : Nat} {xs : Nat → Int32} (hL : L ≤ 2048) (C0 : lw_At p s m meth c b L xs) {h0 h1 h2 g0 g1 g2 : Nat} {cA cB cC cD : ClassId} (hK : va_K (dC, dI) vwCl [(cA, .int), (cB, .int), (cC, .byte), (cD, .byte)] s) {i : Nat} (hi : i + 4 ≤ L) (kk : ∀ (u : Bk_) (H : Heap) (locs : List Loc) (ls : Array Slot), mb_inv u → va_P (dC, dI) vwCl [(h0, .inr (0, [.ref h1, .ref h2, .int u.2.2])), (h1, .inl (cA, 4096, .inl u.1)), (h2, .inl (cB, 512, .inl u.2.1)), (g0, .inr (1, [.int 0, .ref g1, .ref g2, .int u.2.2])), (g1, .inl (cC, 4096, .inl (fun jx => mb_sg (u.1 jx)))), (g2, .inl (cD, 512, .inl (fun jx => mb_sg (u.2.1 jx))))] H → va_D (fun q : Nat => s.heap.size ≤ q) [(h0, .inr (0, [.ref h1, .ref h2, .int u.2.2])), (h1, .inl (cA, 4096, .inl u.1)), (h2, .inl (cB, 512, .inl u.2.1)), (g0, .inr (1, [.int 0, .ref g1, .ref g2, .int u.2.2])), (g1, .inl (cC, 4096, .inl (fun jx => mb_sg (u.1 jx)))), (g2, .inl (cD, 512, .inl (fun jx => mb_sg (u.2.1 jx))))] → va_S (fun q : Nat => s.heap.size ≤ q) s.heap H locs → lv_has ls 4 [(0, .ref b), (1, .ref h0), (2, .ref g0), (3, .int (nI i))] → W p l e room_1 s m #[Value.ref b] below meth c H locs 6 9223 (lw_Z below #[Value.ref b] s) (F0 m 338 ls [])) {u : Bk_} (hu : mb_inv u) {H : Heap} {locs : List Loc} (hP : va_P (dC, dI) vwCl [(h0, .inr (0, [.ref h1, .ref h2, .int u.2.2])), (h1, .inl (cA, 4096, .inl u.1)), (h2, .inl (cB, 512, .inl u.2.1)), (g0, .inr (1, [.int 0, .ref g1, .ref g2, .int u.2.2])), (g1, .inl (cC, 4096, .inl (fun jx => mb_sg (u.1 jx)))), (g2, .inl (cD, 512, .inl (fun jx => mb_sg (u.2.1 jx))))] H) (hD : va_D (fun q : Nat => s.heap.size ≤ q) [(h0, .inr (0, [.ref h1, .ref h2, .int u.2.2])), (h1, .inl (cA, 4096, .inl u.1)), (h2, .inl (cB, 512, .inl u.2.1)), (g0, .inr (1, [.int 0, .ref g1, .ref g2, .int u.2.2])), (g1, .inl (cC, 4096, .inl (fun jx => mb_sg (u.1 jx)))), (g2, .inl (cD, 512, .inl (fun jx => mb_sg (u.2.1 jx))))]) (hS : va_S (fun q : Nat => s.heap.size ≤ q) s.heap H locs) {ls : Array Slot} (hl : lv_has ls 4 [(0, .ref b), (1, .ref h0), (2, .ref g0), (3, .int (nI i))]) : W p l e room_1 s m #[Value.ref b] below meth c H locs 6 9223 (lw_Z below #[Value.ref b] s) (F0 m 88 ls []) := by
  obtain ⟨hx, hb, hr, hml, hown, hts, hX, hbl, hlocks, hgv⟩ := C0
  have hown : s.vm.findClass RL = some m.cls := hown
  have hts : ∀ w ∈ wsL_law, w.before #[Value.ref b] s = true := fun w h => hts w (wsL_law_in w h)
  have hA : ∀ q : Nat, s.heap.size ≤ q → (fun q : Nat => s.heap.size ≤ q) q := fun _ h => h
  have hbA : ¬ (fun q : Nat => s.heap.size ≤ q) b := Nat.not_le.mpr hbl
  have hi1 : vp_in (nI i + 1) L := by rw [show nI i + 1 = nI (i + 1) from nI_add i 1]; exact vp_in_nI (by omega) (by omega)
  have hi2 : vp_in (nI i + 2) L := by rw [show nI i + 2 = nI (i + 2) from nI_add i 2]; exact vp_in_nI (by omega) (by omega)
  have hi3 : vp_in (nI i + 3) L := by rw [show nI i + 3 = nI (i + 3) from nI_add i 3]; exact vp_in_nI (by omega) (by omega)
  refine lv_aload_n hx hb dL_law_88 rfl (lv_at hl 1 rfl) ?_
  refine lv_aload_n hx hb dL_law_89 rfl (lv_at hl 0 rfl) ?_
  refine lv_iload_n hx hb dL_law_90 rfl (lv_at hl 3 rfl) ?_
  refine lv_iconst (v := 1) hx hb dL_law_91 (by decide) ?_
  refine lv_iadd hx hb dL_law_92 ?_
  refine va_sld hx hb hX hbl hbA hS hi1 dL_law_93 ?_
  have hPc := hP.sub (ws' := [(h0, .inr (0, [.ref h1, .ref h2, .int u.2.2])), (h1, .inl (cA, 4096, .inl u.1)), (h2, .inl (cB, 512, .inl u.2.1))]) [0, 1, 2] rfl
  have hDc := hD.sub (ws' := [(h0, .inr (0, [.ref h1, .ref h2, .int u.2.2])), (h1, .inl (cA, 4096, .inl u.1)), (h2, .inl (cB, 512, .inl u.2.1))]) [0, 1, 2] (by decide) rfl
  have hKc := hK.sub (tys' := [(cA, .int), (cB, .int)]) [0, 1] rfl
  have hFc := va_free (wc := [(h0, .inr (0, [.ref h1, .ref h2, .int u.2.2])), (h1, .inl (cA, 4096, .inl u.1)), (h2, .inl (cB, 512, .inl u.2.1))]) hD hS hA [0, 1, 2] rfl
  refine va_calli (va_runV (As := [.int (xs ((nI i) + 1).toNatClampNeg)]) (rest := []) ⟨hx, hb, hml, hown, hts⟩ (c_put l dC dI H.size h0 h1 h2 cA cB u (xs (nI i + 1).toNatClampNeg) hu.1) (cwV 1 hts gL_law_X0_put rfl rfl rfl (by decide +kernel) ⟨Nat.le_of_ble_eq_true rfl, Nat.le_of_ble_eq_true rfl⟩) ⟨fun a U g mk q => by obtain ⟨q0, q1, qP, qK, qD⟩ := q; exact ⟨q0, q1, qP, va_K.moved (u := U) (U := U.calling g mk a) (Vm.Alike.refl U.vm) qK, qD⟩, va_recv hKc hPc (ci := 0) (q0 := 0) rfl rfl, fun U hU hW => ⟨rfl, by rw [hU], by rw [hU]; exact hPc, va_K.moved hW.alike hKc, hDc.weaken (fun _ _ _ _ => trivial)⟩⟩ rfl rfl hl.1 rfl (lv_room (Nat.le_of_ble_eq_true rfl)) dL_law_94 ⟨by decide +kernel, by decide +kernel⟩) hS (fun q _ h => hFc q h) hFc (fun r1 u1 t H1 locs ht hvm hw_u1 hB hz1 hk1 hS => ?_)
  obtain ⟨hP1, hK1, hD1⟩ := hB
  rw [ht] at hP1
  obtain ⟨hP, hD⟩ := va_join (wr := [(g0, .inr (1, [.int 0, .ref g1, .ref g2, .int u.2.2])), (g1, .inl (cC, 4096, .inl (fun jx => mb_sg (u.1 jx)))), (g2, .inl (cD, 512, .inl (fun jx => mb_sg (u.2.1 jx))))]) (w1 := [(h0, .inr (0, [.ref h1, .ref h2, .int u1.2.2])), (h1, .inl (cA, 4096, .inl u1.1)), (h2, .inl (cB, 512, .inl u1.2.1))]) hP hD [0, 1, 2] [3, 4, 5] rfl rfl (by decide) (by decide) hk1 hFc hP1 hD1
  clear hPc hDc hFc hk1 hP1 hD1 ht
  generalize H1 = H at hP hS ⊢
  have hP : va_P (dC, dI) vwCl [(g0, .inr (1, [.int 0, .ref g1, .ref g2, .int u.2.2])), (g1, .inl (cC, 4096, .inl (fun jx => mb_sg (u.1 jx)))), (g2, .inl (cD, 512, .inl (fun jx => mb_sg (u.2.1 jx)))), (h0, .inr (0, [.ref h1, .ref h2, .int u1.2.2])), (h1, .inl (cA, 4096, .inl u1.1)), (h2, .inl (cB, 512, .inl u1.2.1))] H := hP
  have hD : va_D (fun q : Nat => s.heap.size ≤ q) [(g0, .inr (1, [.int 0, .ref g1, .ref g2, .int u.2.2])), (g1, .inl (cC, 4096, .inl (fun jx => mb_sg (u.1 jx)))), (g2, .inl (cD, 512, .inl (fun jx => mb_sg (u.2.1 jx)))), (h0, .inr (0, [.ref h1, .ref h2, .int u1.2.2])), (h1, .inl (cA, 4096, .inl u1.1)), (h2, .inl (cB, 512, .inl u1.2.1))] := hD
  refine lv_aload_n hx hb dL_law_97 rfl (lv_at hl 2 rfl) ?_
  refine lv_aload_n hx hb dL_law_98 rfl (lv_at hl 0 rfl) ?_
  refine lv_iload_n hx hb dL_law_99 rfl (lv_at hl 3 rfl) ?_
  refine lv_iconst (v := 1) hx hb dL_law_100 (by decide) ?_
  refine lv_iadd hx hb dL_law_101 ?_
  refine va_sld hx hb hX hbl hbA hS hi1 dL_law_102 ?_
  have hPc := hP.sub (ws' := [(g0, .inr (1, [.int 0, .ref g1, .ref g2, .int u.2.2])), (g1, .inl (cC, 4096, .inl (fun jx => mb_sg (u.1 jx)))), (g2, .inl (cD, 512, .inl (fun jx => mb_sg (u.2.1 jx))))]) [0, 1, 2] rfl
  have hDc := hD.sub (ws' := [(g0, .inr (1, [.int 0, .ref g1, .ref g2, .int u.2.2])), (g1, .inl (cC, 4096, .inl (fun jx => mb_sg (u.1 jx)))), (g2, .inl (cD, 512, .inl (fun jx => mb_sg (u.2.1 jx))))]) [0, 1, 2] (by decide) rfl
  have hKc := hK.sub (tys' := [(cC, .byte), (cD, .byte)]) [2, 3] rfl
  have hFc := va_free (wc := [(g0, .inr (1, [.int 0, .ref g1, .ref g2, .int u.2.2])), (g1, .inl (cC, 4096, .inl (fun jx => mb_sg (u.1 jx)))), (g2, .inl (cD, 512, .inl (fun jx => mb_sg (u.2.1 jx))))]) hD hS hA [0, 1, 2] rfl
  refine va_calli (va_runV (As := [.int (xs ((nI i) + 1).toNatClampNeg)]) (rest := [.int r1]) ⟨hx, hb, hml, hown, hts⟩ (c_mput l dC dI H.size g0 g1 g2 cC cD u (xs (nI i + 1).toNatClampNeg) hu) (cwV 1 hts gL_law_X1_put rfl rfl rfl (by decide +kernel) ⟨Nat.le_of_ble_eq_true rfl, Nat.le_of_ble_eq_true rfl⟩) ⟨fun a U g mk q => by obtain ⟨q0, q1, qP, qK, qD⟩ := q; exact ⟨q0, q1, qP, va_K.moved (u := U) (U := U.calling g mk a) (Vm.Alike.refl U.vm) qK, qD⟩, va_recv hKc hPc (ci := 1) (q0 := 0) rfl rfl, fun U hU hW => ⟨rfl, by rw [hU], by rw [hU]; exact hPc, va_K.moved hW.alike hKc, hDc.weaken (fun _ _ _ _ => trivial)⟩⟩ rfl rfl hl.1 rfl (lv_room (Nat.le_of_ble_eq_true rfl)) dL_law_103 ⟨by decide +kernel, by decide +kernel⟩) hS (fun q _ h => hFc q h) hFc (fun r2 u2 t H1 locs ht hvm hw_u2 hB hz1 hk1 hS => ?_)
  obtain ⟨hP1, hK1, hD1⟩ := hB
  rw [ht] at hP1
  obtain ⟨hP, hD⟩ := va_join (wr := [(h0, .inr (0, [.ref h1, .ref h2, .int u1.2.2])), (h1, .inl (cA, 4096, .inl u1.1)), (h2, .inl (cB, 512, .inl u1.2.1))]) (w1 := [(g0, .inr (1, [.int 0, .ref g1, .ref g2, .int u2.2.2])), (g1, .inl (cC, 4096, .inl (fun jx => mb_sg (u2.1 jx)))), (g2, .inl (cD, 512, .inl (fun jx => mb_sg (u2.2.1 jx))))]) hP hD [0, 1, 2] [3, 4, 5] rfl rfl (by decide) (by decide) hk1 hFc hP1 hD1
  clear hPc hDc hFc hk1 hP1 hD1 ht
  generalize H1 = H at hP hS ⊢
  have hP : va_P (dC, dI) vwCl [(h0, .inr (0, [.ref h1, .ref h2, .int u1.2.2])), (h1, .inl (cA, 4096, .inl u1.1)), (h2, .inl (cB, 512, .inl u1.2.1)), (g0, .inr (1, [.int 0, .ref g1, .ref g2, .int u2.2.2])), (g1, .inl (cC, 4096, .inl (fun jx => mb_sg (u2.1 jx)))), (g2, .inl (cD, 512, .inl (fun jx => mb_sg (u2.2.1 jx))))] H := hP
  have hD : va_D (fun q : Nat => s.heap.size ≤ q) [(h0, .inr (0, [.ref h1, .ref h2, .int u1.2.2])), (h1, .inl (cA, 4096, .inl u1.1)), (h2, .inl (cB, 512, .inl u1.2.1)), (g0, .inr (1, [.int 0, .ref g1, .ref g2, .int u2.2.2])), (g1, .inl (cC, 4096, .inl (fun jx => mb_sg (u2.1 jx)))), (g2, .inl (cD, 512, .inl (fun jx => mb_sg (u2.2.1 jx))))] := hD
  obtain ⟨e1, e2⟩ := Prod.mk.inj (hw_u1.symm.trans hw_u2)
  subst e1
  subst e2
  have hu1 : mb_inv (mb_put u (xs (nI i + 1).toNatClampNeg)).2 := mb_put_inv hu (xs (nI i + 1).toNatClampNeg)
  rw [hw_u1] at hu1
  refine lv_icmp_eq (tgt := 338) hx hb dL_law_106 (by decide) (fun c1 => ?_) (fun c1 => ?_)
  · exact kk u1 _ _ ls hu1 hP hD hS hl
  · exact absurd rfl c1
set_option maxHeartbeats 2000000 in
set_option maxRecDepth 100000 in
/-- the law at cut: both answer alike, and stand alike behind it -/
theorem lo_cut {p : Program} {l : Launch} {e : Env} {s : State} {m : MethodId} {below : List Frame} {meth : Method} {c : Code} {dC : Nat → ClassId} {dI : Nat → Nat → Nat} {b L : Nat} {xs : Nat → Int32} (hL : L ≤ 2048) (C0 : lw_At p s m meth c b L xs) {h0 h1 h2 g0 g1 g2 : Nat} {cA cB cC cD : ClassId} (hK : va_K (dC, dI) vwCl [(cA, .int), (cB, .int), (cC, .byte), (cD, .byte)] s) {i : Nat} (hi : i + 4 ≤ L) (kk : ∀ (u : Bk_) (H : Heap) (locs : List Loc) (ls : Array Slot), mb_inv u → va_P (dC, dI) vwCl [(h0, .inr (0, [.ref h1, .ref h2, .int u.2.2])), (h1, .inl (cA, 4096, .inl u.1)), (h2, .inl (cB, 512, .inl u.2.1)), (g0, .inr (1, [.int 0, .ref g1, .ref g2, .int u.2.2])), (g1, .inl (cC, 4096, .inl (fun jx => mb_sg (u.1 jx)))), (g2, .inl (cD, 512, .inl (fun jx => mb_sg (u.2.1 jx))))] H → va_D (fun q : Nat => s.heap.size ≤ q) [(h0, .inr (0, [.ref h1, .ref h2, .int u.2.2])), (h1, .inl (cA, 4096, .inl u.1)), (h2, .inl (cB, 512, .inl u.2.1)), (g0, .inr (1, [.int 0, .ref g1, .ref g2, .int u.2.2])), (g1, .inl (cC, 4096, .inl (fun jx => mb_sg (u.1 jx)))), (g2, .inl (cD, 512, .inl (fun jx => mb_sg (u.2.1 jx))))] → va_S (fun q : Nat => s.heap.size ≤ q) s.heap H locs → lv_has ls 4 [(0, .ref b), (1, .ref h0), (2, .ref g0), (3, .int (nI i))] → W p l e room_1 s m #[Value.ref b] below meth c H locs 6 9223 (lw_Z below #[Value.ref b] s) (F0 m 338 ls [])) {u : Bk_} (hu : mb_inv u) {H : Heap} {locs : List Loc} (hP : va_P (dC, dI) vwCl [(h0, .inr (0, [.ref h1, .ref h2, .int u.2.2])), (h1, .inl (cA, 4096, .inl u.1)), (h2, .inl (cB, 512, .inl u.2.1)), (g0, .inr (1, [.int 0, .ref g1, .ref g2, .int u.2.2])), (g1, .inl (cC, 4096, .inl (fun jx => mb_sg (u.1 jx)))), (g2, .inl (cD, 512, .inl (fun jx => mb_sg (u.2.1 jx))))] H) (hD : va_D (fun q : Nat => s.heap.size ≤ q) [(h0, .inr (0, [.ref h1, .ref h2, .int u.2.2])), (h1, .inl (cA, 4096, .inl u.1)), (h2, .inl (cB, 512, .inl u.2.1)), (g0, .inr (1, [.int 0, .ref g1, .ref g2, .int u.2.2])), (g1, .inl (cC, 4096, .inl (fun jx => mb_sg (u.1 jx)))), (g2, .inl (cD, 512, .inl (fun jx => mb_sg (u.2.1 jx))))]) (hS : va_S (fun q : Nat => s.heap.size ≤ q) s.heap H locs) {ls : Array Slot} (hl : lv_has ls 4 [(0, .ref b), (1, .ref h0), (2, .ref g0), (3, .int (nI i))]) : W p l e room_1 s m #[Value.ref b] below meth c H locs 6 9223 (lw_Z below #[Value.ref b] s) (F0 m 111 ls []) := by
  obtain ⟨hx, hb, hr, hml, hown, hts, hX, hbl, hlocks, hgv⟩ := C0
  have hown : s.vm.findClass RL = some m.cls := hown
  have hts : ∀ w ∈ wsL_law, w.before #[Value.ref b] s = true := fun w h => hts w (wsL_law_in w h)
  have hA : ∀ q : Nat, s.heap.size ≤ q → (fun q : Nat => s.heap.size ≤ q) q := fun _ h => h
  have hbA : ¬ (fun q : Nat => s.heap.size ≤ q) b := Nat.not_le.mpr hbl
  have hi1 : vp_in (nI i + 1) L := by rw [show nI i + 1 = nI (i + 1) from nI_add i 1]; exact vp_in_nI (by omega) (by omega)
  have hi2 : vp_in (nI i + 2) L := by rw [show nI i + 2 = nI (i + 2) from nI_add i 2]; exact vp_in_nI (by omega) (by omega)
  have hi3 : vp_in (nI i + 3) L := by rw [show nI i + 3 = nI (i + 3) from nI_add i 3]; exact vp_in_nI (by omega) (by omega)
  refine lv_aload_n hx hb dL_law_111 rfl (lv_at hl 1 rfl) ?_
  refine lv_aload_n hx hb dL_law_112 rfl (lv_at hl 0 rfl) ?_
  refine lv_iload_n hx hb dL_law_113 rfl (lv_at hl 3 rfl) ?_
  refine lv_iconst (v := 1) hx hb dL_law_114 (by decide) ?_
  refine lv_iadd hx hb dL_law_115 ?_
  refine va_sld hx hb hX hbl hbA hS hi1 dL_law_116 ?_
  have hPc := hP.sub (ws' := [(h0, .inr (0, [.ref h1, .ref h2, .int u.2.2])), (h1, .inl (cA, 4096, .inl u.1)), (h2, .inl (cB, 512, .inl u.2.1))]) [0, 1, 2] rfl
  have hDc := hD.sub (ws' := [(h0, .inr (0, [.ref h1, .ref h2, .int u.2.2])), (h1, .inl (cA, 4096, .inl u.1)), (h2, .inl (cB, 512, .inl u.2.1))]) [0, 1, 2] (by decide) rfl
  have hKc := hK.sub (tys' := [(cA, .int), (cB, .int)]) [0, 1] rfl
  have hFc := va_free (wc := [(h0, .inr (0, [.ref h1, .ref h2, .int u.2.2])), (h1, .inl (cA, 4096, .inl u.1)), (h2, .inl (cB, 512, .inl u.2.1))]) hD hS hA [0, 1, 2] rfl
  refine va_calli (va_runV (As := [.int (xs ((nI i) + 1).toNatClampNeg)]) (rest := []) ⟨hx, hb, hml, hown, hts⟩ (c_cut l dC dI H.size h0 h1 h2 cA cB u (xs (nI i + 1).toNatClampNeg) hu.1) (cwV 1 hts gL_law_X0_cut rfl rfl rfl (by decide +kernel) ⟨Nat.le_of_ble_eq_true rfl, Nat.le_of_ble_eq_true rfl⟩) ⟨fun a U g mk q => by obtain ⟨q0, q1, qP, qK, qD⟩ := q; exact ⟨q0, q1, qP, va_K.moved (u := U) (U := U.calling g mk a) (Vm.Alike.refl U.vm) qK, qD⟩, va_recv hKc hPc (ci := 0) (q0 := 0) rfl rfl, fun U hU hW => ⟨rfl, by rw [hU], by rw [hU]; exact hPc, va_K.moved hW.alike hKc, hDc.weaken (fun _ _ _ _ => trivial)⟩⟩ rfl rfl hl.1 rfl (lv_room (Nat.le_of_ble_eq_true rfl)) dL_law_117 ⟨by decide +kernel, by decide +kernel⟩) hS (fun q _ h => hFc q h) hFc (fun r1 u1 t H1 locs ht hvm hw_u1 hB hz1 hk1 hS => ?_)
  obtain ⟨hP1, hK1, hD1⟩ := hB
  rw [ht] at hP1
  obtain ⟨hP, hD⟩ := va_join (wr := [(g0, .inr (1, [.int 0, .ref g1, .ref g2, .int u.2.2])), (g1, .inl (cC, 4096, .inl (fun jx => mb_sg (u.1 jx)))), (g2, .inl (cD, 512, .inl (fun jx => mb_sg (u.2.1 jx))))]) (w1 := [(h0, .inr (0, [.ref h1, .ref h2, .int u1.2.2])), (h1, .inl (cA, 4096, .inl u1.1)), (h2, .inl (cB, 512, .inl u1.2.1))]) hP hD [0, 1, 2] [3, 4, 5] rfl rfl (by decide) (by decide) hk1 hFc hP1 hD1
  clear hPc hDc hFc hk1 hP1 hD1 ht
  generalize H1 = H at hP hS ⊢
  have hP : va_P (dC, dI) vwCl [(g0, .inr (1, [.int 0, .ref g1, .ref g2, .int u.2.2])), (g1, .inl (cC, 4096, .inl (fun jx => mb_sg (u.1 jx)))), (g2, .inl (cD, 512, .inl (fun jx => mb_sg (u.2.1 jx)))), (h0, .inr (0, [.ref h1, .ref h2, .int u1.2.2])), (h1, .inl (cA, 4096, .inl u1.1)), (h2, .inl (cB, 512, .inl u1.2.1))] H := hP
  have hD : va_D (fun q : Nat => s.heap.size ≤ q) [(g0, .inr (1, [.int 0, .ref g1, .ref g2, .int u.2.2])), (g1, .inl (cC, 4096, .inl (fun jx => mb_sg (u.1 jx)))), (g2, .inl (cD, 512, .inl (fun jx => mb_sg (u.2.1 jx)))), (h0, .inr (0, [.ref h1, .ref h2, .int u1.2.2])), (h1, .inl (cA, 4096, .inl u1.1)), (h2, .inl (cB, 512, .inl u1.2.1))] := hD
  refine lv_aload_n hx hb dL_law_120 rfl (lv_at hl 2 rfl) ?_
  refine lv_aload_n hx hb dL_law_121 rfl (lv_at hl 0 rfl) ?_
  refine lv_iload_n hx hb dL_law_122 rfl (lv_at hl 3 rfl) ?_
  refine lv_iconst (v := 1) hx hb dL_law_123 (by decide) ?_
  refine lv_iadd hx hb dL_law_124 ?_
  refine va_sld hx hb hX hbl hbA hS hi1 dL_law_125 ?_
  have hPc := hP.sub (ws' := [(g0, .inr (1, [.int 0, .ref g1, .ref g2, .int u.2.2])), (g1, .inl (cC, 4096, .inl (fun jx => mb_sg (u.1 jx)))), (g2, .inl (cD, 512, .inl (fun jx => mb_sg (u.2.1 jx))))]) [0, 1, 2] rfl
  have hDc := hD.sub (ws' := [(g0, .inr (1, [.int 0, .ref g1, .ref g2, .int u.2.2])), (g1, .inl (cC, 4096, .inl (fun jx => mb_sg (u.1 jx)))), (g2, .inl (cD, 512, .inl (fun jx => mb_sg (u.2.1 jx))))]) [0, 1, 2] (by decide) rfl
  have hKc := hK.sub (tys' := [(cC, .byte), (cD, .byte)]) [2, 3] rfl
  have hFc := va_free (wc := [(g0, .inr (1, [.int 0, .ref g1, .ref g2, .int u.2.2])), (g1, .inl (cC, 4096, .inl (fun jx => mb_sg (u.1 jx)))), (g2, .inl (cD, 512, .inl (fun jx => mb_sg (u.2.1 jx))))]) hD hS hA [0, 1, 2] rfl
  refine va_calli (va_runV (As := [.int (xs ((nI i) + 1).toNatClampNeg)]) (rest := [.int r1]) ⟨hx, hb, hml, hown, hts⟩ (c_mcut l dC dI H.size g0 g1 g2 cC cD u (xs (nI i + 1).toNatClampNeg) hu) (cwV 1 hts gL_law_X1_cut rfl rfl rfl (by decide +kernel) ⟨Nat.le_of_ble_eq_true rfl, Nat.le_of_ble_eq_true rfl⟩) ⟨fun a U g mk q => by obtain ⟨q0, q1, qP, qK, qD⟩ := q; exact ⟨q0, q1, qP, va_K.moved (u := U) (U := U.calling g mk a) (Vm.Alike.refl U.vm) qK, qD⟩, va_recv hKc hPc (ci := 1) (q0 := 0) rfl rfl, fun U hU hW => ⟨rfl, by rw [hU], by rw [hU]; exact hPc, va_K.moved hW.alike hKc, hDc.weaken (fun _ _ _ _ => trivial)⟩⟩ rfl rfl hl.1 rfl (lv_room (Nat.le_of_ble_eq_true rfl)) dL_law_126 ⟨by decide +kernel, by decide +kernel⟩) hS (fun q _ h => hFc q h) hFc (fun r2 u2 t H1 locs ht hvm hw_u2 hB hz1 hk1 hS => ?_)
  obtain ⟨hP1, hK1, hD1⟩ := hB
  rw [ht] at hP1
  obtain ⟨hP, hD⟩ := va_join (wr := [(h0, .inr (0, [.ref h1, .ref h2, .int u1.2.2])), (h1, .inl (cA, 4096, .inl u1.1)), (h2, .inl (cB, 512, .inl u1.2.1))]) (w1 := [(g0, .inr (1, [.int 0, .ref g1, .ref g2, .int u2.2.2])), (g1, .inl (cC, 4096, .inl (fun jx => mb_sg (u2.1 jx)))), (g2, .inl (cD, 512, .inl (fun jx => mb_sg (u2.2.1 jx))))]) hP hD [0, 1, 2] [3, 4, 5] rfl rfl (by decide) (by decide) hk1 hFc hP1 hD1
  clear hPc hDc hFc hk1 hP1 hD1 ht
  generalize H1 = H at hP hS ⊢
  have hP : va_P (dC, dI) vwCl [(h0, .inr (0, [.ref h1, .ref h2, .int u1.2.2])), (h1, .inl (cA, 4096, .inl u1.1)), (h2, .inl (cB, 512, .inl u1.2.1)), (g0, .inr (1, [.int 0, .ref g1, .ref g2, .int u2.2.2])), (g1, .inl (cC, 4096, .inl (fun jx => mb_sg (u2.1 jx)))), (g2, .inl (cD, 512, .inl (fun jx => mb_sg (u2.2.1 jx))))] H := hP
  have hD : va_D (fun q : Nat => s.heap.size ≤ q) [(h0, .inr (0, [.ref h1, .ref h2, .int u1.2.2])), (h1, .inl (cA, 4096, .inl u1.1)), (h2, .inl (cB, 512, .inl u1.2.1)), (g0, .inr (1, [.int 0, .ref g1, .ref g2, .int u2.2.2])), (g1, .inl (cC, 4096, .inl (fun jx => mb_sg (u2.1 jx)))), (g2, .inl (cD, 512, .inl (fun jx => mb_sg (u2.2.1 jx))))] := hD
  obtain ⟨e1, e2⟩ := Prod.mk.inj (hw_u1.symm.trans hw_u2)
  subst e1
  subst e2
  have hu1 : mb_inv (mb_cut u (xs (nI i + 1).toNatClampNeg)).2 := mb_cut_inv hu (xs (nI i + 1).toNatClampNeg)
  rw [hw_u1] at hu1
  refine lv_icmp_eq (tgt := 338) hx hb dL_law_129 (by decide) (fun c1 => ?_) (fun c1 => ?_)
  · exact kk u1 _ _ ls hu1 hP hD hS hl
  · exact absurd rfl c1
set_option maxHeartbeats 2000000 in
set_option maxRecDepth 100000 in
/-- the law at size: both answer alike, and stand alike behind it -/
theorem lo_size {p : Program} {l : Launch} {e : Env} {s : State} {m : MethodId} {below : List Frame} {meth : Method} {c : Code} {dC : Nat → ClassId} {dI : Nat → Nat → Nat} {b L : Nat} {xs : Nat → Int32} (hL : L ≤ 2048) (C0 : lw_At p s m meth c b L xs) {h0 h1 h2 g0 g1 g2 : Nat} {cA cB cC cD : ClassId} (hK : va_K (dC, dI) vwCl [(cA, .int), (cB, .int), (cC, .byte), (cD, .byte)] s) {i : Nat} (hi : i + 4 ≤ L) (kk : ∀ (u : Bk_) (H : Heap) (locs : List Loc) (ls : Array Slot), mb_inv u → va_P (dC, dI) vwCl [(h0, .inr (0, [.ref h1, .ref h2, .int u.2.2])), (h1, .inl (cA, 4096, .inl u.1)), (h2, .inl (cB, 512, .inl u.2.1)), (g0, .inr (1, [.int 0, .ref g1, .ref g2, .int u.2.2])), (g1, .inl (cC, 4096, .inl (fun jx => mb_sg (u.1 jx)))), (g2, .inl (cD, 512, .inl (fun jx => mb_sg (u.2.1 jx))))] H → va_D (fun q : Nat => s.heap.size ≤ q) [(h0, .inr (0, [.ref h1, .ref h2, .int u.2.2])), (h1, .inl (cA, 4096, .inl u.1)), (h2, .inl (cB, 512, .inl u.2.1)), (g0, .inr (1, [.int 0, .ref g1, .ref g2, .int u.2.2])), (g1, .inl (cC, 4096, .inl (fun jx => mb_sg (u.1 jx)))), (g2, .inl (cD, 512, .inl (fun jx => mb_sg (u.2.1 jx))))] → va_S (fun q : Nat => s.heap.size ≤ q) s.heap H locs → lv_has ls 4 [(0, .ref b), (1, .ref h0), (2, .ref g0), (3, .int (nI i))] → W p l e room_1 s m #[Value.ref b] below meth c H locs 6 9223 (lw_Z below #[Value.ref b] s) (F0 m 338 ls [])) {u : Bk_} (hu : mb_inv u) {H : Heap} {locs : List Loc} (hP : va_P (dC, dI) vwCl [(h0, .inr (0, [.ref h1, .ref h2, .int u.2.2])), (h1, .inl (cA, 4096, .inl u.1)), (h2, .inl (cB, 512, .inl u.2.1)), (g0, .inr (1, [.int 0, .ref g1, .ref g2, .int u.2.2])), (g1, .inl (cC, 4096, .inl (fun jx => mb_sg (u.1 jx)))), (g2, .inl (cD, 512, .inl (fun jx => mb_sg (u.2.1 jx))))] H) (hD : va_D (fun q : Nat => s.heap.size ≤ q) [(h0, .inr (0, [.ref h1, .ref h2, .int u.2.2])), (h1, .inl (cA, 4096, .inl u.1)), (h2, .inl (cB, 512, .inl u.2.1)), (g0, .inr (1, [.int 0, .ref g1, .ref g2, .int u.2.2])), (g1, .inl (cC, 4096, .inl (fun jx => mb_sg (u.1 jx)))), (g2, .inl (cD, 512, .inl (fun jx => mb_sg (u.2.1 jx))))]) (hS : va_S (fun q : Nat => s.heap.size ≤ q) s.heap H locs) {ls : Array Slot} (hl : lv_has ls 4 [(0, .ref b), (1, .ref h0), (2, .ref g0), (3, .int (nI i))]) : W p l e room_1 s m #[Value.ref b] below meth c H locs 6 9223 (lw_Z below #[Value.ref b] s) (F0 m 134 ls []) := by
  obtain ⟨hx, hb, hr, hml, hown, hts, hX, hbl, hlocks, hgv⟩ := C0
  have hown : s.vm.findClass RL = some m.cls := hown
  have hts : ∀ w ∈ wsL_law, w.before #[Value.ref b] s = true := fun w h => hts w (wsL_law_in w h)
  have hA : ∀ q : Nat, s.heap.size ≤ q → (fun q : Nat => s.heap.size ≤ q) q := fun _ h => h
  have hbA : ¬ (fun q : Nat => s.heap.size ≤ q) b := Nat.not_le.mpr hbl
  have hi1 : vp_in (nI i + 1) L := by rw [show nI i + 1 = nI (i + 1) from nI_add i 1]; exact vp_in_nI (by omega) (by omega)
  have hi2 : vp_in (nI i + 2) L := by rw [show nI i + 2 = nI (i + 2) from nI_add i 2]; exact vp_in_nI (by omega) (by omega)
  have hi3 : vp_in (nI i + 3) L := by rw [show nI i + 3 = nI (i + 3) from nI_add i 3]; exact vp_in_nI (by omega) (by omega)
  refine lv_aload_n hx hb dL_law_134 rfl (lv_at hl 1 rfl) ?_
  have hPc := hP.sub (ws' := [(h0, .inr (0, [.ref h1, .ref h2, .int u.2.2])), (h1, .inl (cA, 4096, .inl u.1)), (h2, .inl (cB, 512, .inl u.2.1))]) [0, 1, 2] rfl
  have hDc := hD.sub (ws' := [(h0, .inr (0, [.ref h1, .ref h2, .int u.2.2])), (h1, .inl (cA, 4096, .inl u.1)), (h2, .inl (cB, 512, .inl u.2.1))]) [0, 1, 2] (by decide) rfl
  have hKc := hK.sub (tys' := [(cA, .int), (cB, .int)]) [0, 1] rfl
  have hFc := va_free (wc := [(h0, .inr (0, [.ref h1, .ref h2, .int u.2.2])), (h1, .inl (cA, 4096, .inl u.1)), (h2, .inl (cB, 512, .inl u.2.1))]) hD hS hA [0, 1, 2] rfl
  refine va_calli (va_runV (As := []) (rest := []) ⟨hx, hb, hml, hown, hts⟩ (c_size l dC dI H.size h0 h1 h2 cA cB u  hu.1) (cwV 0 hts gL_law_X0_size rfl rfl rfl (by decide +kernel) ⟨Nat.le_of_ble_eq_true rfl, Nat.le_of_ble_eq_true rfl⟩) ⟨fun a U g mk q => by obtain ⟨q0, q1, qP, qK, qD⟩ := q; exact ⟨q0, q1, qP, va_K.moved (u := U) (U := U.calling g mk a) (Vm.Alike.refl U.vm) qK, qD⟩, va_recv hKc hPc (ci := 0) (q0 := 0) rfl rfl, fun U hU hW => ⟨rfl, by rw [hU], by rw [hU]; exact hPc, va_K.moved hW.alike hKc, hDc.weaken (fun _ _ _ _ => trivial)⟩⟩ rfl rfl hl.1 rfl (lv_room (Nat.le_of_ble_eq_true rfl)) dL_law_135 ⟨by decide +kernel, by decide +kernel⟩) hS (fun q _ h => hFc q h) hFc (fun r1 u1 t H1 locs ht hvm hw_u1 hB hz1 hk1 hS => ?_)
  obtain ⟨hP1, hK1, hD1⟩ := hB
  rw [ht] at hP1
  obtain ⟨hP, hD⟩ := va_join (wr := [(g0, .inr (1, [.int 0, .ref g1, .ref g2, .int u.2.2])), (g1, .inl (cC, 4096, .inl (fun jx => mb_sg (u.1 jx)))), (g2, .inl (cD, 512, .inl (fun jx => mb_sg (u.2.1 jx))))]) (w1 := [(h0, .inr (0, [.ref h1, .ref h2, .int u1.2.2])), (h1, .inl (cA, 4096, .inl u1.1)), (h2, .inl (cB, 512, .inl u1.2.1))]) hP hD [0, 1, 2] [3, 4, 5] rfl rfl (by decide) (by decide) hk1 hFc hP1 hD1
  clear hPc hDc hFc hk1 hP1 hD1 ht
  generalize H1 = H at hP hS ⊢
  have hP : va_P (dC, dI) vwCl [(g0, .inr (1, [.int 0, .ref g1, .ref g2, .int u.2.2])), (g1, .inl (cC, 4096, .inl (fun jx => mb_sg (u.1 jx)))), (g2, .inl (cD, 512, .inl (fun jx => mb_sg (u.2.1 jx)))), (h0, .inr (0, [.ref h1, .ref h2, .int u1.2.2])), (h1, .inl (cA, 4096, .inl u1.1)), (h2, .inl (cB, 512, .inl u1.2.1))] H := hP
  have hD : va_D (fun q : Nat => s.heap.size ≤ q) [(g0, .inr (1, [.int 0, .ref g1, .ref g2, .int u.2.2])), (g1, .inl (cC, 4096, .inl (fun jx => mb_sg (u.1 jx)))), (g2, .inl (cD, 512, .inl (fun jx => mb_sg (u.2.1 jx)))), (h0, .inr (0, [.ref h1, .ref h2, .int u1.2.2])), (h1, .inl (cA, 4096, .inl u1.1)), (h2, .inl (cB, 512, .inl u1.2.1))] := hD
  refine lv_aload_n hx hb dL_law_138 rfl (lv_at hl 2 rfl) ?_
  have hPc := hP.sub (ws' := [(g0, .inr (1, [.int 0, .ref g1, .ref g2, .int u.2.2])), (g1, .inl (cC, 4096, .inl (fun jx => mb_sg (u.1 jx)))), (g2, .inl (cD, 512, .inl (fun jx => mb_sg (u.2.1 jx))))]) [0, 1, 2] rfl
  have hDc := hD.sub (ws' := [(g0, .inr (1, [.int 0, .ref g1, .ref g2, .int u.2.2])), (g1, .inl (cC, 4096, .inl (fun jx => mb_sg (u.1 jx)))), (g2, .inl (cD, 512, .inl (fun jx => mb_sg (u.2.1 jx))))]) [0, 1, 2] (by decide) rfl
  have hKc := hK.sub (tys' := [(cC, .byte), (cD, .byte)]) [2, 3] rfl
  have hFc := va_free (wc := [(g0, .inr (1, [.int 0, .ref g1, .ref g2, .int u.2.2])), (g1, .inl (cC, 4096, .inl (fun jx => mb_sg (u.1 jx)))), (g2, .inl (cD, 512, .inl (fun jx => mb_sg (u.2.1 jx))))]) hD hS hA [0, 1, 2] rfl
  refine va_calli (va_runV (As := []) (rest := [.int r1]) ⟨hx, hb, hml, hown, hts⟩ (c_msize l dC dI H.size g0 g1 g2 cC cD u  hu) (cwV 0 hts gL_law_X1_size rfl rfl rfl (by decide +kernel) ⟨Nat.le_of_ble_eq_true rfl, Nat.le_of_ble_eq_true rfl⟩) ⟨fun a U g mk q => by obtain ⟨q0, q1, qP, qK, qD⟩ := q; exact ⟨q0, q1, qP, va_K.moved (u := U) (U := U.calling g mk a) (Vm.Alike.refl U.vm) qK, qD⟩, va_recv hKc hPc (ci := 1) (q0 := 0) rfl rfl, fun U hU hW => ⟨rfl, by rw [hU], by rw [hU]; exact hPc, va_K.moved hW.alike hKc, hDc.weaken (fun _ _ _ _ => trivial)⟩⟩ rfl rfl hl.1 rfl (lv_room (Nat.le_of_ble_eq_true rfl)) dL_law_139 ⟨by decide +kernel, by decide +kernel⟩) hS (fun q _ h => hFc q h) hFc (fun r2 u2 t H1 locs ht hvm hw_u2 hB hz1 hk1 hS => ?_)
  obtain ⟨hP1, hK1, hD1⟩ := hB
  rw [ht] at hP1
  obtain ⟨hP, hD⟩ := va_join (wr := [(h0, .inr (0, [.ref h1, .ref h2, .int u1.2.2])), (h1, .inl (cA, 4096, .inl u1.1)), (h2, .inl (cB, 512, .inl u1.2.1))]) (w1 := [(g0, .inr (1, [.int 0, .ref g1, .ref g2, .int u2.2.2])), (g1, .inl (cC, 4096, .inl (fun jx => mb_sg (u2.1 jx)))), (g2, .inl (cD, 512, .inl (fun jx => mb_sg (u2.2.1 jx))))]) hP hD [0, 1, 2] [3, 4, 5] rfl rfl (by decide) (by decide) hk1 hFc hP1 hD1
  clear hPc hDc hFc hk1 hP1 hD1 ht
  generalize H1 = H at hP hS ⊢
  have hP : va_P (dC, dI) vwCl [(h0, .inr (0, [.ref h1, .ref h2, .int u1.2.2])), (h1, .inl (cA, 4096, .inl u1.1)), (h2, .inl (cB, 512, .inl u1.2.1)), (g0, .inr (1, [.int 0, .ref g1, .ref g2, .int u2.2.2])), (g1, .inl (cC, 4096, .inl (fun jx => mb_sg (u2.1 jx)))), (g2, .inl (cD, 512, .inl (fun jx => mb_sg (u2.2.1 jx))))] H := hP
  have hD : va_D (fun q : Nat => s.heap.size ≤ q) [(h0, .inr (0, [.ref h1, .ref h2, .int u1.2.2])), (h1, .inl (cA, 4096, .inl u1.1)), (h2, .inl (cB, 512, .inl u1.2.1)), (g0, .inr (1, [.int 0, .ref g1, .ref g2, .int u2.2.2])), (g1, .inl (cC, 4096, .inl (fun jx => mb_sg (u2.1 jx)))), (g2, .inl (cD, 512, .inl (fun jx => mb_sg (u2.2.1 jx))))] := hD
  obtain ⟨e1, e2⟩ := Prod.mk.inj (hw_u1.symm.trans hw_u2)
  subst e1
  subst e2
  have hu1 : mb_inv (mb_size u ).2 := hu
  rw [hw_u1] at hu1
  refine lv_icmp_eq (tgt := 338) hx hb dL_law_142 (by decide) (fun c1 => ?_) (fun c1 => ?_)
  · exact kk u1 _ _ ls hu1 hP hD hS hl
  · exact absurd rfl c1
set_option maxHeartbeats 2000000 in
set_option maxRecDepth 100000 in
/-- the law at rowAt: both answer alike, and stand alike behind it -/
theorem lo_rowAt {p : Program} {l : Launch} {e : Env} {s : State} {m : MethodId} {below : List Frame} {meth : Method} {c : Code} {dC : Nat → ClassId} {dI : Nat → Nat → Nat} {b L : Nat} {xs : Nat → Int32} (hL : L ≤ 2048) (C0 : lw_At p s m meth c b L xs) {h0 h1 h2 g0 g1 g2 : Nat} {cA cB cC cD : ClassId} (hK : va_K (dC, dI) vwCl [(cA, .int), (cB, .int), (cC, .byte), (cD, .byte)] s) {i : Nat} (hi : i + 4 ≤ L) (kk : ∀ (u : Bk_) (H : Heap) (locs : List Loc) (ls : Array Slot), mb_inv u → va_P (dC, dI) vwCl [(h0, .inr (0, [.ref h1, .ref h2, .int u.2.2])), (h1, .inl (cA, 4096, .inl u.1)), (h2, .inl (cB, 512, .inl u.2.1)), (g0, .inr (1, [.int 0, .ref g1, .ref g2, .int u.2.2])), (g1, .inl (cC, 4096, .inl (fun jx => mb_sg (u.1 jx)))), (g2, .inl (cD, 512, .inl (fun jx => mb_sg (u.2.1 jx))))] H → va_D (fun q : Nat => s.heap.size ≤ q) [(h0, .inr (0, [.ref h1, .ref h2, .int u.2.2])), (h1, .inl (cA, 4096, .inl u.1)), (h2, .inl (cB, 512, .inl u.2.1)), (g0, .inr (1, [.int 0, .ref g1, .ref g2, .int u.2.2])), (g1, .inl (cC, 4096, .inl (fun jx => mb_sg (u.1 jx)))), (g2, .inl (cD, 512, .inl (fun jx => mb_sg (u.2.1 jx))))] → va_S (fun q : Nat => s.heap.size ≤ q) s.heap H locs → lv_has ls 4 [(0, .ref b), (1, .ref h0), (2, .ref g0), (3, .int (nI i))] → W p l e room_1 s m #[Value.ref b] below meth c H locs 6 9223 (lw_Z below #[Value.ref b] s) (F0 m 338 ls [])) {u : Bk_} (hu : mb_inv u) {H : Heap} {locs : List Loc} (hP : va_P (dC, dI) vwCl [(h0, .inr (0, [.ref h1, .ref h2, .int u.2.2])), (h1, .inl (cA, 4096, .inl u.1)), (h2, .inl (cB, 512, .inl u.2.1)), (g0, .inr (1, [.int 0, .ref g1, .ref g2, .int u.2.2])), (g1, .inl (cC, 4096, .inl (fun jx => mb_sg (u.1 jx)))), (g2, .inl (cD, 512, .inl (fun jx => mb_sg (u.2.1 jx))))] H) (hD : va_D (fun q : Nat => s.heap.size ≤ q) [(h0, .inr (0, [.ref h1, .ref h2, .int u.2.2])), (h1, .inl (cA, 4096, .inl u.1)), (h2, .inl (cB, 512, .inl u.2.1)), (g0, .inr (1, [.int 0, .ref g1, .ref g2, .int u.2.2])), (g1, .inl (cC, 4096, .inl (fun jx => mb_sg (u.1 jx)))), (g2, .inl (cD, 512, .inl (fun jx => mb_sg (u.2.1 jx))))]) (hS : va_S (fun q : Nat => s.heap.size ≤ q) s.heap H locs) {ls : Array Slot} (hl : lv_has ls 4 [(0, .ref b), (1, .ref h0), (2, .ref g0), (3, .int (nI i))]) : W p l e room_1 s m #[Value.ref b] below meth c H locs 6 9223 (lw_Z below #[Value.ref b] s) (F0 m 147 ls []) := by
  obtain ⟨hx, hb, hr, hml, hown, hts, hX, hbl, hlocks, hgv⟩ := C0
  have hown : s.vm.findClass RL = some m.cls := hown
  have hts : ∀ w ∈ wsL_law, w.before #[Value.ref b] s = true := fun w h => hts w (wsL_law_in w h)
  have hA : ∀ q : Nat, s.heap.size ≤ q → (fun q : Nat => s.heap.size ≤ q) q := fun _ h => h
  have hbA : ¬ (fun q : Nat => s.heap.size ≤ q) b := Nat.not_le.mpr hbl
  have hi1 : vp_in (nI i + 1) L := by rw [show nI i + 1 = nI (i + 1) from nI_add i 1]; exact vp_in_nI (by omega) (by omega)
  have hi2 : vp_in (nI i + 2) L := by rw [show nI i + 2 = nI (i + 2) from nI_add i 2]; exact vp_in_nI (by omega) (by omega)
  have hi3 : vp_in (nI i + 3) L := by rw [show nI i + 3 = nI (i + 3) from nI_add i 3]; exact vp_in_nI (by omega) (by omega)
  refine lv_aload_n hx hb dL_law_147 rfl (lv_at hl 1 rfl) ?_
  refine lv_aload_n hx hb dL_law_148 rfl (lv_at hl 0 rfl) ?_
  refine lv_iload_n hx hb dL_law_149 rfl (lv_at hl 3 rfl) ?_
  refine lv_iconst (v := 1) hx hb dL_law_150 (by decide) ?_
  refine lv_iadd hx hb dL_law_151 ?_
  refine va_sld hx hb hX hbl hbA hS hi1 dL_law_152 ?_
  have hPc := hP.sub (ws' := [(h0, .inr (0, [.ref h1, .ref h2, .int u.2.2])), (h1, .inl (cA, 4096, .inl u.1)), (h2, .inl (cB, 512, .inl u.2.1))]) [0, 1, 2] rfl
  have hDc := hD.sub (ws' := [(h0, .inr (0, [.ref h1, .ref h2, .int u.2.2])), (h1, .inl (cA, 4096, .inl u.1)), (h2, .inl (cB, 512, .inl u.2.1))]) [0, 1, 2] (by decide) rfl
  have hKc := hK.sub (tys' := [(cA, .int), (cB, .int)]) [0, 1] rfl
  have hFc := va_free (wc := [(h0, .inr (0, [.ref h1, .ref h2, .int u.2.2])), (h1, .inl (cA, 4096, .inl u.1)), (h2, .inl (cB, 512, .inl u.2.1))]) hD hS hA [0, 1, 2] rfl
  refine va_calli (va_runV (As := [.int (xs ((nI i) + 1).toNatClampNeg)]) (rest := []) ⟨hx, hb, hml, hown, hts⟩ (c_rowAt l dC dI H.size h0 h1 h2 cA cB u (xs (nI i + 1).toNatClampNeg) hu.1) (cwV 1 hts gL_law_X0_rowAt rfl rfl rfl (by decide +kernel) ⟨Nat.le_of_ble_eq_true rfl, Nat.le_of_ble_eq_true rfl⟩) ⟨fun a U g mk q => by obtain ⟨q0, q1, qP, qK, qD⟩ := q; exact ⟨q0, q1, qP, va_K.moved (u := U) (U := U.calling g mk a) (Vm.Alike.refl U.vm) qK, qD⟩, va_recv hKc hPc (ci := 0) (q0 := 0) rfl rfl, fun U hU hW => ⟨rfl, by rw [hU], by rw [hU]; exact hPc, va_K.moved hW.alike hKc, hDc.weaken (fun _ _ _ _ => trivial)⟩⟩ rfl rfl hl.1 rfl (lv_room (Nat.le_of_ble_eq_true rfl)) dL_law_153 ⟨by decide +kernel, by decide +kernel⟩) hS (fun q _ h => hFc q h) hFc (fun r1 u1 t H1 locs ht hvm hw_u1 hB hz1 hk1 hS => ?_)
  obtain ⟨hP1, hK1, hD1⟩ := hB
  rw [ht] at hP1
  obtain ⟨hP, hD⟩ := va_join (wr := [(g0, .inr (1, [.int 0, .ref g1, .ref g2, .int u.2.2])), (g1, .inl (cC, 4096, .inl (fun jx => mb_sg (u.1 jx)))), (g2, .inl (cD, 512, .inl (fun jx => mb_sg (u.2.1 jx))))]) (w1 := [(h0, .inr (0, [.ref h1, .ref h2, .int u1.2.2])), (h1, .inl (cA, 4096, .inl u1.1)), (h2, .inl (cB, 512, .inl u1.2.1))]) hP hD [0, 1, 2] [3, 4, 5] rfl rfl (by decide) (by decide) hk1 hFc hP1 hD1
  clear hPc hDc hFc hk1 hP1 hD1 ht
  generalize H1 = H at hP hS ⊢
  have hP : va_P (dC, dI) vwCl [(g0, .inr (1, [.int 0, .ref g1, .ref g2, .int u.2.2])), (g1, .inl (cC, 4096, .inl (fun jx => mb_sg (u.1 jx)))), (g2, .inl (cD, 512, .inl (fun jx => mb_sg (u.2.1 jx)))), (h0, .inr (0, [.ref h1, .ref h2, .int u1.2.2])), (h1, .inl (cA, 4096, .inl u1.1)), (h2, .inl (cB, 512, .inl u1.2.1))] H := hP
  have hD : va_D (fun q : Nat => s.heap.size ≤ q) [(g0, .inr (1, [.int 0, .ref g1, .ref g2, .int u.2.2])), (g1, .inl (cC, 4096, .inl (fun jx => mb_sg (u.1 jx)))), (g2, .inl (cD, 512, .inl (fun jx => mb_sg (u.2.1 jx)))), (h0, .inr (0, [.ref h1, .ref h2, .int u1.2.2])), (h1, .inl (cA, 4096, .inl u1.1)), (h2, .inl (cB, 512, .inl u1.2.1))] := hD
  refine lv_aload_n hx hb dL_law_156 rfl (lv_at hl 2 rfl) ?_
  refine lv_aload_n hx hb dL_law_157 rfl (lv_at hl 0 rfl) ?_
  refine lv_iload_n hx hb dL_law_158 rfl (lv_at hl 3 rfl) ?_
  refine lv_iconst (v := 1) hx hb dL_law_159 (by decide) ?_
  refine lv_iadd hx hb dL_law_160 ?_
  refine va_sld hx hb hX hbl hbA hS hi1 dL_law_161 ?_
  have hPc := hP.sub (ws' := [(g0, .inr (1, [.int 0, .ref g1, .ref g2, .int u.2.2])), (g1, .inl (cC, 4096, .inl (fun jx => mb_sg (u.1 jx)))), (g2, .inl (cD, 512, .inl (fun jx => mb_sg (u.2.1 jx))))]) [0, 1, 2] rfl
  have hDc := hD.sub (ws' := [(g0, .inr (1, [.int 0, .ref g1, .ref g2, .int u.2.2])), (g1, .inl (cC, 4096, .inl (fun jx => mb_sg (u.1 jx)))), (g2, .inl (cD, 512, .inl (fun jx => mb_sg (u.2.1 jx))))]) [0, 1, 2] (by decide) rfl
  have hKc := hK.sub (tys' := [(cC, .byte), (cD, .byte)]) [2, 3] rfl
  have hFc := va_free (wc := [(g0, .inr (1, [.int 0, .ref g1, .ref g2, .int u.2.2])), (g1, .inl (cC, 4096, .inl (fun jx => mb_sg (u.1 jx)))), (g2, .inl (cD, 512, .inl (fun jx => mb_sg (u.2.1 jx))))]) hD hS hA [0, 1, 2] rfl
  refine va_calli (va_runV (As := [.int (xs ((nI i) + 1).toNatClampNeg)]) (rest := [.int r1]) ⟨hx, hb, hml, hown, hts⟩ (c_mrowAt l dC dI H.size g0 g1 g2 cC cD u (xs (nI i + 1).toNatClampNeg) hu) (cwV 1 hts gL_law_X1_rowAt rfl rfl rfl (by decide +kernel) ⟨Nat.le_of_ble_eq_true rfl, Nat.le_of_ble_eq_true rfl⟩) ⟨fun a U g mk q => by obtain ⟨q0, q1, qP, qK, qD⟩ := q; exact ⟨q0, q1, qP, va_K.moved (u := U) (U := U.calling g mk a) (Vm.Alike.refl U.vm) qK, qD⟩, va_recv hKc hPc (ci := 1) (q0 := 0) rfl rfl, fun U hU hW => ⟨rfl, by rw [hU], by rw [hU]; exact hPc, va_K.moved hW.alike hKc, hDc.weaken (fun _ _ _ _ => trivial)⟩⟩ rfl rfl hl.1 rfl (lv_room (Nat.le_of_ble_eq_true rfl)) dL_law_162 ⟨by decide +kernel, by decide +kernel⟩) hS (fun q _ h => hFc q h) hFc (fun r2 u2 t H1 locs ht hvm hw_u2 hB hz1 hk1 hS => ?_)
  obtain ⟨hP1, hK1, hD1⟩ := hB
  rw [ht] at hP1
  obtain ⟨hP, hD⟩ := va_join (wr := [(h0, .inr (0, [.ref h1, .ref h2, .int u1.2.2])), (h1, .inl (cA, 4096, .inl u1.1)), (h2, .inl (cB, 512, .inl u1.2.1))]) (w1 := [(g0, .inr (1, [.int 0, .ref g1, .ref g2, .int u2.2.2])), (g1, .inl (cC, 4096, .inl (fun jx => mb_sg (u2.1 jx)))), (g2, .inl (cD, 512, .inl (fun jx => mb_sg (u2.2.1 jx))))]) hP hD [0, 1, 2] [3, 4, 5] rfl rfl (by decide) (by decide) hk1 hFc hP1 hD1
  clear hPc hDc hFc hk1 hP1 hD1 ht
  generalize H1 = H at hP hS ⊢
  have hP : va_P (dC, dI) vwCl [(h0, .inr (0, [.ref h1, .ref h2, .int u1.2.2])), (h1, .inl (cA, 4096, .inl u1.1)), (h2, .inl (cB, 512, .inl u1.2.1)), (g0, .inr (1, [.int 0, .ref g1, .ref g2, .int u2.2.2])), (g1, .inl (cC, 4096, .inl (fun jx => mb_sg (u2.1 jx)))), (g2, .inl (cD, 512, .inl (fun jx => mb_sg (u2.2.1 jx))))] H := hP
  have hD : va_D (fun q : Nat => s.heap.size ≤ q) [(h0, .inr (0, [.ref h1, .ref h2, .int u1.2.2])), (h1, .inl (cA, 4096, .inl u1.1)), (h2, .inl (cB, 512, .inl u1.2.1)), (g0, .inr (1, [.int 0, .ref g1, .ref g2, .int u2.2.2])), (g1, .inl (cC, 4096, .inl (fun jx => mb_sg (u2.1 jx)))), (g2, .inl (cD, 512, .inl (fun jx => mb_sg (u2.2.1 jx))))] := hD
  obtain ⟨e1, e2⟩ := Prod.mk.inj (hw_u1.symm.trans hw_u2)
  subst e1
  subst e2
  have hu1 : mb_inv (mb_rowAt u (xs (nI i + 1).toNatClampNeg)).2 := by unfold mb_rowAt; exact mb_rd_inv hu
  rw [hw_u1] at hu1
  refine lv_icmp_eq (tgt := 338) hx hb dL_law_165 (by decide) (fun c1 => ?_) (fun c1 => ?_)
  · exact kk u1 _ _ ls hu1 hP hD hS hl
  · exact absurd rfl c1
set_option maxHeartbeats 2000000 in
set_option maxRecDepth 100000 in
/-- the law at load: both answer alike, and stand alike behind it -/
theorem lo_load {p : Program} {l : Launch} {e : Env} {s : State} {m : MethodId} {below : List Frame} {meth : Method} {c : Code} {dC : Nat → ClassId} {dI : Nat → Nat → Nat} {b L : Nat} {xs : Nat → Int32} (hL : L ≤ 2048) (C0 : lw_At p s m meth c b L xs) {h0 h1 h2 g0 g1 g2 : Nat} {cA cB cC cD : ClassId} (hK : va_K (dC, dI) vwCl [(cA, .int), (cB, .int), (cC, .byte), (cD, .byte)] s) {i : Nat} (hi : i + 4 ≤ L) (kk : ∀ (u : Bk_) (H : Heap) (locs : List Loc) (ls : Array Slot), mb_inv u → va_P (dC, dI) vwCl [(h0, .inr (0, [.ref h1, .ref h2, .int u.2.2])), (h1, .inl (cA, 4096, .inl u.1)), (h2, .inl (cB, 512, .inl u.2.1)), (g0, .inr (1, [.int 0, .ref g1, .ref g2, .int u.2.2])), (g1, .inl (cC, 4096, .inl (fun jx => mb_sg (u.1 jx)))), (g2, .inl (cD, 512, .inl (fun jx => mb_sg (u.2.1 jx))))] H → va_D (fun q : Nat => s.heap.size ≤ q) [(h0, .inr (0, [.ref h1, .ref h2, .int u.2.2])), (h1, .inl (cA, 4096, .inl u.1)), (h2, .inl (cB, 512, .inl u.2.1)), (g0, .inr (1, [.int 0, .ref g1, .ref g2, .int u.2.2])), (g1, .inl (cC, 4096, .inl (fun jx => mb_sg (u.1 jx)))), (g2, .inl (cD, 512, .inl (fun jx => mb_sg (u.2.1 jx))))] → va_S (fun q : Nat => s.heap.size ≤ q) s.heap H locs → lv_has ls 4 [(0, .ref b), (1, .ref h0), (2, .ref g0), (3, .int (nI i))] → W p l e room_1 s m #[Value.ref b] below meth c H locs 6 9223 (lw_Z below #[Value.ref b] s) (F0 m 338 ls [])) {u : Bk_} (hu : mb_inv u) {H : Heap} {locs : List Loc} (hP : va_P (dC, dI) vwCl [(h0, .inr (0, [.ref h1, .ref h2, .int u.2.2])), (h1, .inl (cA, 4096, .inl u.1)), (h2, .inl (cB, 512, .inl u.2.1)), (g0, .inr (1, [.int 0, .ref g1, .ref g2, .int u.2.2])), (g1, .inl (cC, 4096, .inl (fun jx => mb_sg (u.1 jx)))), (g2, .inl (cD, 512, .inl (fun jx => mb_sg (u.2.1 jx))))] H) (hD : va_D (fun q : Nat => s.heap.size ≤ q) [(h0, .inr (0, [.ref h1, .ref h2, .int u.2.2])), (h1, .inl (cA, 4096, .inl u.1)), (h2, .inl (cB, 512, .inl u.2.1)), (g0, .inr (1, [.int 0, .ref g1, .ref g2, .int u.2.2])), (g1, .inl (cC, 4096, .inl (fun jx => mb_sg (u.1 jx)))), (g2, .inl (cD, 512, .inl (fun jx => mb_sg (u.2.1 jx))))]) (hS : va_S (fun q : Nat => s.heap.size ≤ q) s.heap H locs) {ls : Array Slot} (hl : lv_has ls 4 [(0, .ref b), (1, .ref h0), (2, .ref g0), (3, .int (nI i))]) : W p l e room_1 s m #[Value.ref b] below meth c H locs 6 9223 (lw_Z below #[Value.ref b] s) (F0 m 170 ls []) := by
  obtain ⟨hx, hb, hr, hml, hown, hts, hX, hbl, hlocks, hgv⟩ := C0
  have hown : s.vm.findClass RL = some m.cls := hown
  have hts : ∀ w ∈ wsL_law, w.before #[Value.ref b] s = true := fun w h => hts w (wsL_law_in w h)
  have hA : ∀ q : Nat, s.heap.size ≤ q → (fun q : Nat => s.heap.size ≤ q) q := fun _ h => h
  have hbA : ¬ (fun q : Nat => s.heap.size ≤ q) b := Nat.not_le.mpr hbl
  have hi1 : vp_in (nI i + 1) L := by rw [show nI i + 1 = nI (i + 1) from nI_add i 1]; exact vp_in_nI (by omega) (by omega)
  have hi2 : vp_in (nI i + 2) L := by rw [show nI i + 2 = nI (i + 2) from nI_add i 2]; exact vp_in_nI (by omega) (by omega)
  have hi3 : vp_in (nI i + 3) L := by rw [show nI i + 3 = nI (i + 3) from nI_add i 3]; exact vp_in_nI (by omega) (by omega)
  refine lv_aload_n hx hb dL_law_170 rfl (lv_at hl 1 rfl) ?_
  refine lv_aload_n hx hb dL_law_171 rfl (lv_at hl 0 rfl) ?_
  refine lv_iload_n hx hb dL_law_172 rfl (lv_at hl 3 rfl) ?_
  refine lv_iconst (v := 1) hx hb dL_law_173 (by decide) ?_
  refine lv_iadd hx hb dL_law_174 ?_
  refine va_sld hx hb hX hbl hbA hS hi1 dL_law_175 ?_
  refine lv_aload_n hx hb dL_law_176 rfl (lv_at hl 0 rfl) ?_
  refine lv_iload_n hx hb dL_law_177 rfl (lv_at hl 3 rfl) ?_
  refine lv_iconst (v := 2) hx hb dL_law_178 (by decide) ?_
  refine lv_iadd hx hb dL_law_179 ?_
  refine va_sld hx hb hX hbl hbA hS hi2 dL_law_180 ?_
  refine lv_aload_n hx hb dL_law_181 rfl (lv_at hl 0 rfl) ?_
  refine lv_iload_n hx hb dL_law_182 rfl (lv_at hl 3 rfl) ?_
  refine lv_iconst (v := 3) hx hb dL_law_183 (by decide) ?_
  refine lv_iadd hx hb dL_law_184 ?_
  refine va_sld hx hb hX hbl hbA hS hi3 dL_law_185 ?_
  have hPc := hP.sub (ws' := [(h0, .inr (0, [.ref h1, .ref h2, .int u.2.2])), (h1, .inl (cA, 4096, .inl u.1)), (h2, .inl (cB, 512, .inl u.2.1))]) [0, 1, 2] rfl
  have hDc := hD.sub (ws' := [(h0, .inr (0, [.ref h1, .ref h2, .int u.2.2])), (h1, .inl (cA, 4096, .inl u.1)), (h2, .inl (cB, 512, .inl u.2.1))]) [0, 1, 2] (by decide) rfl
  have hKc := hK.sub (tys' := [(cA, .int), (cB, .int)]) [0, 1] rfl
  have hFc := va_free (wc := [(h0, .inr (0, [.ref h1, .ref h2, .int u.2.2])), (h1, .inl (cA, 4096, .inl u.1)), (h2, .inl (cB, 512, .inl u.2.1))]) hD hS hA [0, 1, 2] rfl
  refine va_calli (va_runV (As := [.int (xs ((nI i) + 1).toNatClampNeg), .int (xs ((nI i) + 2).toNatClampNeg), .int (xs ((nI i) + 3).toNatClampNeg)]) (rest := []) ⟨hx, hb, hml, hown, hts⟩ (c_load l dC dI H.size h0 h1 h2 cA cB u (xs (nI i + 1).toNatClampNeg) (xs (nI i + 2).toNatClampNeg) (xs (nI i + 3).toNatClampNeg) hu.1) (cwV 3 hts gL_law_X0_load rfl rfl rfl (by decide +kernel) ⟨Nat.le_of_ble_eq_true rfl, Nat.le_of_ble_eq_true rfl⟩) ⟨fun a U g mk q => by obtain ⟨q0, q1, qP, qK, qD⟩ := q; exact ⟨q0, q1, qP, va_K.moved (u := U) (U := U.calling g mk a) (Vm.Alike.refl U.vm) qK, qD⟩, va_recv hKc hPc (ci := 0) (q0 := 0) rfl rfl, fun U hU hW => ⟨rfl, by rw [hU], by rw [hU]; exact hPc, va_K.moved hW.alike hKc, hDc.weaken (fun _ _ _ _ => trivial)⟩⟩ rfl rfl hl.1 rfl (lv_room (Nat.le_of_ble_eq_true rfl)) dL_law_186 ⟨by decide +kernel, by decide +kernel⟩) hS (fun q _ h => hFc q h) hFc (fun r1 u1 t H1 locs ht hvm hw_u1 hB hz1 hk1 hS => ?_)
  obtain ⟨hP1, hK1, hD1⟩ := hB
  rw [ht] at hP1
  obtain ⟨hP, hD⟩ := va_join (wr := [(g0, .inr (1, [.int 0, .ref g1, .ref g2, .int u.2.2])), (g1, .inl (cC, 4096, .inl (fun jx => mb_sg (u.1 jx)))), (g2, .inl (cD, 512, .inl (fun jx => mb_sg (u.2.1 jx))))]) (w1 := [(h0, .inr (0, [.ref h1, .ref h2, .int u1.2.2])), (h1, .inl (cA, 4096, .inl u1.1)), (h2, .inl (cB, 512, .inl u1.2.1))]) hP hD [0, 1, 2] [3, 4, 5] rfl rfl (by decide) (by decide) hk1 hFc hP1 hD1
  clear hPc hDc hFc hk1 hP1 hD1 ht
  generalize H1 = H at hP hS ⊢
  have hP : va_P (dC, dI) vwCl [(g0, .inr (1, [.int 0, .ref g1, .ref g2, .int u.2.2])), (g1, .inl (cC, 4096, .inl (fun jx => mb_sg (u.1 jx)))), (g2, .inl (cD, 512, .inl (fun jx => mb_sg (u.2.1 jx)))), (h0, .inr (0, [.ref h1, .ref h2, .int u1.2.2])), (h1, .inl (cA, 4096, .inl u1.1)), (h2, .inl (cB, 512, .inl u1.2.1))] H := hP
  have hD : va_D (fun q : Nat => s.heap.size ≤ q) [(g0, .inr (1, [.int 0, .ref g1, .ref g2, .int u.2.2])), (g1, .inl (cC, 4096, .inl (fun jx => mb_sg (u.1 jx)))), (g2, .inl (cD, 512, .inl (fun jx => mb_sg (u.2.1 jx)))), (h0, .inr (0, [.ref h1, .ref h2, .int u1.2.2])), (h1, .inl (cA, 4096, .inl u1.1)), (h2, .inl (cB, 512, .inl u1.2.1))] := hD
  refine lv_aload_n hx hb dL_law_189 rfl (lv_at hl 2 rfl) ?_
  refine lv_aload_n hx hb dL_law_190 rfl (lv_at hl 0 rfl) ?_
  refine lv_iload_n hx hb dL_law_191 rfl (lv_at hl 3 rfl) ?_
  refine lv_iconst (v := 1) hx hb dL_law_192 (by decide) ?_
  refine lv_iadd hx hb dL_law_193 ?_
  refine va_sld hx hb hX hbl hbA hS hi1 dL_law_194 ?_
  refine lv_aload_n hx hb dL_law_195 rfl (lv_at hl 0 rfl) ?_
  refine lv_iload_n hx hb dL_law_196 rfl (lv_at hl 3 rfl) ?_
  refine lv_iconst (v := 2) hx hb dL_law_197 (by decide) ?_
  refine lv_iadd hx hb dL_law_198 ?_
  refine va_sld hx hb hX hbl hbA hS hi2 dL_law_199 ?_
  refine lv_aload_n hx hb dL_law_200 rfl (lv_at hl 0 rfl) ?_
  refine lv_iload_n hx hb dL_law_201 rfl (lv_at hl 3 rfl) ?_
  refine lv_iconst (v := 3) hx hb dL_law_202 (by decide) ?_
  refine lv_iadd hx hb dL_law_203 ?_
  refine va_sld hx hb hX hbl hbA hS hi3 dL_law_204 ?_
  have hPc := hP.sub (ws' := [(g0, .inr (1, [.int 0, .ref g1, .ref g2, .int u.2.2])), (g1, .inl (cC, 4096, .inl (fun jx => mb_sg (u.1 jx)))), (g2, .inl (cD, 512, .inl (fun jx => mb_sg (u.2.1 jx))))]) [0, 1, 2] rfl
  have hDc := hD.sub (ws' := [(g0, .inr (1, [.int 0, .ref g1, .ref g2, .int u.2.2])), (g1, .inl (cC, 4096, .inl (fun jx => mb_sg (u.1 jx)))), (g2, .inl (cD, 512, .inl (fun jx => mb_sg (u.2.1 jx))))]) [0, 1, 2] (by decide) rfl
  have hKc := hK.sub (tys' := [(cC, .byte), (cD, .byte)]) [2, 3] rfl
  have hFc := va_free (wc := [(g0, .inr (1, [.int 0, .ref g1, .ref g2, .int u.2.2])), (g1, .inl (cC, 4096, .inl (fun jx => mb_sg (u.1 jx)))), (g2, .inl (cD, 512, .inl (fun jx => mb_sg (u.2.1 jx))))]) hD hS hA [0, 1, 2] rfl
  refine va_calli (va_runV (As := [.int (xs ((nI i) + 1).toNatClampNeg), .int (xs ((nI i) + 2).toNatClampNeg), .int (xs ((nI i) + 3).toNatClampNeg)]) (rest := [.int r1]) ⟨hx, hb, hml, hown, hts⟩ (c_mload l dC dI H.size g0 g1 g2 cC cD u (xs (nI i + 1).toNatClampNeg) (xs (nI i + 2).toNatClampNeg) (xs (nI i + 3).toNatClampNeg) hu) (cwV 3 hts gL_law_X1_load rfl rfl rfl (by decide +kernel) ⟨Nat.le_of_ble_eq_true rfl, Nat.le_of_ble_eq_true rfl⟩) ⟨fun a U g mk q => by obtain ⟨q0, q1, qP, qK, qD⟩ := q; exact ⟨q0, q1, qP, va_K.moved (u := U) (U := U.calling g mk a) (Vm.Alike.refl U.vm) qK, qD⟩, va_recv hKc hPc (ci := 1) (q0 := 0) rfl rfl, fun U hU hW => ⟨rfl, by rw [hU], by rw [hU]; exact hPc, va_K.moved hW.alike hKc, hDc.weaken (fun _ _ _ _ => trivial)⟩⟩ rfl rfl hl.1 rfl (lv_room (Nat.le_of_ble_eq_true rfl)) dL_law_205 ⟨by decide +kernel, by decide +kernel⟩) hS (fun q _ h => hFc q h) hFc (fun r2 u2 t H1 locs ht hvm hw_u2 hB hz1 hk1 hS => ?_)
  obtain ⟨hP1, hK1, hD1⟩ := hB
  rw [ht] at hP1
  obtain ⟨hP, hD⟩ := va_join (wr := [(h0, .inr (0, [.ref h1, .ref h2, .int u1.2.2])), (h1, .inl (cA, 4096, .inl u1.1)), (h2, .inl (cB, 512, .inl u1.2.1))]) (w1 := [(g0, .inr (1, [.int 0, .ref g1, .ref g2, .int u2.2.2])), (g1, .inl (cC, 4096, .inl (fun jx => mb_sg (u2.1 jx)))), (g2, .inl (cD, 512, .inl (fun jx => mb_sg (u2.2.1 jx))))]) hP hD [0, 1, 2] [3, 4, 5] rfl rfl (by decide) (by decide) hk1 hFc hP1 hD1
  clear hPc hDc hFc hk1 hP1 hD1 ht
  generalize H1 = H at hP hS ⊢
  have hP : va_P (dC, dI) vwCl [(h0, .inr (0, [.ref h1, .ref h2, .int u1.2.2])), (h1, .inl (cA, 4096, .inl u1.1)), (h2, .inl (cB, 512, .inl u1.2.1)), (g0, .inr (1, [.int 0, .ref g1, .ref g2, .int u2.2.2])), (g1, .inl (cC, 4096, .inl (fun jx => mb_sg (u2.1 jx)))), (g2, .inl (cD, 512, .inl (fun jx => mb_sg (u2.2.1 jx))))] H := hP
  have hD : va_D (fun q : Nat => s.heap.size ≤ q) [(h0, .inr (0, [.ref h1, .ref h2, .int u1.2.2])), (h1, .inl (cA, 4096, .inl u1.1)), (h2, .inl (cB, 512, .inl u1.2.1)), (g0, .inr (1, [.int 0, .ref g1, .ref g2, .int u2.2.2])), (g1, .inl (cC, 4096, .inl (fun jx => mb_sg (u2.1 jx)))), (g2, .inl (cD, 512, .inl (fun jx => mb_sg (u2.2.1 jx))))] := hD
  obtain ⟨e1, e2⟩ := Prod.mk.inj (hw_u1.symm.trans hw_u2)
  subst e1
  subst e2
  have hu1 : mb_inv (mb_load u (xs (nI i + 1).toNatClampNeg) (xs (nI i + 2).toNatClampNeg) (xs (nI i + 3).toNatClampNeg)).2 := mb_load_inv hu (xs (nI i + 1).toNatClampNeg) (xs (nI i + 2).toNatClampNeg) (xs (nI i + 3).toNatClampNeg)
  rw [hw_u1] at hu1
  refine lv_icmp_eq (tgt := 338) hx hb dL_law_208 (by decide) (fun c1 => ?_) (fun c1 => ?_)
  · exact kk u1 _ _ ls hu1 hP hD hS hl
  · exact absurd rfl c1
end
section
set_option maxHeartbeats 2000000 in
set_option maxRecDepth 100000 in
/-- the law at dump: both answer alike, and stand alike behind it -/
theorem lo_dump {p : Program} {l : Launch} {e : Env} {s : State} {m : MethodId} {below : List Frame} {meth : Method} {c : Code} {dC : Nat → ClassId} {dI : Nat → Nat → Nat} {b L : Nat} {xs : Nat → Int32} (hL : L ≤ 2048) (C0 : lw_At p s m meth c b L xs) {h0 h1 h2 g0 g1 g2 : Nat} {cA cB cC cD : ClassId} (hK : va_K (dC, dI) vwCl [(cA, .int), (cB, .int), (cC, .byte), (cD, .byte)] s) {i : Nat} (hi : i + 4 ≤ L) (kk : ∀ (u : Bk_) (H : Heap) (locs : List Loc) (ls : Array Slot), mb_inv u → va_P (dC, dI) vwCl [(h0, .inr (0, [.ref h1, .ref h2, .int u.2.2])), (h1, .inl (cA, 4096, .inl u.1)), (h2, .inl (cB, 512, .inl u.2.1)), (g0, .inr (1, [.int 0, .ref g1, .ref g2, .int u.2.2])), (g1, .inl (cC, 4096, .inl (fun jx => mb_sg (u.1 jx)))), (g2, .inl (cD, 512, .inl (fun jx => mb_sg (u.2.1 jx))))] H → va_D (fun q : Nat => s.heap.size ≤ q) [(h0, .inr (0, [.ref h1, .ref h2, .int u.2.2])), (h1, .inl (cA, 4096, .inl u.1)), (h2, .inl (cB, 512, .inl u.2.1)), (g0, .inr (1, [.int 0, .ref g1, .ref g2, .int u.2.2])), (g1, .inl (cC, 4096, .inl (fun jx => mb_sg (u.1 jx)))), (g2, .inl (cD, 512, .inl (fun jx => mb_sg (u.2.1 jx))))] → va_S (fun q : Nat => s.heap.size ≤ q) s.heap H locs → lv_has ls 4 [(0, .ref b), (1, .ref h0), (2, .ref g0), (3, .int (nI i))] → W p l e room_1 s m #[Value.ref b] below meth c H locs 6 9223 (lw_Z below #[Value.ref b] s) (F0 m 338 ls [])) {u : Bk_} (hu : mb_inv u) {H : Heap} {locs : List Loc} (hP : va_P (dC, dI) vwCl [(h0, .inr (0, [.ref h1, .ref h2, .int u.2.2])), (h1, .inl (cA, 4096, .inl u.1)), (h2, .inl (cB, 512, .inl u.2.1)), (g0, .inr (1, [.int 0, .ref g1, .ref g2, .int u.2.2])), (g1, .inl (cC, 4096, .inl (fun jx => mb_sg (u.1 jx)))), (g2, .inl (cD, 512, .inl (fun jx => mb_sg (u.2.1 jx))))] H) (hD : va_D (fun q : Nat => s.heap.size ≤ q) [(h0, .inr (0, [.ref h1, .ref h2, .int u.2.2])), (h1, .inl (cA, 4096, .inl u.1)), (h2, .inl (cB, 512, .inl u.2.1)), (g0, .inr (1, [.int 0, .ref g1, .ref g2, .int u.2.2])), (g1, .inl (cC, 4096, .inl (fun jx => mb_sg (u.1 jx)))), (g2, .inl (cD, 512, .inl (fun jx => mb_sg (u.2.1 jx))))]) (hS : va_S (fun q : Nat => s.heap.size ≤ q) s.heap H locs) {ls : Array Slot} (hl : lv_has ls 4 [(0, .ref b), (1, .ref h0), (2, .ref g0), (3, .int (nI i))]) : W p l e room_1 s m #[Value.ref b] below meth c H locs 6 9223 (lw_Z below #[Value.ref b] s) (F0 m 213 ls []) := by
  obtain ⟨hx, hb, hr, hml, hown, hts, hX, hbl, hlocks, hgv⟩ := C0
  have hown : s.vm.findClass RL = some m.cls := hown
  have hts : ∀ w ∈ wsL_law, w.before #[Value.ref b] s = true := fun w h => hts w (wsL_law_in w h)
  have hA : ∀ q : Nat, s.heap.size ≤ q → (fun q : Nat => s.heap.size ≤ q) q := fun _ h => h
  have hbA : ¬ (fun q : Nat => s.heap.size ≤ q) b := Nat.not_le.mpr hbl
  have hi1 : vp_in (nI i + 1) L := by rw [show nI i + 1 = nI (i + 1) from nI_add i 1]; exact vp_in_nI (by omega) (by omega)
  have hi2 : vp_in (nI i + 2) L := by rw [show nI i + 2 = nI (i + 2) from nI_add i 2]; exact vp_in_nI (by omega) (by omega)
  have hi3 : vp_in (nI i + 3) L := by rw [show nI i + 3 = nI (i + 3) from nI_add i 3]; exact vp_in_nI (by omega) (by omega)
  refine lv_aload_n hx hb dL_law_213 rfl (lv_at hl 1 rfl) ?_
  refine lv_aload_n hx hb dL_law_214 rfl (lv_at hl 0 rfl) ?_
  refine lv_iload_n hx hb dL_law_215 rfl (lv_at hl 3 rfl) ?_
  refine lv_iconst (v := 1) hx hb dL_law_216 (by decide) ?_
  refine lv_iadd hx hb dL_law_217 ?_
  refine va_sld hx hb hX hbl hbA hS hi1 dL_law_218 ?_
  refine lv_aload_n hx hb dL_law_219 rfl (lv_at hl 0 rfl) ?_
  refine lv_iload_n hx hb dL_law_220 rfl (lv_at hl 3 rfl) ?_
  refine lv_iconst (v := 2) hx hb dL_law_221 (by decide) ?_
  refine lv_iadd hx hb dL_law_222 ?_
  refine va_sld hx hb hX hbl hbA hS hi2 dL_law_223 ?_
  have hPc := hP.sub (ws' := [(h0, .inr (0, [.ref h1, .ref h2, .int u.2.2])), (h1, .inl (cA, 4096, .inl u.1)), (h2, .inl (cB, 512, .inl u.2.1))]) [0, 1, 2] rfl
  have hDc := hD.sub (ws' := [(h0, .inr (0, [.ref h1, .ref h2, .int u.2.2])), (h1, .inl (cA, 4096, .inl u.1)), (h2, .inl (cB, 512, .inl u.2.1))]) [0, 1, 2] (by decide) rfl
  have hKc := hK.sub (tys' := [(cA, .int), (cB, .int)]) [0, 1] rfl
  have hFc := va_free (wc := [(h0, .inr (0, [.ref h1, .ref h2, .int u.2.2])), (h1, .inl (cA, 4096, .inl u.1)), (h2, .inl (cB, 512, .inl u.2.1))]) hD hS hA [0, 1, 2] rfl
  refine va_calli (va_runV (As := [.int (xs ((nI i) + 1).toNatClampNeg), .int (xs ((nI i) + 2).toNatClampNeg)]) (rest := []) ⟨hx, hb, hml, hown, hts⟩ (c_dump l dC dI H.size h0 h1 h2 cA cB u (xs (nI i + 1).toNatClampNeg) (xs (nI i + 2).toNatClampNeg) hu.1) (cwV 2 hts gL_law_X0_dump rfl rfl rfl (by decide +kernel) ⟨Nat.le_of_ble_eq_true rfl, Nat.le_of_ble_eq_true rfl⟩) ⟨fun a U g mk q => by obtain ⟨q0, q1, qP, qK, qD⟩ := q; exact ⟨q0, q1, qP, va_K.moved (u := U) (U := U.calling g mk a) (Vm.Alike.refl U.vm) qK, qD⟩, va_recv hKc hPc (ci := 0) (q0 := 0) rfl rfl, fun U hU hW => ⟨rfl, by rw [hU], by rw [hU]; exact hPc, va_K.moved hW.alike hKc, hDc.weaken (fun _ _ _ _ => trivial)⟩⟩ rfl rfl hl.1 rfl (lv_room (Nat.le_of_ble_eq_true rfl)) dL_law_224 ⟨by decide +kernel, by decide +kernel⟩) hS (fun q _ h => hFc q h) hFc (fun r1 u1 t H1 locs ht hvm hw_u1 hB hz1 hk1 hS => ?_)
  obtain ⟨hP1, hK1, hD1⟩ := hB
  rw [ht] at hP1
  obtain ⟨hP, hD⟩ := va_join (wr := [(g0, .inr (1, [.int 0, .ref g1, .ref g2, .int u.2.2])), (g1, .inl (cC, 4096, .inl (fun jx => mb_sg (u.1 jx)))), (g2, .inl (cD, 512, .inl (fun jx => mb_sg (u.2.1 jx))))]) (w1 := [(h0, .inr (0, [.ref h1, .ref h2, .int u1.2.2])), (h1, .inl (cA, 4096, .inl u1.1)), (h2, .inl (cB, 512, .inl u1.2.1))]) hP hD [0, 1, 2] [3, 4, 5] rfl rfl (by decide) (by decide) hk1 hFc hP1 hD1
  clear hPc hDc hFc hk1 hP1 hD1 ht
  generalize H1 = H at hP hS ⊢
  have hP : va_P (dC, dI) vwCl [(g0, .inr (1, [.int 0, .ref g1, .ref g2, .int u.2.2])), (g1, .inl (cC, 4096, .inl (fun jx => mb_sg (u.1 jx)))), (g2, .inl (cD, 512, .inl (fun jx => mb_sg (u.2.1 jx)))), (h0, .inr (0, [.ref h1, .ref h2, .int u1.2.2])), (h1, .inl (cA, 4096, .inl u1.1)), (h2, .inl (cB, 512, .inl u1.2.1))] H := hP
  have hD : va_D (fun q : Nat => s.heap.size ≤ q) [(g0, .inr (1, [.int 0, .ref g1, .ref g2, .int u.2.2])), (g1, .inl (cC, 4096, .inl (fun jx => mb_sg (u.1 jx)))), (g2, .inl (cD, 512, .inl (fun jx => mb_sg (u.2.1 jx)))), (h0, .inr (0, [.ref h1, .ref h2, .int u1.2.2])), (h1, .inl (cA, 4096, .inl u1.1)), (h2, .inl (cB, 512, .inl u1.2.1))] := hD
  refine lv_aload_n hx hb dL_law_227 rfl (lv_at hl 2 rfl) ?_
  refine lv_aload_n hx hb dL_law_228 rfl (lv_at hl 0 rfl) ?_
  refine lv_iload_n hx hb dL_law_229 rfl (lv_at hl 3 rfl) ?_
  refine lv_iconst (v := 1) hx hb dL_law_230 (by decide) ?_
  refine lv_iadd hx hb dL_law_231 ?_
  refine va_sld hx hb hX hbl hbA hS hi1 dL_law_232 ?_
  refine lv_aload_n hx hb dL_law_233 rfl (lv_at hl 0 rfl) ?_
  refine lv_iload_n hx hb dL_law_234 rfl (lv_at hl 3 rfl) ?_
  refine lv_iconst (v := 2) hx hb dL_law_235 (by decide) ?_
  refine lv_iadd hx hb dL_law_236 ?_
  refine va_sld hx hb hX hbl hbA hS hi2 dL_law_237 ?_
  have hPc := hP.sub (ws' := [(g0, .inr (1, [.int 0, .ref g1, .ref g2, .int u.2.2])), (g1, .inl (cC, 4096, .inl (fun jx => mb_sg (u.1 jx)))), (g2, .inl (cD, 512, .inl (fun jx => mb_sg (u.2.1 jx))))]) [0, 1, 2] rfl
  have hDc := hD.sub (ws' := [(g0, .inr (1, [.int 0, .ref g1, .ref g2, .int u.2.2])), (g1, .inl (cC, 4096, .inl (fun jx => mb_sg (u.1 jx)))), (g2, .inl (cD, 512, .inl (fun jx => mb_sg (u.2.1 jx))))]) [0, 1, 2] (by decide) rfl
  have hKc := hK.sub (tys' := [(cC, .byte), (cD, .byte)]) [2, 3] rfl
  have hFc := va_free (wc := [(g0, .inr (1, [.int 0, .ref g1, .ref g2, .int u.2.2])), (g1, .inl (cC, 4096, .inl (fun jx => mb_sg (u.1 jx)))), (g2, .inl (cD, 512, .inl (fun jx => mb_sg (u.2.1 jx))))]) hD hS hA [0, 1, 2] rfl
  refine va_calli (va_runV (As := [.int (xs ((nI i) + 1).toNatClampNeg), .int (xs ((nI i) + 2).toNatClampNeg)]) (rest := [.int r1]) ⟨hx, hb, hml, hown, hts⟩ (c_mdump l dC dI H.size g0 g1 g2 cC cD u (xs (nI i + 1).toNatClampNeg) (xs (nI i + 2).toNatClampNeg) hu) (cwV 2 hts gL_law_X1_dump rfl rfl rfl (by decide +kernel) ⟨Nat.le_of_ble_eq_true rfl, Nat.le_of_ble_eq_true rfl⟩) ⟨fun a U g mk q => by obtain ⟨q0, q1, qP, qK, qD⟩ := q; exact ⟨q0, q1, qP, va_K.moved (u := U) (U := U.calling g mk a) (Vm.Alike.refl U.vm) qK, qD⟩, va_recv hKc hPc (ci := 1) (q0 := 0) rfl rfl, fun U hU hW => ⟨rfl, by rw [hU], by rw [hU]; exact hPc, va_K.moved hW.alike hKc, hDc.weaken (fun _ _ _ _ => trivial)⟩⟩ rfl rfl hl.1 rfl (lv_room (Nat.le_of_ble_eq_true rfl)) dL_law_238 ⟨by decide +kernel, by decide +kernel⟩) hS (fun q _ h => hFc q h) hFc (fun r2 u2 t H1 locs ht hvm hw_u2 hB hz1 hk1 hS => ?_)
  obtain ⟨hP1, hK1, hD1⟩ := hB
  rw [ht] at hP1
  obtain ⟨hP, hD⟩ := va_join (wr := [(h0, .inr (0, [.ref h1, .ref h2, .int u1.2.2])), (h1, .inl (cA, 4096, .inl u1.1)), (h2, .inl (cB, 512, .inl u1.2.1))]) (w1 := [(g0, .inr (1, [.int 0, .ref g1, .ref g2, .int u2.2.2])), (g1, .inl (cC, 4096, .inl (fun jx => mb_sg (u2.1 jx)))), (g2, .inl (cD, 512, .inl (fun jx => mb_sg (u2.2.1 jx))))]) hP hD [0, 1, 2] [3, 4, 5] rfl rfl (by decide) (by decide) hk1 hFc hP1 hD1
  clear hPc hDc hFc hk1 hP1 hD1 ht
  generalize H1 = H at hP hS ⊢
  have hP : va_P (dC, dI) vwCl [(h0, .inr (0, [.ref h1, .ref h2, .int u1.2.2])), (h1, .inl (cA, 4096, .inl u1.1)), (h2, .inl (cB, 512, .inl u1.2.1)), (g0, .inr (1, [.int 0, .ref g1, .ref g2, .int u2.2.2])), (g1, .inl (cC, 4096, .inl (fun jx => mb_sg (u2.1 jx)))), (g2, .inl (cD, 512, .inl (fun jx => mb_sg (u2.2.1 jx))))] H := hP
  have hD : va_D (fun q : Nat => s.heap.size ≤ q) [(h0, .inr (0, [.ref h1, .ref h2, .int u1.2.2])), (h1, .inl (cA, 4096, .inl u1.1)), (h2, .inl (cB, 512, .inl u1.2.1)), (g0, .inr (1, [.int 0, .ref g1, .ref g2, .int u2.2.2])), (g1, .inl (cC, 4096, .inl (fun jx => mb_sg (u2.1 jx)))), (g2, .inl (cD, 512, .inl (fun jx => mb_sg (u2.2.1 jx))))] := hD
  obtain ⟨e1, e2⟩ := Prod.mk.inj (hw_u1.symm.trans hw_u2)
  subst e1
  subst e2
  have hu1 : mb_inv (mb_dump u (xs (nI i + 1).toNatClampNeg) (xs (nI i + 2).toNatClampNeg)).2 := mb_dump_inv hu (xs (nI i + 1).toNatClampNeg) (xs (nI i + 2).toNatClampNeg)
  rw [hw_u1] at hu1
  refine lv_icmp_eq (tgt := 338) hx hb dL_law_241 (by decide) (fun c1 => ?_) (fun c1 => ?_)
  · exact kk u1 _ _ ls hu1 hP hD hS hl
  · exact absurd rfl c1
set_option maxHeartbeats 2000000 in
set_option maxRecDepth 100000 in
/-- the law at check: both answer alike, and stand alike behind it -/
theorem lo_check {p : Program} {l : Launch} {e : Env} {s : State} {m : MethodId} {below : List Frame} {meth : Method} {c : Code} {dC : Nat → ClassId} {dI : Nat → Nat → Nat} {b L : Nat} {xs : Nat → Int32} (hL : L ≤ 2048) (C0 : lw_At p s m meth c b L xs) {h0 h1 h2 g0 g1 g2 : Nat} {cA cB cC cD : ClassId} (hK : va_K (dC, dI) vwCl [(cA, .int), (cB, .int), (cC, .byte), (cD, .byte)] s) {i : Nat} (hi : i + 4 ≤ L) (kk : ∀ (u : Bk_) (H : Heap) (locs : List Loc) (ls : Array Slot), mb_inv u → va_P (dC, dI) vwCl [(h0, .inr (0, [.ref h1, .ref h2, .int u.2.2])), (h1, .inl (cA, 4096, .inl u.1)), (h2, .inl (cB, 512, .inl u.2.1)), (g0, .inr (1, [.int 0, .ref g1, .ref g2, .int u.2.2])), (g1, .inl (cC, 4096, .inl (fun jx => mb_sg (u.1 jx)))), (g2, .inl (cD, 512, .inl (fun jx => mb_sg (u.2.1 jx))))] H → va_D (fun q : Nat => s.heap.size ≤ q) [(h0, .inr (0, [.ref h1, .ref h2, .int u.2.2])), (h1, .inl (cA, 4096, .inl u.1)), (h2, .inl (cB, 512, .inl u.2.1)), (g0, .inr (1, [.int 0, .ref g1, .ref g2, .int u.2.2])), (g1, .inl (cC, 4096, .inl (fun jx => mb_sg (u.1 jx)))), (g2, .inl (cD, 512, .inl (fun jx => mb_sg (u.2.1 jx))))] → va_S (fun q : Nat => s.heap.size ≤ q) s.heap H locs → lv_has ls 4 [(0, .ref b), (1, .ref h0), (2, .ref g0), (3, .int (nI i))] → W p l e room_1 s m #[Value.ref b] below meth c H locs 6 9223 (lw_Z below #[Value.ref b] s) (F0 m 338 ls [])) {u : Bk_} (hu : mb_inv u) {H : Heap} {locs : List Loc} (hP : va_P (dC, dI) vwCl [(h0, .inr (0, [.ref h1, .ref h2, .int u.2.2])), (h1, .inl (cA, 4096, .inl u.1)), (h2, .inl (cB, 512, .inl u.2.1)), (g0, .inr (1, [.int 0, .ref g1, .ref g2, .int u.2.2])), (g1, .inl (cC, 4096, .inl (fun jx => mb_sg (u.1 jx)))), (g2, .inl (cD, 512, .inl (fun jx => mb_sg (u.2.1 jx))))] H) (hD : va_D (fun q : Nat => s.heap.size ≤ q) [(h0, .inr (0, [.ref h1, .ref h2, .int u.2.2])), (h1, .inl (cA, 4096, .inl u.1)), (h2, .inl (cB, 512, .inl u.2.1)), (g0, .inr (1, [.int 0, .ref g1, .ref g2, .int u.2.2])), (g1, .inl (cC, 4096, .inl (fun jx => mb_sg (u.1 jx)))), (g2, .inl (cD, 512, .inl (fun jx => mb_sg (u.2.1 jx))))]) (hS : va_S (fun q : Nat => s.heap.size ≤ q) s.heap H locs) {ls : Array Slot} (hl : lv_has ls 4 [(0, .ref b), (1, .ref h0), (2, .ref g0), (3, .int (nI i))]) : W p l e room_1 s m #[Value.ref b] below meth c H locs 6 9223 (lw_Z below #[Value.ref b] s) (F0 m 246 ls []) := by
  obtain ⟨hx, hb, hr, hml, hown, hts, hX, hbl, hlocks, hgv⟩ := C0
  have hown : s.vm.findClass RL = some m.cls := hown
  have hts : ∀ w ∈ wsL_law, w.before #[Value.ref b] s = true := fun w h => hts w (wsL_law_in w h)
  have hA : ∀ q : Nat, s.heap.size ≤ q → (fun q : Nat => s.heap.size ≤ q) q := fun _ h => h
  have hbA : ¬ (fun q : Nat => s.heap.size ≤ q) b := Nat.not_le.mpr hbl
  have hi1 : vp_in (nI i + 1) L := by rw [show nI i + 1 = nI (i + 1) from nI_add i 1]; exact vp_in_nI (by omega) (by omega)
  have hi2 : vp_in (nI i + 2) L := by rw [show nI i + 2 = nI (i + 2) from nI_add i 2]; exact vp_in_nI (by omega) (by omega)
  have hi3 : vp_in (nI i + 3) L := by rw [show nI i + 3 = nI (i + 3) from nI_add i 3]; exact vp_in_nI (by omega) (by omega)
  refine lv_aload_n hx hb dL_law_246 rfl (lv_at hl 1 rfl) ?_
  refine lv_aload_n hx hb dL_law_247 rfl (lv_at hl 0 rfl) ?_
  refine lv_iload_n hx hb dL_law_248 rfl (lv_at hl 3 rfl) ?_
  refine lv_iconst (v := 1) hx hb dL_law_249 (by decide) ?_
  refine lv_iadd hx hb dL_law_250 ?_
  refine va_sld hx hb hX hbl hbA hS hi1 dL_law_251 ?_
  refine lv_aload_n hx hb dL_law_252 rfl (lv_at hl 0 rfl) ?_
  refine lv_iload_n hx hb dL_law_253 rfl (lv_at hl 3 rfl) ?_
  refine lv_iconst (v := 2) hx hb dL_law_254 (by decide) ?_
  refine lv_iadd hx hb dL_law_255 ?_
  refine va_sld hx hb hX hbl hbA hS hi2 dL_law_256 ?_
  have hPc := hP.sub (ws' := [(h0, .inr (0, [.ref h1, .ref h2, .int u.2.2])), (h1, .inl (cA, 4096, .inl u.1)), (h2, .inl (cB, 512, .inl u.2.1))]) [0, 1, 2] rfl
  have hDc := hD.sub (ws' := [(h0, .inr (0, [.ref h1, .ref h2, .int u.2.2])), (h1, .inl (cA, 4096, .inl u.1)), (h2, .inl (cB, 512, .inl u.2.1))]) [0, 1, 2] (by decide) rfl
  have hKc := hK.sub (tys' := [(cA, .int), (cB, .int)]) [0, 1] rfl
  have hFc := va_free (wc := [(h0, .inr (0, [.ref h1, .ref h2, .int u.2.2])), (h1, .inl (cA, 4096, .inl u.1)), (h2, .inl (cB, 512, .inl u.2.1))]) hD hS hA [0, 1, 2] rfl
  refine va_calli (va_runV (As := [.int (xs ((nI i) + 1).toNatClampNeg), .int (xs ((nI i) + 2).toNatClampNeg)]) (rest := []) ⟨hx, hb, hml, hown, hts⟩ (c_check l dC dI H.size h0 h1 h2 cA cB u (xs (nI i + 1).toNatClampNeg) (xs (nI i + 2).toNatClampNeg) hu.1) (cwV 2 hts gL_law_X0_check rfl rfl rfl (by decide +kernel) ⟨Nat.le_of_ble_eq_true rfl, Nat.le_of_ble_eq_true rfl⟩) ⟨fun a U g mk q => by obtain ⟨q0, q1, qP, qK, qD⟩ := q; exact ⟨q0, q1, qP, va_K.moved (u := U) (U := U.calling g mk a) (Vm.Alike.refl U.vm) qK, qD⟩, va_recv hKc hPc (ci := 0) (q0 := 0) rfl rfl, fun U hU hW => ⟨rfl, by rw [hU], by rw [hU]; exact hPc, va_K.moved hW.alike hKc, hDc.weaken (fun _ _ _ _ => trivial)⟩⟩ rfl rfl hl.1 rfl (lv_room (Nat.le_of_ble_eq_true rfl)) dL_law_257 ⟨by decide +kernel, by decide +kernel⟩) hS (fun q _ h => hFc q h) hFc (fun r1 u1 t H1 locs ht hvm hw_u1 hB hz1 hk1 hS => ?_)
  obtain ⟨hP1, hK1, hD1⟩ := hB
  rw [ht] at hP1
  obtain ⟨hP, hD⟩ := va_join (wr := [(g0, .inr (1, [.int 0, .ref g1, .ref g2, .int u.2.2])), (g1, .inl (cC, 4096, .inl (fun jx => mb_sg (u.1 jx)))), (g2, .inl (cD, 512, .inl (fun jx => mb_sg (u.2.1 jx))))]) (w1 := [(h0, .inr (0, [.ref h1, .ref h2, .int u1.2.2])), (h1, .inl (cA, 4096, .inl u1.1)), (h2, .inl (cB, 512, .inl u1.2.1))]) hP hD [0, 1, 2] [3, 4, 5] rfl rfl (by decide) (by decide) hk1 hFc hP1 hD1
  clear hPc hDc hFc hk1 hP1 hD1 ht
  generalize H1 = H at hP hS ⊢
  have hP : va_P (dC, dI) vwCl [(g0, .inr (1, [.int 0, .ref g1, .ref g2, .int u.2.2])), (g1, .inl (cC, 4096, .inl (fun jx => mb_sg (u.1 jx)))), (g2, .inl (cD, 512, .inl (fun jx => mb_sg (u.2.1 jx)))), (h0, .inr (0, [.ref h1, .ref h2, .int u1.2.2])), (h1, .inl (cA, 4096, .inl u1.1)), (h2, .inl (cB, 512, .inl u1.2.1))] H := hP
  have hD : va_D (fun q : Nat => s.heap.size ≤ q) [(g0, .inr (1, [.int 0, .ref g1, .ref g2, .int u.2.2])), (g1, .inl (cC, 4096, .inl (fun jx => mb_sg (u.1 jx)))), (g2, .inl (cD, 512, .inl (fun jx => mb_sg (u.2.1 jx)))), (h0, .inr (0, [.ref h1, .ref h2, .int u1.2.2])), (h1, .inl (cA, 4096, .inl u1.1)), (h2, .inl (cB, 512, .inl u1.2.1))] := hD
  refine lv_aload_n hx hb dL_law_260 rfl (lv_at hl 2 rfl) ?_
  refine lv_aload_n hx hb dL_law_261 rfl (lv_at hl 0 rfl) ?_
  refine lv_iload_n hx hb dL_law_262 rfl (lv_at hl 3 rfl) ?_
  refine lv_iconst (v := 1) hx hb dL_law_263 (by decide) ?_
  refine lv_iadd hx hb dL_law_264 ?_
  refine va_sld hx hb hX hbl hbA hS hi1 dL_law_265 ?_
  refine lv_aload_n hx hb dL_law_266 rfl (lv_at hl 0 rfl) ?_
  refine lv_iload_n hx hb dL_law_267 rfl (lv_at hl 3 rfl) ?_
  refine lv_iconst (v := 2) hx hb dL_law_268 (by decide) ?_
  refine lv_iadd hx hb dL_law_269 ?_
  refine va_sld hx hb hX hbl hbA hS hi2 dL_law_270 ?_
  have hPc := hP.sub (ws' := [(g0, .inr (1, [.int 0, .ref g1, .ref g2, .int u.2.2])), (g1, .inl (cC, 4096, .inl (fun jx => mb_sg (u.1 jx)))), (g2, .inl (cD, 512, .inl (fun jx => mb_sg (u.2.1 jx))))]) [0, 1, 2] rfl
  have hDc := hD.sub (ws' := [(g0, .inr (1, [.int 0, .ref g1, .ref g2, .int u.2.2])), (g1, .inl (cC, 4096, .inl (fun jx => mb_sg (u.1 jx)))), (g2, .inl (cD, 512, .inl (fun jx => mb_sg (u.2.1 jx))))]) [0, 1, 2] (by decide) rfl
  have hKc := hK.sub (tys' := [(cC, .byte), (cD, .byte)]) [2, 3] rfl
  have hFc := va_free (wc := [(g0, .inr (1, [.int 0, .ref g1, .ref g2, .int u.2.2])), (g1, .inl (cC, 4096, .inl (fun jx => mb_sg (u.1 jx)))), (g2, .inl (cD, 512, .inl (fun jx => mb_sg (u.2.1 jx))))]) hD hS hA [0, 1, 2] rfl
  refine va_calli (va_runV (As := [.int (xs ((nI i) + 1).toNatClampNeg), .int (xs ((nI i) + 2).toNatClampNeg)]) (rest := [.int r1]) ⟨hx, hb, hml, hown, hts⟩ (c_mcheck l dC dI H.size g0 g1 g2 cC cD u (xs (nI i + 1).toNatClampNeg) (xs (nI i + 2).toNatClampNeg) hu) (cwV 2 hts gL_law_X1_check rfl rfl rfl (by decide +kernel) ⟨Nat.le_of_ble_eq_true rfl, Nat.le_of_ble_eq_true rfl⟩) ⟨fun a U g mk q => by obtain ⟨q0, q1, qP, qK, qD⟩ := q; exact ⟨q0, q1, qP, va_K.moved (u := U) (U := U.calling g mk a) (Vm.Alike.refl U.vm) qK, qD⟩, va_recv hKc hPc (ci := 1) (q0 := 0) rfl rfl, fun U hU hW => ⟨rfl, by rw [hU], by rw [hU]; exact hPc, va_K.moved hW.alike hKc, hDc.weaken (fun _ _ _ _ => trivial)⟩⟩ rfl rfl hl.1 rfl (lv_room (Nat.le_of_ble_eq_true rfl)) dL_law_271 ⟨by decide +kernel, by decide +kernel⟩) hS (fun q _ h => hFc q h) hFc (fun r2 u2 t H1 locs ht hvm hw_u2 hB hz1 hk1 hS => ?_)
  obtain ⟨hP1, hK1, hD1⟩ := hB
  rw [ht] at hP1
  obtain ⟨hP, hD⟩ := va_join (wr := [(h0, .inr (0, [.ref h1, .ref h2, .int u1.2.2])), (h1, .inl (cA, 4096, .inl u1.1)), (h2, .inl (cB, 512, .inl u1.2.1))]) (w1 := [(g0, .inr (1, [.int 0, .ref g1, .ref g2, .int u2.2.2])), (g1, .inl (cC, 4096, .inl (fun jx => mb_sg (u2.1 jx)))), (g2, .inl (cD, 512, .inl (fun jx => mb_sg (u2.2.1 jx))))]) hP hD [0, 1, 2] [3, 4, 5] rfl rfl (by decide) (by decide) hk1 hFc hP1 hD1
  clear hPc hDc hFc hk1 hP1 hD1 ht
  generalize H1 = H at hP hS ⊢
  have hP : va_P (dC, dI) vwCl [(h0, .inr (0, [.ref h1, .ref h2, .int u1.2.2])), (h1, .inl (cA, 4096, .inl u1.1)), (h2, .inl (cB, 512, .inl u1.2.1)), (g0, .inr (1, [.int 0, .ref g1, .ref g2, .int u2.2.2])), (g1, .inl (cC, 4096, .inl (fun jx => mb_sg (u2.1 jx)))), (g2, .inl (cD, 512, .inl (fun jx => mb_sg (u2.2.1 jx))))] H := hP
  have hD : va_D (fun q : Nat => s.heap.size ≤ q) [(h0, .inr (0, [.ref h1, .ref h2, .int u1.2.2])), (h1, .inl (cA, 4096, .inl u1.1)), (h2, .inl (cB, 512, .inl u1.2.1)), (g0, .inr (1, [.int 0, .ref g1, .ref g2, .int u2.2.2])), (g1, .inl (cC, 4096, .inl (fun jx => mb_sg (u2.1 jx)))), (g2, .inl (cD, 512, .inl (fun jx => mb_sg (u2.2.1 jx))))] := hD
  obtain ⟨e1, e2⟩ := Prod.mk.inj (hw_u1.symm.trans hw_u2)
  subst e1
  subst e2
  have hu1 : mb_inv (mb_check u (xs (nI i + 1).toNatClampNeg) (xs (nI i + 2).toNatClampNeg)).2 := by unfold mb_check; exact mb_rd_inv hu
  rw [hw_u1] at hu1
  refine lv_icmp_eq (tgt := 338) hx hb dL_law_274 (by decide) (fun c1 => ?_) (fun c1 => ?_)
  · exact kk u1 _ _ ls hu1 hP hD hS hl
  · exact absurd rfl c1
set_option maxHeartbeats 2000000 in
set_option maxRecDepth 100000 in
/-- the law at rowCheck: both answer alike, and stand alike behind it -/
theorem lo_rowCheck {p : Program} {l : Launch} {e : Env} {s : State} {m : MethodId} {below : List Frame} {meth : Method} {c : Code} {dC : Nat → ClassId} {dI : Nat → Nat → Nat} {b L : Nat} {xs : Nat → Int32} (hL : L ≤ 2048) (C0 : lw_At p s m meth c b L xs) {h0 h1 h2 g0 g1 g2 : Nat} {cA cB cC cD : ClassId} (hK : va_K (dC, dI) vwCl [(cA, .int), (cB, .int), (cC, .byte), (cD, .byte)] s) {i : Nat} (hi : i + 4 ≤ L) (kk : ∀ (u : Bk_) (H : Heap) (locs : List Loc) (ls : Array Slot), mb_inv u → va_P (dC, dI) vwCl [(h0, .inr (0, [.ref h1, .ref h2, .int u.2.2])), (h1, .inl (cA, 4096, .inl u.1)), (h2, .inl (cB, 512, .inl u.2.1)), (g0, .inr (1, [.int 0, .ref g1, .ref g2, .int u.2.2])), (g1, .inl (cC, 4096, .inl (fun jx => mb_sg (u.1 jx)))), (g2, .inl (cD, 512, .inl (fun jx => mb_sg (u.2.1 jx))))] H → va_D (fun q : Nat => s.heap.size ≤ q) [(h0, .inr (0, [.ref h1, .ref h2, .int u.2.2])), (h1, .inl (cA, 4096, .inl u.1)), (h2, .inl (cB, 512, .inl u.2.1)), (g0, .inr (1, [.int 0, .ref g1, .ref g2, .int u.2.2])), (g1, .inl (cC, 4096, .inl (fun jx => mb_sg (u.1 jx)))), (g2, .inl (cD, 512, .inl (fun jx => mb_sg (u.2.1 jx))))] → va_S (fun q : Nat => s.heap.size ≤ q) s.heap H locs → lv_has ls 4 [(0, .ref b), (1, .ref h0), (2, .ref g0), (3, .int (nI i))] → W p l e room_1 s m #[Value.ref b] below meth c H locs 6 9223 (lw_Z below #[Value.ref b] s) (F0 m 338 ls [])) {u : Bk_} (hu : mb_inv u) {H : Heap} {locs : List Loc} (hP : va_P (dC, dI) vwCl [(h0, .inr (0, [.ref h1, .ref h2, .int u.2.2])), (h1, .inl (cA, 4096, .inl u.1)), (h2, .inl (cB, 512, .inl u.2.1)), (g0, .inr (1, [.int 0, .ref g1, .ref g2, .int u.2.2])), (g1, .inl (cC, 4096, .inl (fun jx => mb_sg (u.1 jx)))), (g2, .inl (cD, 512, .inl (fun jx => mb_sg (u.2.1 jx))))] H) (hD : va_D (fun q : Nat => s.heap.size ≤ q) [(h0, .inr (0, [.ref h1, .ref h2, .int u.2.2])), (h1, .inl (cA, 4096, .inl u.1)), (h2, .inl (cB, 512, .inl u.2.1)), (g0, .inr (1, [.int 0, .ref g1, .ref g2, .int u.2.2])), (g1, .inl (cC, 4096, .inl (fun jx => mb_sg (u.1 jx)))), (g2, .inl (cD, 512, .inl (fun jx => mb_sg (u.2.1 jx))))]) (hS : va_S (fun q : Nat => s.heap.size ≤ q) s.heap H locs) {ls : Array Slot} (hl : lv_has ls 4 [(0, .ref b), (1, .ref h0), (2, .ref g0), (3, .int (nI i))]) : W p l e room_1 s m #[Value.ref b] below meth c H locs 6 9223 (lw_Z below #[Value.ref b] s) (F0 m 279 ls []) := by
  obtain ⟨hx, hb, hr, hml, hown, hts, hX, hbl, hlocks, hgv⟩ := C0
  have hown : s.vm.findClass RL = some m.cls := hown
  have hts : ∀ w ∈ wsL_law, w.before #[Value.ref b] s = true := fun w h => hts w (wsL_law_in w h)
  have hA : ∀ q : Nat, s.heap.size ≤ q → (fun q : Nat => s.heap.size ≤ q) q := fun _ h => h
  have hbA : ¬ (fun q : Nat => s.heap.size ≤ q) b := Nat.not_le.mpr hbl
  have hi1 : vp_in (nI i + 1) L := by rw [show nI i + 1 = nI (i + 1) from nI_add i 1]; exact vp_in_nI (by omega) (by omega)
  have hi2 : vp_in (nI i + 2) L := by rw [show nI i + 2 = nI (i + 2) from nI_add i 2]; exact vp_in_nI (by omega) (by omega)
  have hi3 : vp_in (nI i + 3) L := by rw [show nI i + 3 = nI (i + 3) from nI_add i 3]; exact vp_in_nI (by omega) (by omega)
  refine lv_aload_n hx hb dL_law_279 rfl (lv_at hl 1 rfl) ?_
  refine lv_aload_n hx hb dL_law_280 rfl (lv_at hl 0 rfl) ?_
  refine lv_iload_n hx hb dL_law_281 rfl (lv_at hl 3 rfl) ?_
  refine lv_iconst (v := 1) hx hb dL_law_282 (by decide) ?_
  refine lv_iadd hx hb dL_law_283 ?_
  refine va_sld hx hb hX hbl hbA hS hi1 dL_law_284 ?_
  have hPc := hP.sub (ws' := [(h0, .inr (0, [.ref h1, .ref h2, .int u.2.2])), (h1, .inl (cA, 4096, .inl u.1)), (h2, .inl (cB, 512, .inl u.2.1))]) [0, 1, 2] rfl
  have hDc := hD.sub (ws' := [(h0, .inr (0, [.ref h1, .ref h2, .int u.2.2])), (h1, .inl (cA, 4096, .inl u.1)), (h2, .inl (cB, 512, .inl u.2.1))]) [0, 1, 2] (by decide) rfl
  have hKc := hK.sub (tys' := [(cA, .int), (cB, .int)]) [0, 1] rfl
  have hFc := va_free (wc := [(h0, .inr (0, [.ref h1, .ref h2, .int u.2.2])), (h1, .inl (cA, 4096, .inl u.1)), (h2, .inl (cB, 512, .inl u.2.1))]) hD hS hA [0, 1, 2] rfl
  refine va_calli (va_runV (As := [.int (xs ((nI i) + 1).toNatClampNeg)]) (rest := []) ⟨hx, hb, hml, hown, hts⟩ (c_rowCheck l dC dI H.size h0 h1 h2 cA cB u (xs (nI i + 1).toNatClampNeg) hu.1) (cwV 1 hts gL_law_X0_rowCheck rfl rfl rfl (by decide +kernel) ⟨Nat.le_of_ble_eq_true rfl, Nat.le_of_ble_eq_true rfl⟩) ⟨fun a U g mk q => by obtain ⟨q0, q1, qP, qK, qD⟩ := q; exact ⟨q0, q1, qP, va_K.moved (u := U) (U := U.calling g mk a) (Vm.Alike.refl U.vm) qK, qD⟩, va_recv hKc hPc (ci := 0) (q0 := 0) rfl rfl, fun U hU hW => ⟨rfl, by rw [hU], by rw [hU]; exact hPc, va_K.moved hW.alike hKc, hDc.weaken (fun _ _ _ _ => trivial)⟩⟩ rfl rfl hl.1 rfl (lv_room (Nat.le_of_ble_eq_true rfl)) dL_law_285 ⟨by decide +kernel, by decide +kernel⟩) hS (fun q _ h => hFc q h) hFc (fun r1 u1 t H1 locs ht hvm hw_u1 hB hz1 hk1 hS => ?_)
  obtain ⟨hP1, hK1, hD1⟩ := hB
  rw [ht] at hP1
  obtain ⟨hP, hD⟩ := va_join (wr := [(g0, .inr (1, [.int 0, .ref g1, .ref g2, .int u.2.2])), (g1, .inl (cC, 4096, .inl (fun jx => mb_sg (u.1 jx)))), (g2, .inl (cD, 512, .inl (fun jx => mb_sg (u.2.1 jx))))]) (w1 := [(h0, .inr (0, [.ref h1, .ref h2, .int u1.2.2])), (h1, .inl (cA, 4096, .inl u1.1)), (h2, .inl (cB, 512, .inl u1.2.1))]) hP hD [0, 1, 2] [3, 4, 5] rfl rfl (by decide) (by decide) hk1 hFc hP1 hD1
  clear hPc hDc hFc hk1 hP1 hD1 ht
  generalize H1 = H at hP hS ⊢
  have hP : va_P (dC, dI) vwCl [(g0, .inr (1, [.int 0, .ref g1, .ref g2, .int u.2.2])), (g1, .inl (cC, 4096, .inl (fun jx => mb_sg (u.1 jx)))), (g2, .inl (cD, 512, .inl (fun jx => mb_sg (u.2.1 jx)))), (h0, .inr (0, [.ref h1, .ref h2, .int u1.2.2])), (h1, .inl (cA, 4096, .inl u1.1)), (h2, .inl (cB, 512, .inl u1.2.1))] H := hP
  have hD : va_D (fun q : Nat => s.heap.size ≤ q) [(g0, .inr (1, [.int 0, .ref g1, .ref g2, .int u.2.2])), (g1, .inl (cC, 4096, .inl (fun jx => mb_sg (u.1 jx)))), (g2, .inl (cD, 512, .inl (fun jx => mb_sg (u.2.1 jx)))), (h0, .inr (0, [.ref h1, .ref h2, .int u1.2.2])), (h1, .inl (cA, 4096, .inl u1.1)), (h2, .inl (cB, 512, .inl u1.2.1))] := hD
  refine lv_aload_n hx hb dL_law_288 rfl (lv_at hl 2 rfl) ?_
  refine lv_aload_n hx hb dL_law_289 rfl (lv_at hl 0 rfl) ?_
  refine lv_iload_n hx hb dL_law_290 rfl (lv_at hl 3 rfl) ?_
  refine lv_iconst (v := 1) hx hb dL_law_291 (by decide) ?_
  refine lv_iadd hx hb dL_law_292 ?_
  refine va_sld hx hb hX hbl hbA hS hi1 dL_law_293 ?_
  have hPc := hP.sub (ws' := [(g0, .inr (1, [.int 0, .ref g1, .ref g2, .int u.2.2])), (g1, .inl (cC, 4096, .inl (fun jx => mb_sg (u.1 jx)))), (g2, .inl (cD, 512, .inl (fun jx => mb_sg (u.2.1 jx))))]) [0, 1, 2] rfl
  have hDc := hD.sub (ws' := [(g0, .inr (1, [.int 0, .ref g1, .ref g2, .int u.2.2])), (g1, .inl (cC, 4096, .inl (fun jx => mb_sg (u.1 jx)))), (g2, .inl (cD, 512, .inl (fun jx => mb_sg (u.2.1 jx))))]) [0, 1, 2] (by decide) rfl
  have hKc := hK.sub (tys' := [(cC, .byte), (cD, .byte)]) [2, 3] rfl
  have hFc := va_free (wc := [(g0, .inr (1, [.int 0, .ref g1, .ref g2, .int u.2.2])), (g1, .inl (cC, 4096, .inl (fun jx => mb_sg (u.1 jx)))), (g2, .inl (cD, 512, .inl (fun jx => mb_sg (u.2.1 jx))))]) hD hS hA [0, 1, 2] rfl
  refine va_calli (va_runV (As := [.int (xs ((nI i) + 1).toNatClampNeg)]) (rest := [.int r1]) ⟨hx, hb, hml, hown, hts⟩ (c_mrowCheck l dC dI H.size g0 g1 g2 cC cD u (xs (nI i + 1).toNatClampNeg) hu) (cwV 1 hts gL_law_X1_rowCheck rfl rfl rfl (by decide +kernel) ⟨Nat.le_of_ble_eq_true rfl, Nat.le_of_ble_eq_true rfl⟩) ⟨fun a U g mk q => by obtain ⟨q0, q1, qP, qK, qD⟩ := q; exact ⟨q0, q1, qP, va_K.moved (u := U) (U := U.calling g mk a) (Vm.Alike.refl U.vm) qK, qD⟩, va_recv hKc hPc (ci := 1) (q0 := 0) rfl rfl, fun U hU hW => ⟨rfl, by rw [hU], by rw [hU]; exact hPc, va_K.moved hW.alike hKc, hDc.weaken (fun _ _ _ _ => trivial)⟩⟩ rfl rfl hl.1 rfl (lv_room (Nat.le_of_ble_eq_true rfl)) dL_law_294 ⟨by decide +kernel, by decide +kernel⟩) hS (fun q _ h => hFc q h) hFc (fun r2 u2 t H1 locs ht hvm hw_u2 hB hz1 hk1 hS => ?_)
  obtain ⟨hP1, hK1, hD1⟩ := hB
  rw [ht] at hP1
  obtain ⟨hP, hD⟩ := va_join (wr := [(h0, .inr (0, [.ref h1, .ref h2, .int u1.2.2])), (h1, .inl (cA, 4096, .inl u1.1)), (h2, .inl (cB, 512, .inl u1.2.1))]) (w1 := [(g0, .inr (1, [.int 0, .ref g1, .ref g2, .int u2.2.2])), (g1, .inl (cC, 4096, .inl (fun jx => mb_sg (u2.1 jx)))), (g2, .inl (cD, 512, .inl (fun jx => mb_sg (u2.2.1 jx))))]) hP hD [0, 1, 2] [3, 4, 5] rfl rfl (by decide) (by decide) hk1 hFc hP1 hD1
  clear hPc hDc hFc hk1 hP1 hD1 ht
  generalize H1 = H at hP hS ⊢
  have hP : va_P (dC, dI) vwCl [(h0, .inr (0, [.ref h1, .ref h2, .int u1.2.2])), (h1, .inl (cA, 4096, .inl u1.1)), (h2, .inl (cB, 512, .inl u1.2.1)), (g0, .inr (1, [.int 0, .ref g1, .ref g2, .int u2.2.2])), (g1, .inl (cC, 4096, .inl (fun jx => mb_sg (u2.1 jx)))), (g2, .inl (cD, 512, .inl (fun jx => mb_sg (u2.2.1 jx))))] H := hP
  have hD : va_D (fun q : Nat => s.heap.size ≤ q) [(h0, .inr (0, [.ref h1, .ref h2, .int u1.2.2])), (h1, .inl (cA, 4096, .inl u1.1)), (h2, .inl (cB, 512, .inl u1.2.1)), (g0, .inr (1, [.int 0, .ref g1, .ref g2, .int u2.2.2])), (g1, .inl (cC, 4096, .inl (fun jx => mb_sg (u2.1 jx)))), (g2, .inl (cD, 512, .inl (fun jx => mb_sg (u2.2.1 jx))))] := hD
  obtain ⟨e1, e2⟩ := Prod.mk.inj (hw_u1.symm.trans hw_u2)
  subst e1
  subst e2
  have hu1 : mb_inv (mb_rowCheck u (xs (nI i + 1).toNatClampNeg)).2 := by unfold mb_rowCheck; exact mb_rd_inv hu
  rw [hw_u1] at hu1
  refine lv_icmp_eq (tgt := 338) hx hb dL_law_297 (by decide) (fun c1 => ?_) (fun c1 => ?_)
  · exact kk u1 _ _ ls hu1 hP hD hS hl
  · exact absurd rfl c1
set_option maxHeartbeats 2000000 in
set_option maxRecDepth 100000 in
/-- the law at seal: both answer alike, and stand alike behind it -/
theorem lo_seal {p : Program} {l : Launch} {e : Env} {s : State} {m : MethodId} {below : List Frame} {meth : Method} {c : Code} {dC : Nat → ClassId} {dI : Nat → Nat → Nat} {b L : Nat} {xs : Nat → Int32} (hL : L ≤ 2048) (C0 : lw_At p s m meth c b L xs) {h0 h1 h2 g0 g1 g2 : Nat} {cA cB cC cD : ClassId} (hK : va_K (dC, dI) vwCl [(cA, .int), (cB, .int), (cC, .byte), (cD, .byte)] s) {i : Nat} (hi : i + 4 ≤ L) (kk : ∀ (u : Bk_) (H : Heap) (locs : List Loc) (ls : Array Slot), mb_inv u → va_P (dC, dI) vwCl [(h0, .inr (0, [.ref h1, .ref h2, .int u.2.2])), (h1, .inl (cA, 4096, .inl u.1)), (h2, .inl (cB, 512, .inl u.2.1)), (g0, .inr (1, [.int 0, .ref g1, .ref g2, .int u.2.2])), (g1, .inl (cC, 4096, .inl (fun jx => mb_sg (u.1 jx)))), (g2, .inl (cD, 512, .inl (fun jx => mb_sg (u.2.1 jx))))] H → va_D (fun q : Nat => s.heap.size ≤ q) [(h0, .inr (0, [.ref h1, .ref h2, .int u.2.2])), (h1, .inl (cA, 4096, .inl u.1)), (h2, .inl (cB, 512, .inl u.2.1)), (g0, .inr (1, [.int 0, .ref g1, .ref g2, .int u.2.2])), (g1, .inl (cC, 4096, .inl (fun jx => mb_sg (u.1 jx)))), (g2, .inl (cD, 512, .inl (fun jx => mb_sg (u.2.1 jx))))] → va_S (fun q : Nat => s.heap.size ≤ q) s.heap H locs → lv_has ls 4 [(0, .ref b), (1, .ref h0), (2, .ref g0), (3, .int (nI i))] → W p l e room_1 s m #[Value.ref b] below meth c H locs 6 9223 (lw_Z below #[Value.ref b] s) (F0 m 338 ls [])) {u : Bk_} (hu : mb_inv u) {H : Heap} {locs : List Loc} (hP : va_P (dC, dI) vwCl [(h0, .inr (0, [.ref h1, .ref h2, .int u.2.2])), (h1, .inl (cA, 4096, .inl u.1)), (h2, .inl (cB, 512, .inl u.2.1)), (g0, .inr (1, [.int 0, .ref g1, .ref g2, .int u.2.2])), (g1, .inl (cC, 4096, .inl (fun jx => mb_sg (u.1 jx)))), (g2, .inl (cD, 512, .inl (fun jx => mb_sg (u.2.1 jx))))] H) (hD : va_D (fun q : Nat => s.heap.size ≤ q) [(h0, .inr (0, [.ref h1, .ref h2, .int u.2.2])), (h1, .inl (cA, 4096, .inl u.1)), (h2, .inl (cB, 512, .inl u.2.1)), (g0, .inr (1, [.int 0, .ref g1, .ref g2, .int u.2.2])), (g1, .inl (cC, 4096, .inl (fun jx => mb_sg (u.1 jx)))), (g2, .inl (cD, 512, .inl (fun jx => mb_sg (u.2.1 jx))))]) (hS : va_S (fun q : Nat => s.heap.size ≤ q) s.heap H locs) {ls : Array Slot} (hl : lv_has ls 4 [(0, .ref b), (1, .ref h0), (2, .ref g0), (3, .int (nI i))]) : W p l e room_1 s m #[Value.ref b] below meth c H locs 6 9223 (lw_Z below #[Value.ref b] s) (F0 m 302 ls []) := by
  obtain ⟨hx, hb, hr, hml, hown, hts, hX, hbl, hlocks, hgv⟩ := C0
  have hown : s.vm.findClass RL = some m.cls := hown
  have hts : ∀ w ∈ wsL_law, w.before #[Value.ref b] s = true := fun w h => hts w (wsL_law_in w h)
  have hA : ∀ q : Nat, s.heap.size ≤ q → (fun q : Nat => s.heap.size ≤ q) q := fun _ h => h
  have hbA : ¬ (fun q : Nat => s.heap.size ≤ q) b := Nat.not_le.mpr hbl
  have hi1 : vp_in (nI i + 1) L := by rw [show nI i + 1 = nI (i + 1) from nI_add i 1]; exact vp_in_nI (by omega) (by omega)
  have hi2 : vp_in (nI i + 2) L := by rw [show nI i + 2 = nI (i + 2) from nI_add i 2]; exact vp_in_nI (by omega) (by omega)
  have hi3 : vp_in (nI i + 3) L := by rw [show nI i + 3 = nI (i + 3) from nI_add i 3]; exact vp_in_nI (by omega) (by omega)
  refine lv_aload_n hx hb dL_law_302 rfl (lv_at hl 1 rfl) ?_
  have hPc := hP.sub (ws' := [(h0, .inr (0, [.ref h1, .ref h2, .int u.2.2])), (h1, .inl (cA, 4096, .inl u.1)), (h2, .inl (cB, 512, .inl u.2.1))]) [0, 1, 2] rfl
  have hDc := hD.sub (ws' := [(h0, .inr (0, [.ref h1, .ref h2, .int u.2.2])), (h1, .inl (cA, 4096, .inl u.1)), (h2, .inl (cB, 512, .inl u.2.1))]) [0, 1, 2] (by decide) rfl
  have hKc := hK.sub (tys' := [(cA, .int), (cB, .int)]) [0, 1] rfl
  have hFc := va_free (wc := [(h0, .inr (0, [.ref h1, .ref h2, .int u.2.2])), (h1, .inl (cA, 4096, .inl u.1)), (h2, .inl (cB, 512, .inl u.2.1))]) hD hS hA [0, 1, 2] rfl
  refine va_calli (va_runV (As := []) (rest := []) ⟨hx, hb, hml, hown, hts⟩ (c_seal l dC dI H.size h0 h1 h2 cA cB u  hu.1) (cwV 0 hts gL_law_X0_seal rfl rfl rfl (by decide +kernel) ⟨Nat.le_of_ble_eq_true rfl, Nat.le_of_ble_eq_true rfl⟩) ⟨fun a U g mk q => by obtain ⟨q0, q1, qP, qK, qD⟩ := q; exact ⟨q0, q1, qP, va_K.moved (u := U) (U := U.calling g mk a) (Vm.Alike.refl U.vm) qK, qD⟩, va_recv hKc hPc (ci := 0) (q0 := 0) rfl rfl, fun U hU hW => ⟨rfl, by rw [hU], by rw [hU]; exact hPc, va_K.moved hW.alike hKc, hDc.weaken (fun _ _ _ _ => trivial)⟩⟩ rfl rfl hl.1 rfl (lv_room (Nat.le_of_ble_eq_true rfl)) dL_law_303 ⟨by decide +kernel, by decide +kernel⟩) hS (fun q _ h => hFc q h) hFc (fun r1 u1 t H1 locs ht hvm hw_u1 hB hz1 hk1 hS => ?_)
  obtain ⟨hP1, hK1, hD1⟩ := hB
  rw [ht] at hP1
  obtain ⟨hP, hD⟩ := va_join (wr := [(g0, .inr (1, [.int 0, .ref g1, .ref g2, .int u.2.2])), (g1, .inl (cC, 4096, .inl (fun jx => mb_sg (u.1 jx)))), (g2, .inl (cD, 512, .inl (fun jx => mb_sg (u.2.1 jx))))]) (w1 := [(h0, .inr (0, [.ref h1, .ref h2, .int u1.2.2])), (h1, .inl (cA, 4096, .inl u1.1)), (h2, .inl (cB, 512, .inl u1.2.1))]) hP hD [0, 1, 2] [3, 4, 5] rfl rfl (by decide) (by decide) hk1 hFc hP1 hD1
  clear hPc hDc hFc hk1 hP1 hD1 ht
  generalize H1 = H at hP hS ⊢
  have hP : va_P (dC, dI) vwCl [(g0, .inr (1, [.int 0, .ref g1, .ref g2, .int u.2.2])), (g1, .inl (cC, 4096, .inl (fun jx => mb_sg (u.1 jx)))), (g2, .inl (cD, 512, .inl (fun jx => mb_sg (u.2.1 jx)))), (h0, .inr (0, [.ref h1, .ref h2, .int u1.2.2])), (h1, .inl (cA, 4096, .inl u1.1)), (h2, .inl (cB, 512, .inl u1.2.1))] H := hP
  have hD : va_D (fun q : Nat => s.heap.size ≤ q) [(g0, .inr (1, [.int 0, .ref g1, .ref g2, .int u.2.2])), (g1, .inl (cC, 4096, .inl (fun jx => mb_sg (u.1 jx)))), (g2, .inl (cD, 512, .inl (fun jx => mb_sg (u.2.1 jx)))), (h0, .inr (0, [.ref h1, .ref h2, .int u1.2.2])), (h1, .inl (cA, 4096, .inl u1.1)), (h2, .inl (cB, 512, .inl u1.2.1))] := hD
  refine lv_aload_n hx hb dL_law_306 rfl (lv_at hl 2 rfl) ?_
  have hPc := hP.sub (ws' := [(g0, .inr (1, [.int 0, .ref g1, .ref g2, .int u.2.2])), (g1, .inl (cC, 4096, .inl (fun jx => mb_sg (u.1 jx)))), (g2, .inl (cD, 512, .inl (fun jx => mb_sg (u.2.1 jx))))]) [0, 1, 2] rfl
  have hDc := hD.sub (ws' := [(g0, .inr (1, [.int 0, .ref g1, .ref g2, .int u.2.2])), (g1, .inl (cC, 4096, .inl (fun jx => mb_sg (u.1 jx)))), (g2, .inl (cD, 512, .inl (fun jx => mb_sg (u.2.1 jx))))]) [0, 1, 2] (by decide) rfl
  have hKc := hK.sub (tys' := [(cC, .byte), (cD, .byte)]) [2, 3] rfl
  have hFc := va_free (wc := [(g0, .inr (1, [.int 0, .ref g1, .ref g2, .int u.2.2])), (g1, .inl (cC, 4096, .inl (fun jx => mb_sg (u.1 jx)))), (g2, .inl (cD, 512, .inl (fun jx => mb_sg (u.2.1 jx))))]) hD hS hA [0, 1, 2] rfl
  refine va_calli (va_runV (As := []) (rest := [.int r1]) ⟨hx, hb, hml, hown, hts⟩ (c_mseal l dC dI H.size g0 g1 g2 cC cD u  hu) (cwV 0 hts gL_law_X1_seal rfl rfl rfl (by decide +kernel) ⟨Nat.le_of_ble_eq_true rfl, Nat.le_of_ble_eq_true rfl⟩) ⟨fun a U g mk q => by obtain ⟨q0, q1, qP, qK, qD⟩ := q; exact ⟨q0, q1, qP, va_K.moved (u := U) (U := U.calling g mk a) (Vm.Alike.refl U.vm) qK, qD⟩, va_recv hKc hPc (ci := 1) (q0 := 0) rfl rfl, fun U hU hW => ⟨rfl, by rw [hU], by rw [hU]; exact hPc, va_K.moved hW.alike hKc, hDc.weaken (fun _ _ _ _ => trivial)⟩⟩ rfl rfl hl.1 rfl (lv_room (Nat.le_of_ble_eq_true rfl)) dL_law_307 ⟨by decide +kernel, by decide +kernel⟩) hS (fun q _ h => hFc q h) hFc (fun r2 u2 t H1 locs ht hvm hw_u2 hB hz1 hk1 hS => ?_)
  obtain ⟨hP1, hK1, hD1⟩ := hB
  rw [ht] at hP1
  obtain ⟨hP, hD⟩ := va_join (wr := [(h0, .inr (0, [.ref h1, .ref h2, .int u1.2.2])), (h1, .inl (cA, 4096, .inl u1.1)), (h2, .inl (cB, 512, .inl u1.2.1))]) (w1 := [(g0, .inr (1, [.int 0, .ref g1, .ref g2, .int u2.2.2])), (g1, .inl (cC, 4096, .inl (fun jx => mb_sg (u2.1 jx)))), (g2, .inl (cD, 512, .inl (fun jx => mb_sg (u2.2.1 jx))))]) hP hD [0, 1, 2] [3, 4, 5] rfl rfl (by decide) (by decide) hk1 hFc hP1 hD1
  clear hPc hDc hFc hk1 hP1 hD1 ht
  generalize H1 = H at hP hS ⊢
  have hP : va_P (dC, dI) vwCl [(h0, .inr (0, [.ref h1, .ref h2, .int u1.2.2])), (h1, .inl (cA, 4096, .inl u1.1)), (h2, .inl (cB, 512, .inl u1.2.1)), (g0, .inr (1, [.int 0, .ref g1, .ref g2, .int u2.2.2])), (g1, .inl (cC, 4096, .inl (fun jx => mb_sg (u2.1 jx)))), (g2, .inl (cD, 512, .inl (fun jx => mb_sg (u2.2.1 jx))))] H := hP
  have hD : va_D (fun q : Nat => s.heap.size ≤ q) [(h0, .inr (0, [.ref h1, .ref h2, .int u1.2.2])), (h1, .inl (cA, 4096, .inl u1.1)), (h2, .inl (cB, 512, .inl u1.2.1)), (g0, .inr (1, [.int 0, .ref g1, .ref g2, .int u2.2.2])), (g1, .inl (cC, 4096, .inl (fun jx => mb_sg (u2.1 jx)))), (g2, .inl (cD, 512, .inl (fun jx => mb_sg (u2.2.1 jx))))] := hD
  obtain ⟨e1, e2⟩ := Prod.mk.inj (hw_u1.symm.trans hw_u2)
  subst e1
  subst e2
  have hu1 : mb_inv (mb_seal u ).2 := mb_seal_inv hu 
  rw [hw_u1] at hu1
  refine lv_icmp_eq (tgt := 338) hx hb dL_law_310 (by decide) (fun c1 => ?_) (fun c1 => ?_)
  · exact kk u1 _ _ ls hu1 hP hD hS hl
  · exact absurd rfl c1
set_option maxHeartbeats 2000000 in
set_option maxRecDepth 100000 in
/-- the law at at: both answer alike, and stand alike behind it -/
theorem lo_at {p : Program} {l : Launch} {e : Env} {s : State} {m : MethodId} {below : List Frame} {meth : Method} {c : Code} {dC : Nat → ClassId} {dI : Nat → Nat → Nat} {b L : Nat} {xs : Nat → Int32} (hL : L ≤ 2048) (C0 : lw_At p s m meth c b L xs) {h0 h1 h2 g0 g1 g2 : Nat} {cA cB cC cD : ClassId} (hK : va_K (dC, dI) vwCl [(cA, .int), (cB, .int), (cC, .byte), (cD, .byte)] s) {i : Nat} (hi : i + 4 ≤ L) (kk : ∀ (u : Bk_) (H : Heap) (locs : List Loc) (ls : Array Slot), mb_inv u → va_P (dC, dI) vwCl [(h0, .inr (0, [.ref h1, .ref h2, .int u.2.2])), (h1, .inl (cA, 4096, .inl u.1)), (h2, .inl (cB, 512, .inl u.2.1)), (g0, .inr (1, [.int 0, .ref g1, .ref g2, .int u.2.2])), (g1, .inl (cC, 4096, .inl (fun jx => mb_sg (u.1 jx)))), (g2, .inl (cD, 512, .inl (fun jx => mb_sg (u.2.1 jx))))] H → va_D (fun q : Nat => s.heap.size ≤ q) [(h0, .inr (0, [.ref h1, .ref h2, .int u.2.2])), (h1, .inl (cA, 4096, .inl u.1)), (h2, .inl (cB, 512, .inl u.2.1)), (g0, .inr (1, [.int 0, .ref g1, .ref g2, .int u.2.2])), (g1, .inl (cC, 4096, .inl (fun jx => mb_sg (u.1 jx)))), (g2, .inl (cD, 512, .inl (fun jx => mb_sg (u.2.1 jx))))] → va_S (fun q : Nat => s.heap.size ≤ q) s.heap H locs → lv_has ls 4 [(0, .ref b), (1, .ref h0), (2, .ref g0), (3, .int (nI i))] → W p l e room_1 s m #[Value.ref b] below meth c H locs 6 9223 (lw_Z below #[Value.ref b] s) (F0 m 338 ls [])) {u : Bk_} (hu : mb_inv u) {H : Heap} {locs : List Loc} (hP : va_P (dC, dI) vwCl [(h0, .inr (0, [.ref h1, .ref h2, .int u.2.2])), (h1, .inl (cA, 4096, .inl u.1)), (h2, .inl (cB, 512, .inl u.2.1)), (g0, .inr (1, [.int 0, .ref g1, .ref g2, .int u.2.2])), (g1, .inl (cC, 4096, .inl (fun jx => mb_sg (u.1 jx)))), (g2, .inl (cD, 512, .inl (fun jx => mb_sg (u.2.1 jx))))] H) (hD : va_D (fun q : Nat => s.heap.size ≤ q) [(h0, .inr (0, [.ref h1, .ref h2, .int u.2.2])), (h1, .inl (cA, 4096, .inl u.1)), (h2, .inl (cB, 512, .inl u.2.1)), (g0, .inr (1, [.int 0, .ref g1, .ref g2, .int u.2.2])), (g1, .inl (cC, 4096, .inl (fun jx => mb_sg (u.1 jx)))), (g2, .inl (cD, 512, .inl (fun jx => mb_sg (u.2.1 jx))))]) (hS : va_S (fun q : Nat => s.heap.size ≤ q) s.heap H locs) {ls : Array Slot} (hl : lv_has ls 4 [(0, .ref b), (1, .ref h0), (2, .ref g0), (3, .int (nI i))]) : W p l e room_1 s m #[Value.ref b] below meth c H locs 6 9223 (lw_Z below #[Value.ref b] s) (F0 m 315 ls []) := by
  obtain ⟨hx, hb, hr, hml, hown, hts, hX, hbl, hlocks, hgv⟩ := C0
  have hown : s.vm.findClass RL = some m.cls := hown
  have hts : ∀ w ∈ wsL_law, w.before #[Value.ref b] s = true := fun w h => hts w (wsL_law_in w h)
  have hA : ∀ q : Nat, s.heap.size ≤ q → (fun q : Nat => s.heap.size ≤ q) q := fun _ h => h
  have hbA : ¬ (fun q : Nat => s.heap.size ≤ q) b := Nat.not_le.mpr hbl
  have hi1 : vp_in (nI i + 1) L := by rw [show nI i + 1 = nI (i + 1) from nI_add i 1]; exact vp_in_nI (by omega) (by omega)
  have hi2 : vp_in (nI i + 2) L := by rw [show nI i + 2 = nI (i + 2) from nI_add i 2]; exact vp_in_nI (by omega) (by omega)
  have hi3 : vp_in (nI i + 3) L := by rw [show nI i + 3 = nI (i + 3) from nI_add i 3]; exact vp_in_nI (by omega) (by omega)
  refine lv_aload_n hx hb dL_law_315 rfl (lv_at hl 1 rfl) ?_
  refine lv_aload_n hx hb dL_law_316 rfl (lv_at hl 0 rfl) ?_
  refine lv_iload_n hx hb dL_law_317 rfl (lv_at hl 3 rfl) ?_
  refine lv_iconst (v := 1) hx hb dL_law_318 (by decide) ?_
  refine lv_iadd hx hb dL_law_319 ?_
  refine va_sld hx hb hX hbl hbA hS hi1 dL_law_320 ?_
  have hPc := hP.sub (ws' := [(h0, .inr (0, [.ref h1, .ref h2, .int u.2.2])), (h1, .inl (cA, 4096, .inl u.1)), (h2, .inl (cB, 512, .inl u.2.1))]) [0, 1, 2] rfl
  have hDc := hD.sub (ws' := [(h0, .inr (0, [.ref h1, .ref h2, .int u.2.2])), (h1, .inl (cA, 4096, .inl u.1)), (h2, .inl (cB, 512, .inl u.2.1))]) [0, 1, 2] (by decide) rfl
  have hKc := hK.sub (tys' := [(cA, .int), (cB, .int)]) [0, 1] rfl
  have hFc := va_free (wc := [(h0, .inr (0, [.ref h1, .ref h2, .int u.2.2])), (h1, .inl (cA, 4096, .inl u.1)), (h2, .inl (cB, 512, .inl u.2.1))]) hD hS hA [0, 1, 2] rfl
  refine va_calli (va_runV (As := [.int (xs ((nI i) + 1).toNatClampNeg)]) (rest := []) ⟨hx, hb, hml, hown, hts⟩ (c_at l dC dI H.size h0 h1 h2 cA cB u (xs (nI i + 1).toNatClampNeg) hu.1) (cwV 1 hts gL_law_X0_at rfl rfl rfl (by decide +kernel) ⟨Nat.le_of_ble_eq_true rfl, Nat.le_of_ble_eq_true rfl⟩) ⟨fun a U g mk q => by obtain ⟨q0, q1, qP, qK, qD⟩ := q; exact ⟨q0, q1, qP, va_K.moved (u := U) (U := U.calling g mk a) (Vm.Alike.refl U.vm) qK, qD⟩, va_recv hKc hPc (ci := 0) (q0 := 0) rfl rfl, fun U hU hW => ⟨rfl, by rw [hU], by rw [hU]; exact hPc, va_K.moved hW.alike hKc, hDc.weaken (fun _ _ _ _ => trivial)⟩⟩ rfl rfl hl.1 rfl (lv_room (Nat.le_of_ble_eq_true rfl)) dL_law_321 ⟨by decide +kernel, by decide +kernel⟩) hS (fun q _ h => hFc q h) hFc (fun r1 u1 t H1 locs ht hvm hw_u1 hB hz1 hk1 hS => ?_)
  obtain ⟨hP1, hK1, hD1⟩ := hB
  rw [ht] at hP1
  obtain ⟨hP, hD⟩ := va_join (wr := [(g0, .inr (1, [.int 0, .ref g1, .ref g2, .int u.2.2])), (g1, .inl (cC, 4096, .inl (fun jx => mb_sg (u.1 jx)))), (g2, .inl (cD, 512, .inl (fun jx => mb_sg (u.2.1 jx))))]) (w1 := [(h0, .inr (0, [.ref h1, .ref h2, .int u1.2.2])), (h1, .inl (cA, 4096, .inl u1.1)), (h2, .inl (cB, 512, .inl u1.2.1))]) hP hD [0, 1, 2] [3, 4, 5] rfl rfl (by decide) (by decide) hk1 hFc hP1 hD1
  clear hPc hDc hFc hk1 hP1 hD1 ht
  generalize H1 = H at hP hS ⊢
  have hP : va_P (dC, dI) vwCl [(g0, .inr (1, [.int 0, .ref g1, .ref g2, .int u.2.2])), (g1, .inl (cC, 4096, .inl (fun jx => mb_sg (u.1 jx)))), (g2, .inl (cD, 512, .inl (fun jx => mb_sg (u.2.1 jx)))), (h0, .inr (0, [.ref h1, .ref h2, .int u1.2.2])), (h1, .inl (cA, 4096, .inl u1.1)), (h2, .inl (cB, 512, .inl u1.2.1))] H := hP
  have hD : va_D (fun q : Nat => s.heap.size ≤ q) [(g0, .inr (1, [.int 0, .ref g1, .ref g2, .int u.2.2])), (g1, .inl (cC, 4096, .inl (fun jx => mb_sg (u.1 jx)))), (g2, .inl (cD, 512, .inl (fun jx => mb_sg (u.2.1 jx)))), (h0, .inr (0, [.ref h1, .ref h2, .int u1.2.2])), (h1, .inl (cA, 4096, .inl u1.1)), (h2, .inl (cB, 512, .inl u1.2.1))] := hD
  refine lv_aload_n hx hb dL_law_324 rfl (lv_at hl 2 rfl) ?_
  refine lv_aload_n hx hb dL_law_325 rfl (lv_at hl 0 rfl) ?_
  refine lv_iload_n hx hb dL_law_326 rfl (lv_at hl 3 rfl) ?_
  refine lv_iconst (v := 1) hx hb dL_law_327 (by decide) ?_
  refine lv_iadd hx hb dL_law_328 ?_
  refine va_sld hx hb hX hbl hbA hS hi1 dL_law_329 ?_
  have hPc := hP.sub (ws' := [(g0, .inr (1, [.int 0, .ref g1, .ref g2, .int u.2.2])), (g1, .inl (cC, 4096, .inl (fun jx => mb_sg (u.1 jx)))), (g2, .inl (cD, 512, .inl (fun jx => mb_sg (u.2.1 jx))))]) [0, 1, 2] rfl
  have hDc := hD.sub (ws' := [(g0, .inr (1, [.int 0, .ref g1, .ref g2, .int u.2.2])), (g1, .inl (cC, 4096, .inl (fun jx => mb_sg (u.1 jx)))), (g2, .inl (cD, 512, .inl (fun jx => mb_sg (u.2.1 jx))))]) [0, 1, 2] (by decide) rfl
  have hKc := hK.sub (tys' := [(cC, .byte), (cD, .byte)]) [2, 3] rfl
  have hFc := va_free (wc := [(g0, .inr (1, [.int 0, .ref g1, .ref g2, .int u.2.2])), (g1, .inl (cC, 4096, .inl (fun jx => mb_sg (u.1 jx)))), (g2, .inl (cD, 512, .inl (fun jx => mb_sg (u.2.1 jx))))]) hD hS hA [0, 1, 2] rfl
  refine va_calli (va_runV (As := [.int (xs ((nI i) + 1).toNatClampNeg)]) (rest := [.int r1]) ⟨hx, hb, hml, hown, hts⟩ (c_mat l dC dI H.size g0 g1 g2 cC cD u (xs (nI i + 1).toNatClampNeg) hu) (cwV 1 hts gL_law_X1_at rfl rfl rfl (by decide +kernel) ⟨Nat.le_of_ble_eq_true rfl, Nat.le_of_ble_eq_true rfl⟩) ⟨fun a U g mk q => by obtain ⟨q0, q1, qP, qK, qD⟩ := q; exact ⟨q0, q1, qP, va_K.moved (u := U) (U := U.calling g mk a) (Vm.Alike.refl U.vm) qK, qD⟩, va_recv hKc hPc (ci := 1) (q0 := 0) rfl rfl, fun U hU hW => ⟨rfl, by rw [hU], by rw [hU]; exact hPc, va_K.moved hW.alike hKc, hDc.weaken (fun _ _ _ _ => trivial)⟩⟩ rfl rfl hl.1 rfl (lv_room (Nat.le_of_ble_eq_true rfl)) dL_law_330 ⟨by decide +kernel, by decide +kernel⟩) hS (fun q _ h => hFc q h) hFc (fun r2 u2 t H1 locs ht hvm hw_u2 hB hz1 hk1 hS => ?_)
  obtain ⟨hP1, hK1, hD1⟩ := hB
  rw [ht] at hP1
  obtain ⟨hP, hD⟩ := va_join (wr := [(h0, .inr (0, [.ref h1, .ref h2, .int u1.2.2])), (h1, .inl (cA, 4096, .inl u1.1)), (h2, .inl (cB, 512, .inl u1.2.1))]) (w1 := [(g0, .inr (1, [.int 0, .ref g1, .ref g2, .int u2.2.2])), (g1, .inl (cC, 4096, .inl (fun jx => mb_sg (u2.1 jx)))), (g2, .inl (cD, 512, .inl (fun jx => mb_sg (u2.2.1 jx))))]) hP hD [0, 1, 2] [3, 4, 5] rfl rfl (by decide) (by decide) hk1 hFc hP1 hD1
  clear hPc hDc hFc hk1 hP1 hD1 ht
  generalize H1 = H at hP hS ⊢
  have hP : va_P (dC, dI) vwCl [(h0, .inr (0, [.ref h1, .ref h2, .int u1.2.2])), (h1, .inl (cA, 4096, .inl u1.1)), (h2, .inl (cB, 512, .inl u1.2.1)), (g0, .inr (1, [.int 0, .ref g1, .ref g2, .int u2.2.2])), (g1, .inl (cC, 4096, .inl (fun jx => mb_sg (u2.1 jx)))), (g2, .inl (cD, 512, .inl (fun jx => mb_sg (u2.2.1 jx))))] H := hP
  have hD : va_D (fun q : Nat => s.heap.size ≤ q) [(h0, .inr (0, [.ref h1, .ref h2, .int u1.2.2])), (h1, .inl (cA, 4096, .inl u1.1)), (h2, .inl (cB, 512, .inl u1.2.1)), (g0, .inr (1, [.int 0, .ref g1, .ref g2, .int u2.2.2])), (g1, .inl (cC, 4096, .inl (fun jx => mb_sg (u2.1 jx)))), (g2, .inl (cD, 512, .inl (fun jx => mb_sg (u2.2.1 jx))))] := hD
  obtain ⟨e1, e2⟩ := Prod.mk.inj (hw_u1.symm.trans hw_u2)
  subst e1
  subst e2
  have hu1 : mb_inv (mb_at u (xs (nI i + 1).toNatClampNeg)).2 := by unfold mb_at; exact mb_rd_inv hu
  rw [hw_u1] at hu1
  refine lv_icmp_eq (tgt := 338) hx hb dL_law_333 (by decide) (fun c1 => ?_) (fun c1 => ?_)
  · exact kk u1 _ _ ls hu1 hP hD hS hl
  · exact absurd rfl c1
end
section
set_option maxHeartbeats 2000000 in
set_option maxRecDepth 100000 in
/-- THE LAW'S LOOP: at its head, with i ints read, both stand alike -/
theorem law_loop {p : Program} {l : Launch} {e : Env} {s : State} {m : MethodId} {below : List Frame} {meth : Method} {c : Code} {dC : Nat → ClassId} {dI : Nat → Nat → Nat} {b L : Nat} {xs : Nat → Int32} (hL : L ≤ 2048) (C0 : lw_At p s m meth c b L xs) {h0 h1 h2 g0 g1 g2 : Nat} {cA cB cC cD : ClassId} (hK : va_K (dC, dI) vwCl [(cA, .int), (cB, .int), (cC, .byte), (cD, .byte)] s) : ∀ (n i : Nat), i ≤ L → L + 1 ≤ i + n → ∀ (u : Bk_) (H : Heap) (locs : List Loc) (ls : Array Slot), mb_inv u → va_P (dC, dI) vwCl [(h0, .inr (0, [.ref h1, .ref h2, .int u.2.2])), (h1, .inl (cA, 4096, .inl u.1)), (h2, .inl (cB, 512, .inl u.2.1)), (g0, .inr (1, [.int 0, .ref g1, .ref g2, .int u.2.2])), (g1, .inl (cC, 4096, .inl (fun jx => mb_sg (u.1 jx)))), (g2, .inl (cD, 512, .inl (fun jx => mb_sg (u.2.1 jx))))] H → va_D (fun q : Nat => s.heap.size ≤ q) [(h0, .inr (0, [.ref h1, .ref h2, .int u.2.2])), (h1, .inl (cA, 4096, .inl u.1)), (h2, .inl (cB, 512, .inl u.2.1)), (g0, .inr (1, [.int 0, .ref g1, .ref g2, .int u.2.2])), (g1, .inl (cC, 4096, .inl (fun jx => mb_sg (u.1 jx)))), (g2, .inl (cD, 512, .inl (fun jx => mb_sg (u.2.1 jx))))] → va_S (fun q : Nat => s.heap.size ≤ q) s.heap H locs → lv_has ls 4 [(0, .ref b), (1, .ref h0), (2, .ref g0), (3, .int (nI i))] → W p l e room_1 s m #[Value.ref b] below meth c H locs 6 9223 (lw_Z below #[Value.ref b] s) (F0 m 18 ls []) := by
  have C1 := C0
  obtain ⟨hx, hb, hr, hml, hown, hts, hX, hbl, hlocks, hgv⟩ := C0
  have hown : s.vm.findClass RL = some m.cls := hown
  have hts : ∀ w ∈ wsL_law, w.before #[Value.ref b] s = true := fun w h => hts w (wsL_law_in w h)
  have hA : ∀ q : Nat, s.heap.size ≤ q → (fun q : Nat => s.heap.size ≤ q) q := fun _ h => h
  have hbA : ¬ (fun q : Nat => s.heap.size ≤ q) b := Nat.not_le.mpr hbl
  intro n
  induction n with
  | zero =>
    intro i h1 h2
    exact absurd h2 (by omega)
  | succ n ih =>
    intro i hiL hin u H locs ls hu hP hD hS hl
    refine lv_iload_n hx hb dL_law_18 rfl (lv_at hl 3 rfl) ?_
    refine lv_aload_n hx hb dL_law_19 rfl (lv_at hl 0 rfl) ?_
    refine va_slen hx hb hX hbl hbA hS dL_law_20 ?_
    refine lv_iconst (v := 4) hx hb dL_law_21 (by decide) ?_
    refine lv_isub hx hb dL_law_22 ?_
    have eL : (nI L - 4).toInt = (L : Int) - 4 := pk_sub_toInt (a := L) (b := 4) (by omega) (by omega)
    have ei : (nI i).toInt = (i : Int) := nI_toInt (by omega)
    refine lv_icmp_gt (tgt := 344) hx hb dL_law_23 (by decide) (fun c1 => ?_) (fun c1 => ?_)
    · refine lv_iconst (v := 1) hx hb dL_law_344 (by decide) ?_
      refine va_forget (fun q hq => hS.2.2 q hq) ?_
      refine W.widen (k := 6) (n := 9223) (Nat.le_refl 6) (Nat.le_refl 9223) ?_
      exact lw_ret hx hb hr hlocks dL_law_345
    · have c1 : ¬ nI L - 4 < nI i := c1
      have hi : i + 4 ≤ L := by rw [mb_lt, eL, ei] at c1; omega
      have hi0 : vp_in (nI i) L := vp_in_nI (by omega) (by omega)
      have kk : ∀ (u : Bk_) (H : Heap) (locs : List Loc) (ls : Array Slot), mb_inv u → va_P (dC, dI) vwCl [(h0, .inr (0, [.ref h1, .ref h2, .int u.2.2])), (h1, .inl (cA, 4096, .inl u.1)), (h2, .inl (cB, 512, .inl u.2.1)), (g0, .inr (1, [.int 0, .ref g1, .ref g2, .int u.2.2])), (g1, .inl (cC, 4096, .inl (fun jx => mb_sg (u.1 jx)))), (g2, .inl (cD, 512, .inl (fun jx => mb_sg (u.2.1 jx))))] H → va_D (fun q : Nat => s.heap.size ≤ q) [(h0, .inr (0, [.ref h1, .ref h2, .int u.2.2])), (h1, .inl (cA, 4096, .inl u.1)), (h2, .inl (cB, 512, .inl u.2.1)), (g0, .inr (1, [.int 0, .ref g1, .ref g2, .int u.2.2])), (g1, .inl (cC, 4096, .inl (fun jx => mb_sg (u.1 jx)))), (g2, .inl (cD, 512, .inl (fun jx => mb_sg (u.2.1 jx))))] → va_S (fun q : Nat => s.heap.size ≤ q) s.heap H locs → lv_has ls 4 [(0, .ref b), (1, .ref h0), (2, .ref g0), (3, .int (nI i))] → W p l e room_1 s m #[Value.ref b] below meth c H locs 6 9223 (lw_Z below #[Value.ref b] s) (F0 m 338 ls []) := by
        intro u H locs ls hu hP hD hS hl
        refine lv_iinc (v := nI (i + 4)) (lv' := [(3, .int (nI (i + 4))), (0, .ref b), (1, .ref h0), (2, .ref g0)]) hx hb dL_law_338 hl (k := 3) rfl (by rw [← nI_add]; rfl) (by decide) rfl (fun ls hl => ?_)
        refine lv_goto (tgt := 18) hx hb dL_law_341 (by decide) ?_
        exact ih (i + 4) (by omega) (by omega) u _ _ ls hu hP hD hS (lv_sub hl [1, 2, 3, 0] rfl)
      refine lv_aload_n hx hb dL_law_26 rfl (lv_at hl 0 rfl) ?_
      refine lv_iload_n hx hb dL_law_27 rfl (lv_at hl 3 rfl) ?_
      refine va_sld hx hb hX hbl hbA hS hi0 dL_law_28 ?_
      refine lv_bipush (v := 15) hx hb dL_law_29 (by decide) ?_
      refine lv_iand hx hb dL_law_31 ?_
      obtain ⟨j, hj, ej⟩ := pk_andE (xs (nI i).toNatClampNeg) (m := 15) 4 (by decide)
      refine lv_topi (fun yv eyv => ?_)
      obtain rfl : yv = nI j := eyv.trans (ej)
      rcases (show j = 0 ∨ j = 1 ∨ j = 2 ∨ j = 3 ∨ j = 4 ∨ j = 5 ∨ j = 6 ∨ j = 7 ∨ j = 8 ∨ j = 9 ∨ 10 ≤ j by omega) with rfl | rfl | rfl | rfl | rfl | rfl | rfl | rfl | rfl | rfl | hj10
      · refine lv_tableIn (tgt := 88) (off := 56) hx hb dL_law_32 (by decide) (by decide) (by decide) (by decide) ?_
        exact lo_put hL C1 hK hi kk hu hP hD hS hl
      · refine lv_tableIn (tgt := 111) (off := 79) hx hb dL_law_32 (by decide) (by decide) (by decide) (by decide) ?_
        exact lo_cut hL C1 hK hi kk hu hP hD hS hl
      · refine lv_tableIn (tgt := 134) (off := 102) hx hb dL_law_32 (by decide) (by decide) (by decide) (by decide) ?_
        exact lo_size hL C1 hK hi kk hu hP hD hS hl
      · refine lv_tableIn (tgt := 147) (off := 115) hx hb dL_law_32 (by decide) (by decide) (by decide) (by decide) ?_
        exact lo_rowAt hL C1 hK hi kk hu hP hD hS hl
      · refine lv_tableIn (tgt := 170) (off := 138) hx hb dL_law_32 (by decide) (by decide) (by decide) (by decide) ?_
        exact lo_load hL C1 hK hi kk hu hP hD hS hl
      · refine lv_tableIn (tgt := 213) (off := 181) hx hb dL_law_32 (by decide) (by decide) (by decide) (by decide) ?_
        exact lo_dump hL C1 hK hi kk hu hP hD hS hl
      · refine lv_tableIn (tgt := 246) (off := 214) hx hb dL_law_32 (by decide) (by decide) (by decide) (by decide) ?_
        exact lo_check hL C1 hK hi kk hu hP hD hS hl
      · refine lv_tableIn (tgt := 279) (off := 247) hx hb dL_law_32 (by decide) (by decide) (by decide) (by decide) ?_
        exact lo_rowCheck hL C1 hK hi kk hu hP hD hS hl
      · refine lv_tableIn (tgt := 302) (off := 270) hx hb dL_law_32 (by decide) (by decide) (by decide) (by decide) ?_
        exact lo_seal hL C1 hK hi kk hu hP hD hS hl
      · refine lv_tableIn (tgt := 315) (off := 283) hx hb dL_law_32 (by decide) (by decide) (by decide) (by decide) ?_
        exact lo_at hL C1 hK hi kk hu hP hD hS hl
      · refine lv_tableOut (tgt := 338) hx hb dL_law_32 (Or.inr (by rw [nI_toInt (by omega)]; omega)) (by decide) ?_
        exact kk u _ _ ls hu hP hD hS hl
set_option maxHeartbeats 2000000 in
set_option maxRecDepth 100000 in
/-- THE LAW, from its entry -/
theorem whole_start {p : Program} {e : Env} {s : State} {m : MethodId} {below : List Frame} {meth : Method} {c : Code} (l : Launch) {b L : Nat} {xs : Nat → Int32} (hL : L ≤ 2048) (C0 : lw_At p s m meth c b L xs) : W p l e room_1 s m #[Value.ref b] below meth c s.heap [] 0 0 (lw_Z below #[Value.ref b] s) (entryFrame m ([Value.ref b] : List Value).toArray 4) := by
  have C1 := C0
  obtain ⟨hx, hb, hr, hml, hown, hts, hX, hbl, hlocks, hgv⟩ := C0
  have hown : s.vm.findClass RL = some m.cls := hown
  have hts : ∀ w ∈ wsL_law, w.before #[Value.ref b] s = true := fun w h => hts w (wsL_law_in w h)
  have hA : ∀ q : Nat, s.heap.size ≤ q → (fun q : Nat => s.heap.size ≤ q) q := fun _ h => h
  have hbA : ¬ (fun q : Nat => s.heap.size ≤ q) b := Nat.not_le.mpr hbl
  obtain ⟨c0, iS0, hKn0⟩ := u_known (C := RX0) (T := TX0) (N := 3) (n := 3) hts inlX0 (hts (.instantiable RX0 3) (by decide +kernel))
  obtain ⟨c1, iS1, hKn1⟩ := u_known (C := RX1) (T := TX1) (N := 4) (n := 4) hts inlX1 (hts (.instantiable RX1 4) (by decide +kernel))
  obtain ⟨dC, dI, hKc⟩ : ∃ (dC : Nat → ClassId) (dI : Nat → Nat → Nat), ∀ (k : Nat) (q : vw_C), vwCl[k]? = some q → u_Kn s q.1 q.2.1 q.2.2 (dC k) (dI k) := by
    refine ⟨fun k => if k = 0 then c0 else c1, fun k => if k = 0 then iS0 else iS1, ?_⟩
    intro k q hq
    match k, hq with
    | 0, hq => cases hq; exact hKn0
    | 1, hq => cases hq; exact hKn1
    | k + 2, hq => simp [vwCl] at hq
  have hS : va_S (fun q : Nat => s.heap.size ≤ q) s.heap s.heap [] := va_S.rf
  have hK : va_K (dC, dI) vwCl [] s := ⟨hKc, fun k q h => by simp at h⟩
  have hP : va_P (dC, dI) vwCl [] s.heap := fun k q h => by simp at h
  have hD : va_D (fun q : Nat => s.heap.size ≤ q) [] := ⟨fun i j p q h => by simp at h, fun k q h => by simp at h⟩
  have hl := lv_entry ([.ref b]) (n := 4) (Nat.le_of_ble_eq_true rfl)
  rw [lg_entry_eq]
  generalize (lg_sl ([.ref b]) ++ List.replicate (4 - (lg_sl ([.ref b])).length) Slot.unset).toArray = ls at hl ⊢
  have hl : lv_has ls 4 [(0, .ref b)] := hl
  refine va_new (ci := 0) (fs := [.null, .null, .int 0]) (C := RX0) (T := TX0) (N := 3) hx hb hts inlX0 tyX0 tyX0_ok hown (hts (.classLink RL 7 RX0) (by decide +kernel)) (hts (.instantiable RX0 3) (by decide +kernel)) (hts (.initialized RX0) (by decide +kernel)) hK hP hD hS hA rfl (fun j hj => by rcases (show j = 0 ∨ j = 1 ∨ j = 2 by omega) with rfl | rfl | rfl <;> rfl) (by decide +kernel) (by decide +kernel) dL_law_0 (fun h0 H hP hD hS => ?_)
  have hP : va_P (dC, dI) vwCl [(h0, .inr (0, [.null, .null, .int 0]))] H := hP
  have hD : va_D (fun q : Nat => s.heap.size ≤ q) [(h0, .inr (0, [.null, .null, .int 0]))] := hD
  refine W.widen (k := 1) (n := 3) (by decide +kernel) (by decide +kernel) ?_
  refine lv_dup hx hb dL_law_3 rfl ?_
  have hPc := hP.sub (ws' := [(h0, .inr (0, [.null, .null, .int 0]))]) [0] rfl
  have hDc := hD.sub (ws' := [(h0, .inr (0, [.null, .null, .int 0]))]) [0] (by decide) rfl
  have hKc := hK.sub (tys' := []) [] rfl
  have hFc := va_free (wc := [(h0, .inr (0, [.null, .null, .int 0]))]) hD hS hA [0] rfl
  refine va_callv (va_runI (As := []) (rest := [.ref h0]) ⟨hx, hb, hml, hown, hts⟩ (c_X0_init l dC dI H.size h0) (cwI 0 hts gL_law_X0_init rfl rfl rfl (hts (.initialized RX0) (by decide +kernel)) (hts (.methodLink RL 9 yX0_init) (by decide +kernel)) (hts (.instanceMethod yX0_init) (by decide +kernel)) rfl (by decide +kernel) ⟨Nat.le_of_ble_eq_true rfl, Nat.le_of_ble_eq_true rfl⟩) ⟨fun a U g mk q => by obtain ⟨q0, q1, qP, qK, qD⟩ := q; exact ⟨q0, q1, qP, va_K.moved (u := U) (U := U.calling g mk a) (Vm.Alike.refl U.vm) qK, qD⟩, fun U hU hW => ⟨rfl, by rw [hU], by rw [hU]; exact hPc, va_K.moved hW.alike hKc, hDc.weaken (fun _ _ _ _ => trivial)⟩⟩ rfl rfl hl.1 rfl (lv_room (Nat.le_of_ble_eq_true rfl)) dL_law_4 ⟨by decide +kernel, by decide +kernel⟩) hS (fun q _ h => hFc q h) hFc (fun u1 t H1 locs ht hvm hw_u1 hB hz1 hk1 hS => ?_)
  obtain ⟨⟨h1, h2⟩, ⟨cA, cB⟩⟩ := u1
  obtain ⟨hP1, hK1, hD1⟩ := hB
  rw [ht] at hP1
  obtain ⟨hP, hD⟩ := va_join (wr := []) (w1 := [(h0, .inr (0, [.ref h1, .ref h2, .int 0])), (h1, .inl (cA, 4096, .inl (fun _ => 0 : Nat → Int32))), (h2, .inl (cB, 512, .inl (fun _ => 0 : Nat → Int32)))]) hP hD [0] [] rfl rfl (by decide) (by decide) hk1 hFc hP1 hD1
  clear hPc hDc hFc hk1 hP1 hD1 ht
  generalize H1 = H at hP hS ⊢
  have hP : va_P (dC, dI) vwCl [(h0, .inr (0, [.ref h1, .ref h2, .int 0])), (h1, .inl (cA, 4096, .inl (fun _ => 0 : Nat → Int32))), (h2, .inl (cB, 512, .inl (fun _ => 0 : Nat → Int32)))] H := hP
  have hD : va_D (fun q : Nat => s.heap.size ≤ q) [(h0, .inr (0, [.ref h1, .ref h2, .int 0])), (h1, .inl (cA, 4096, .inl (fun _ => 0 : Nat → Int32))), (h2, .inl (cB, 512, .inl (fun _ => 0 : Nat → Int32)))] := hD
  have hK1 := va_K.moved hvm.symm hK1
  have hK : va_K (dC, dI) vwCl [(cA, .int), (cB, .int)] s := hK.app hK1
  refine W.widen (k := 3) (n := 4611) (by decide +kernel) (by decide +kernel) ?_
  refine lv_astore_n (lv' := [(1, .ref h0), (0, .ref b)]) hx hb dL_law_7 rfl hl (by decide) rfl (fun ls hl => ?_)
  refine va_new (ci := 1) (fs := [.int 0, .null, .null, .int 0]) (C := RX1) (T := TX1) (N := 4) hx hb hts inlX1 tyX1 tyX1_ok hown (hts (.classLink RL 10 RX1) (by decide +kernel)) (hts (.instantiable RX1 4) (by decide +kernel)) (hts (.initialized RX1) (by decide +kernel)) hK hP hD hS hA rfl (fun j hj => by rcases (show j = 0 ∨ j = 1 ∨ j = 2 ∨ j = 3 by omega) with rfl | rfl | rfl | rfl <;> rfl) (by decide +kernel) (by decide +kernel) dL_law_8 (fun g0 H hP hD hS => ?_)
  have hP : va_P (dC, dI) vwCl [(h0, .inr (0, [.ref h1, .ref h2, .int 0])), (h1, .inl (cA, 4096, .inl (fun _ => 0 : Nat → Int32))), (h2, .inl (cB, 512, .inl (fun _ => 0 : Nat → Int32))), (g0, .inr (1, [.int 0, .null, .null, .int 0]))] H := hP
  have hD : va_D (fun q : Nat => s.heap.size ≤ q) [(h0, .inr (0, [.ref h1, .ref h2, .int 0])), (h1, .inl (cA, 4096, .inl (fun _ => 0 : Nat → Int32))), (h2, .inl (cB, 512, .inl (fun _ => 0 : Nat → Int32))), (g0, .inr (1, [.int 0, .null, .null, .int 0]))] := hD
  refine W.widen (k := 4) (n := 4615) (by decide +kernel) (by decide +kernel) ?_
  refine lv_dup hx hb dL_law_11 rfl ?_
  have hPc := hP.sub (ws' := [(g0, .inr (1, [.int 0, .null, .null, .int 0]))]) [3] rfl
  have hDc := hD.sub (ws' := [(g0, .inr (1, [.int 0, .null, .null, .int 0]))]) [3] (by decide) rfl
  have hKc := hK.sub (tys' := []) [] rfl
  have hFc := va_free (wc := [(g0, .inr (1, [.int 0, .null, .null, .int 0]))]) hD hS hA [3] rfl
  refine va_callv (va_runI (As := []) (rest := [.ref g0]) ⟨hx, hb, hml, hown, hts⟩ (c_X1_init l dC dI H.size g0) (cwI 0 hts gL_law_X1_init rfl rfl rfl (hts (.initialized RX1) (by decide +kernel)) (hts (.methodLink RL 12 yX1_init) (by decide +kernel)) (hts (.instanceMethod yX1_init) (by decide +kernel)) rfl (by decide +kernel) ⟨Nat.le_of_ble_eq_true rfl, Nat.le_of_ble_eq_true rfl⟩) ⟨fun a U g mk q => by obtain ⟨q0, q1, qP, qK, qD⟩ := q; exact ⟨q0, q1, qP, va_K.moved (u := U) (U := U.calling g mk a) (Vm.Alike.refl U.vm) qK, qD⟩, fun U hU hW => ⟨rfl, by rw [hU], by rw [hU]; exact hPc, va_K.moved hW.alike hKc, hDc.weaken (fun _ _ _ _ => trivial)⟩⟩ rfl rfl hl.1 rfl (lv_room (Nat.le_of_ble_eq_true rfl)) dL_law_12 ⟨by decide +kernel, by decide +kernel⟩) hS (fun q _ h => hFc q h) hFc (fun u2 t H1 locs ht hvm hw_u2 hB hz1 hk1 hS => ?_)
  obtain ⟨⟨g1, g2⟩, ⟨cC, cD⟩⟩ := u2
  obtain ⟨hP1, hK1, hD1⟩ := hB
  rw [ht] at hP1
  obtain ⟨hP, hD⟩ := va_join (wr := [(h0, .inr (0, [.ref h1, .ref h2, .int 0])), (h1, .inl (cA, 4096, .inl (fun _ => 0 : Nat → Int32))), (h2, .inl (cB, 512, .inl (fun _ => 0 : Nat → Int32)))]) (w1 := [(g0, .inr (1, [.int 0, .ref g1, .ref g2, .int 0])), (g1, .inl (cC, 4096, .inl (fun jx => mb_sg ((fun _ => 0 : Nat → Int32) jx)))), (g2, .inl (cD, 512, .inl (fun jx => mb_sg ((fun _ => 0 : Nat → Int32) jx))))]) hP hD [3] [0, 1, 2] rfl rfl (by decide) (by decide) hk1 hFc hP1 hD1
  clear hPc hDc hFc hk1 hP1 hD1 ht
  generalize H1 = H at hP hS ⊢
  have hP : va_P (dC, dI) vwCl [(h0, .inr (0, [.ref h1, .ref h2, .int 0])), (h1, .inl (cA, 4096, .inl (fun _ => 0 : Nat → Int32))), (h2, .inl (cB, 512, .inl (fun _ => 0 : Nat → Int32))), (g0, .inr (1, [.int 0, .ref g1, .ref g2, .int 0])), (g1, .inl (cC, 4096, .inl (fun jx => mb_sg ((fun _ => 0 : Nat → Int32) jx)))), (g2, .inl (cD, 512, .inl (fun jx => mb_sg ((fun _ => 0 : Nat → Int32) jx))))] H := hP
  have hD : va_D (fun q : Nat => s.heap.size ≤ q) [(h0, .inr (0, [.ref h1, .ref h2, .int 0])), (h1, .inl (cA, 4096, .inl (fun _ => 0 : Nat → Int32))), (h2, .inl (cB, 512, .inl (fun _ => 0 : Nat → Int32))), (g0, .inr (1, [.int 0, .ref g1, .ref g2, .int 0])), (g1, .inl (cC, 4096, .inl (fun jx => mb_sg ((fun _ => 0 : Nat → Int32) jx)))), (g2, .inl (cD, 512, .inl (fun jx => mb_sg ((fun _ => 0 : Nat → Int32) jx))))] := hD
  have hK1 := va_K.moved hvm.symm hK1
  have hK : va_K (dC, dI) vwCl [(cA, .int), (cB, .int), (cC, .byte), (cD, .byte)] s := hK.app hK1
  refine W.widen (k := 6) (n := 9223) (by decide +kernel) (by decide +kernel) ?_
  refine lv_astore_n (lv' := [(2, .ref g0), (1, .ref h0), (0, .ref b)]) hx hb dL_law_15 rfl hl (by decide) rfl (fun ls hl => ?_)
  refine lv_iconst (v := 0) hx hb dL_law_16 (by decide) ?_
  refine lv_istore_n (lv' := [(3, .int 0), (2, .ref g0), (1, .ref h0), (0, .ref b)]) hx hb dL_law_17 rfl hl (by decide) rfl (fun ls hl => ?_)
  exact law_loop hL C1 hK (L + 1) 0 (Nat.zero_le L) (by omega) ((fun _ => 0 : Nat → Int32), (fun _ => 0 : Nat → Int32), 0) _ _ ls ⟨⟨by decide, by decide⟩, fun _ => mb_B0, fun _ => mb_B0⟩ hP hD hS (lv_sub hl [3, 2, 1, 0] rfl)
end
section
-- ===== YOUR PART ENDS =====
set_option maxHeartbeats 4000000 in
theorem lw_walk (l : Launch) (b : Addr) (xs : List Int32) : MetFree l x (headSpec (Jvm.Cond.code x code maxLocals ret :: tables_1) room_1) (lw_P b xs) (fun _ _ _ _ _ => True) lw_Q := by
  refine MetFree.of_bodyS (code := code) (maxLocals := maxLocals) (ret := ret) (by decide) ?_ ?_
  · intro args s m h hn
    obtain ⟨meth, c, h1, h2, h3, h4, h5, h6, -, -⟩ := Cond.code_spec hn (atoms_spec (ws := Jvm.Cond.code x code maxLocals ret :: tables_1) h _ List.mem_cons_self)
    exact ⟨meth, c, h1, h2, h3, h4, h5, h6⟩
  · intro p e s m args below meth c s₁ B hml0 hP _
    obtain ⟨rfl, hx, hbd, hgv⟩ := hP
    obtain ⟨scr, harrAt, hlist, hof, hsmall⟩ := hx
    obtain ⟨hcb, hkn, -, -⟩ := State.arrayAt?_spec harrAt
    have hown : s.vm.findClass R_law = some m.cls := findClass_of_methodNamed B.named
    have hts0 : ∀ c ∈ (Jvm.Cond.code x code maxLocals ret :: tables_1), c.before #[Value.ref b] s = true := atoms_spec (ws := Jvm.Cond.code x code maxLocals ret :: tables_1) B.pre
    have hts : ∀ w ∈ lw_tbl, w.before #[Value.ref b] s = true := k2_hts_sels lw_privs (fun w hw => hts0 w (List.mem_cons_of_mem _ hw)) lw_privs_ok
    have hml : c.maxLocals = 4 := B.maxLocals_eq (hts0 _ List.mem_cons_self)
    have X₀ : Stand p l e room_1 s m #[Value.ref b] below meth c s₁ [] 0 0 := Stand.of_body B
    have hh0 : s₁.heap = s.heap := by rw [B.state]; rfl
    have hsz : scr.slots.size = xs.length := by rw [← Array.length_toList, hlist, List.length_map]
    have hval : ∀ j : Nat, j < xs.length → scr.slots[j]? = some (.int (xs.getD j 0)) := fun j hj => by
      rw [← Array.getElem?_toList, hlist]
      simp [hj]
    have hbl : b < s.heap.size := (Array.getElem?_eq_some_iff.mp hcb).1
    have hX : va_X b xs.length (fun j => xs.getD j 0) s s.heap := ⟨scr, hcb, hof, hkn, hsz, hval⟩
    have K : W p l e room_1 s m #[Value.ref b] below meth c s₁.heap [] 0 0 (lw_Z below #[Value.ref b] s) (entryFrame m ([Value.ref b] : List Value).toArray 4) := by
      rw [hh0]
      exact whole_start l hbd ⟨B.exec, B.bytes, B.returns, hml, hown, hts, hX, hbl, B.notSynchronized, hgv⟩
    obtain ⟨t, a1, o, b1, b2, b3⟩ := K s₁ rfl X₀
    exact ⟨t, o, a1, b1, b2, b3⟩
theorem lw_pre_spec {args : Array Value} {s : State} (h : (Jvm.Cond.and given_1 narrow_1).before args s = true) (hr : rest_1_c.before args s = true) : ∃ (b : Addr) (xs : List Int32), lw_P b xs args s := by
  have hs := flat_of_before _ h
  have hq := flat_of_before _ hr
  have hc : (Cond.count 1).before args s = true := hs _ (by decide +kernel)
  have harr : (Cond.arrayOf (.arg 0) .int).before args s = true := hs _ (by decide +kernel)
  have hle : (Cond.le (.length (.arg 0)) (.int 2048)).before args s = true := hs _ (by decide +kernel)
  have hlen : (Cond.isInt (.length (.arg 0))).before args s = true := hq _ (by decide +kernel)
  have hall : (Cond.all (.arg 0) (.isInt (.elem (.arg 0) (.index 0)))).before args s = true := hq _ (by decide +kernel)
  obtain ⟨b, xs, hb, hx⟩ := State.ints_of_pre rfl harr hlen hall
  have hsm : xs.length < 2 ^ 31 := hx.choose_spec.2.2.2
  have hev : (Term.length (.arg 0)).eval args s none [] s = some (.int xs.length.toInt32) := hx.length_eval hb
  have hv := Cond.le_ints hev (show (Term.int 2048).eval args s none [] s = some (.int 2048) from rfl)
  have hd : xs.length.toInt32 ≤ 2048 := by
    simpa [Cond.before, Cond.holds, hv] using hle
  have hN : xs.length ≤ 2048 := (Int32.ofNat_le_ofNat hsm (by decide)).mp (show Int32.ofNat xs.length ≤ Int32.ofNat 2048 from hd)
  exact ⟨b, xs, Cond.one_arg hc (show args[0]? = some (.ref b) from hb), hx, hN, h⟩
theorem lw_comes (l : Launch) : Comes l x (Jvm.Cond.code x code maxLocals ret :: tables_1) room_1 (fun tb e args s => Calls_1 tb e args s ∧ rest_1 tb e args s ∧ Pre_1 tb e args s)
    (fun _ _ args s o t => lw_Q args s o t) := by
  intro p e ha hc hk s m args below hf hfit hheap happ hpre
  obtain ⟨b, xs, hP⟩ := lw_pre_spec hpre.2.2 hpre.2.1
  obtain ⟨k, o, h1, h2, h3, hQ⟩ := lw_walk l b xs p e ha hc hk s m args below hf ((Spec.applies_iff_loose hf).mp happ).1 hP trivial
  exact ⟨k, o, h1, h2, h3, hQ⟩
theorem lw_frame {s t : State} {o : Outcome} {args : Array Value} (h : Framed s o t [] 6 9223) :
    Framed s o t (fieldLocs frame_1_writes args s ++ arrayLocs frame_1_arrays args s ++ staticLocs frame_1_statics s) 6 9223 := h
theorem lw_limb (L : Cond) (hL : ∀ (args : Array Value) (s t : State), L.after args s (.returned (some (.int 1))) t = true) :
    ArmFor flags0 classFile x code maxLocals ret World_1 tables_1 room_1 Calls_1 rest_1 Pre_1
      (fun tb e a s o t => postC L tb e a s o t ∧ Framed s o t (fieldLocs frame_1_writes a s ++ arrayLocs frame_1_arrays a s ++ staticLocs frame_1_statics s) 6 9223) := by
  intro l _ _ _ p e ha hc hk s m args below hf hfit hheap happ hpre
  obtain ⟨k, o, h1, h2, h3, rfl, hF⟩ := lw_comes l p e ha hc hk s m args below hf hfit hheap happ hpre
  exact ⟨k, _, h1, h2, h3, hL args s _, lw_frame hF⟩
theorem i_vc : Claimed_1_1 ∧ Claimed_1_2 := ⟨lw_limb limb_1_1 (fun args s t => by simp [limb_1_1, Cond.after, Cond.holds, Cond.value]), lw_limb limb_1_2 (fun args s t => Cond.after_iff.mpr (by
  first | (rw [show limb_1_2 = Cond.eq .result (.int 1) from rfl, Cond.eq_ints (x := 1) (y := 1) rfl rfl]; simp; done) | (simp [limb_1_2, Cond.value, Term.eval]; done)))⟩
end
