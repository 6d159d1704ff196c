section
-- ===== PART A: goes FIRST, ahead of the names: the tables' words, and 'selects' of the private methods out of them =====
/-- a private method of a class that the tables say can be made, by its rows of tables_1 -/
def lw_okq (q : MethodName × Nat) : Prop := (q.1.cls ≠ "java/lang/invoke/MethodHandle" ∧ q.1.cls ≠ "java/lang/invoke/VarHandle") ∧ Cond.instantiable q.1.cls q.2 ∈ tables_1 ∧ Cond.privateMethod q.1 ∈ tables_1 ∧ Cond.instanceMethod q.1 ∈ tables_1
theorem lw_p0 : lw_okq (⟨"JournalShelf", "flushDisk", "()V"⟩, 11) := ⟨⟨by decide +kernel, by decide +kernel⟩, List.mem_of_getElem? (i := 4) (by decide +kernel), List.mem_of_getElem? (i := 54) (by decide +kernel), List.mem_of_getElem? (i := 55) (by decide +kernel)⟩
theorem lw_p1 : lw_okq (⟨"JournalShelf", "changedSlots", "()I"⟩, 11) := ⟨⟨by decide +kernel, by decide +kernel⟩, List.mem_of_getElem? (i := 4) (by decide +kernel), List.mem_of_getElem? (i := 58) (by decide +kernel), List.mem_of_getElem? (i := 59) (by decide +kernel)⟩
theorem lw_p2 : lw_okq (⟨"JournalShelf", "isLastOfItsSlot", "(I)Z"⟩, 11) := ⟨⟨by decide +kernel, by decide +kernel⟩, List.mem_of_getElem? (i := 4) (by decide +kernel), List.mem_of_getElem? (i := 62) (by decide +kernel), List.mem_of_getElem? (i := 63) (by decide +kernel)⟩
theorem lw_p3 : lw_okq (⟨"JournalShelf", "makeSafe", "(I)V"⟩, 11) := ⟨⟨by decide +kernel, by decide +kernel⟩, List.mem_of_getElem? (i := 4) (by decide +kernel), List.mem_of_getElem? (i := 66) (by decide +kernel), List.mem_of_getElem? (i := 67) (by decide +kernel)⟩
theorem lw_p4 : lw_okq (⟨"JournalShelf", "appendChange", "(II)V"⟩, 11) := ⟨⟨by decide +kernel, by decide +kernel⟩, List.mem_of_getElem? (i := 4) (by decide +kernel), List.mem_of_getElem? (i := 70) (by decide +kernel), List.mem_of_getElem? (i := 71) (by decide +kernel)⟩
theorem lw_p5 : lw_okq (⟨"JournalShelf", "wholeDeeds", "(I)I"⟩, 11) := ⟨⟨by decide +kernel, by decide +kernel⟩, List.mem_of_getElem? (i := 4) (by decide +kernel), List.mem_of_getElem? (i := 90) (by decide +kernel), List.mem_of_getElem? (i := 91) (by decide +kernel)⟩
theorem lw_p6 : lw_okq (⟨"JournalShelfModel", "distinct", "()I"⟩, 14) := ⟨⟨by decide +kernel, by decide +kernel⟩, List.mem_of_getElem? (i := 109) (by decide +kernel), List.mem_of_getElem? (i := 166) (by decide +kernel), List.mem_of_getElem? (i := 167) (by decide +kernel)⟩
theorem lw_p7 : lw_okq (⟨"JournalShelfModel", "settle", "()V"⟩, 14) := ⟨⟨by decide +kernel, by decide +kernel⟩, List.mem_of_getElem? (i := 109) (by decide +kernel), List.mem_of_getElem? (i := 170) (by decide +kernel), List.mem_of_getElem? (i := 171) (by decide +kernel)⟩
def lw_privs_1 : List (MethodName × Nat) := [(⟨"JournalShelf", "flushDisk", "()V"⟩, 11), (⟨"JournalShelf", "changedSlots", "()I"⟩, 11), (⟨"JournalShelf", "isLastOfItsSlot", "(I)Z"⟩, 11), (⟨"JournalShelf", "makeSafe", "(I)V"⟩, 11), (⟨"JournalShelf", "appendChange", "(II)V"⟩, 11), (⟨"JournalShelf", "wholeDeeds", "(I)I"⟩, 11), (⟨"JournalShelfModel", "distinct", "()I"⟩, 14), (⟨"JournalShelfModel", "settle", "()V"⟩, 14)]
theorem lw_r1 : ∀ q ∈ lw_privs_1, lw_okq q := List.forall_mem_cons.mpr ⟨lw_p0, List.forall_mem_cons.mpr ⟨lw_p1, List.forall_mem_cons.mpr ⟨lw_p2, List.forall_mem_cons.mpr ⟨lw_p3, List.forall_mem_cons.mpr ⟨lw_p4, List.forall_mem_cons.mpr ⟨lw_p5, List.forall_mem_cons.mpr ⟨lw_p6, List.forall_mem_cons.mpr ⟨lw_p7, fun _ h => absurd h List.not_mem_nil⟩⟩⟩⟩⟩⟩⟩⟩
def lw_privs : List (MethodName × Nat) := lw_privs_1
def lw_tbl : List Cond := k2_sels lw_privs ++ tables_1
theorem lw_privs_ok : ∀ q ∈ lw_privs, lw_okq q := lw_r1
/-! ===== BEGIN words of one list among another's, by their places ===== -/
theorem goodIn_r {big : List Cond} (ws : List Cond) (ps : List Nat) (hp : ws = ps.filterMap (fun i => big[i]?)) (h : ws.all goodWord = true) : GoodIn big ws := by
  intro w hw
  have h1 := List.all_eq_true.mp h w hw
  rw [hp] at hw
  obtain ⟨i, -, hi⟩ := List.mem_filterMap.mp hw
  have hm : w ∈ big := by first | exact List.mem_of_getElem? hi | exact List.getElem?_mem hi
  exact ⟨hm, good_of_word h1⟩
theorem goodIn_app {big a b : List Cond} (ha : GoodIn big a) (hb : GoodIn big b) : GoodIn big (a ++ b) := fun w h => (List.mem_append.mp h).elim (ha w) (hb w)
theorem goodIn_ca {big a b : List Cond} {c : Cond} (ha : GoodIn big (c :: a)) (hb : GoodIn big b) : GoodIn big (c :: (a ++ b)) := fun w h => (List.mem_cons.mp h).elim (fun e => ha w (List.mem_cons.mpr (Or.inl e))) (fun h => (List.mem_append.mp h).elim (fun h => ha w (List.mem_cons.mpr (Or.inr h))) (hb w))
theorem goodIn_sub {big ws : List Cond} (hm : ∀ w ∈ ws, w ∈ big) (h : ws.all goodWord = true) : GoodIn big ws := fun w hw => ⟨hm w hw, good_of_word (List.all_eq_true.mp h w hw)⟩
/-! ===== END ===== -/

/-! ===== BEGIN printed: names, fields, word lists, decode rows ===== -/
def RX0 : String := "JournalShelf"
def TX0 : u_T := fun k => match k with
  | 0 => ("JournalShelf", "safeValue", "[I", true)
  | 1 => ("JournalShelf", "journalSlot", "[I", true)
  | 2 => ("JournalShelf", "journalValue", "[I", true)
  | 3 => ("JournalShelf", "journalDeed", "[I", true)
  | 4 => ("JournalShelf", "committedChanges", "I", false)
  | 5 => ("JournalShelf", "openChanges", "I", false)
  | 6 => ("JournalShelf", "safeDeeds", "I", false)
  | 7 => ("JournalShelf", "journalDeeds", "I", false)
  | 8 => ("JournalShelf", "flushBlocks", "I", false)
  | 9 => ("JournalShelf", "flushes", "I", false)
  | _ => ("JournalShelf", "crashes", "I", false)
def tyX0 : Nat → FieldType := fun k => match k with
  | 0 => .array .int
  | 1 => .array .int
  | 2 => .array .int
  | 3 => .array .int
  | 4 => .int
  | 5 => .int
  | 6 => .int
  | 7 => .int
  | 8 => .int
  | 9 => .int
  | _ => .int
abbrev wsX00 : List Cond := u_ws RX0 TX0 11
theorem nmX0 : ∀ a, a < 11 → ∀ b, b < 11 → a ≠ b → (TX0 a).2.1 ≠ (TX0 b).2.1 := by decide +kernel
theorem tyX0_ok : ∀ k, k < 11 → parseFieldDescriptor (TX0 k).2.2.1 = some (tyX0 k) := by decide +kernel
abbrev cX0_init : ByteArray := prog_1_method_1_code
def yX0_init : MethodName := ⟨RX0, "<init>", "()V"⟩
abbrev cX0_change : ByteArray := prog_1_method_2_code
def yX0_change : MethodName := ⟨RX0, "change", "(II)I"⟩
abbrev cX0_commit : ByteArray := prog_1_method_3_code
def yX0_commit : MethodName := ⟨RX0, "commit", "()I"⟩
abbrev cX0_forget : ByteArray := prog_1_method_4_code
def yX0_forget : MethodName := ⟨RX0, "forget", "()I"⟩
abbrev cX0_flush : ByteArray := prog_1_method_5_code
def yX0_flush : MethodName := ⟨RX0, "flush", "()I"⟩
abbrev cX0_crash : ByteArray := prog_1_method_6_code
def yX0_crash : MethodName := ⟨RX0, "crash", "(II)I"⟩
abbrev cX0_get : ByteArray := prog_1_method_7_code
def yX0_get : MethodName := ⟨RX0, "get", "(I)I"⟩
abbrev cX0_torn : ByteArray := prog_1_method_8_code
def yX0_torn : MethodName := ⟨RX0, "torn", "()I"⟩
abbrev cX0_count : ByteArray := prog_1_method_9_code
def yX0_count : MethodName := ⟨RX0, "count", "(I)I"⟩
abbrev cX0_isSlot : ByteArray := prog_1_method_10_code
def yX0_isSlot : MethodName := ⟨RX0, "isSlot", "(I)Z"⟩
abbrev cX0_appendChange : ByteArray := prog_1_method_11_code
def yX0_appendChange : MethodName := ⟨RX0, "appendChange", "(II)V"⟩
abbrev cX0_flushDisk : ByteArray := prog_1_method_12_code
def yX0_flushDisk : MethodName := ⟨RX0, "flushDisk", "()V"⟩
abbrev cX0_changedSlots : ByteArray := prog_1_method_13_code
def yX0_changedSlots : MethodName := ⟨RX0, "changedSlots", "()I"⟩
abbrev cX0_isLastOfItsSlot : ByteArray := prog_1_method_14_code
def yX0_isLastOfItsSlot : MethodName := ⟨RX0, "isLastOfItsSlot", "(I)Z"⟩
abbrev cX0_wholeDeeds : ByteArray := prog_1_method_15_code
def yX0_wholeDeeds : MethodName := ⟨RX0, "wholeDeeds", "(I)I"⟩
abbrev cX0_blockStands : ByteArray := prog_1_method_16_code
def yX0_blockStands : MethodName := ⟨RX0, "blockStands", "(II)Z"⟩
abbrev cX0_makeSafe : ByteArray := prog_1_method_17_code
def yX0_makeSafe : MethodName := ⟨RX0, "makeSafe", "(I)V"⟩
def RX1 : String := "JournalShelfModel"
def TX1 : u_T := fun k => match k with
  | 0 => ("JournalShelfModel", "flushed", "[I", true)
  | 1 => ("JournalShelfModel", "now", "[I", true)
  | 2 => ("JournalShelfModel", "slot", "[I", true)
  | 3 => ("JournalShelfModel", "value", "[I", true)
  | 4 => ("JournalShelfModel", "lastOf", "[I", true)
  | 5 => ("JournalShelfModel", "changes", "I", false)
  | 6 => ("JournalShelfModel", "homes", "I", false)
  | 7 => ("JournalShelfModel", "ownSlot", "[I", true)
  | 8 => ("JournalShelfModel", "ownValue", "[I", true)
  | 9 => ("JournalShelfModel", "own", "I", false)
  | 10 => ("JournalShelfModel", "deeds", "I", false)
  | 11 => ("JournalShelfModel", "since", "I", false)
  | 12 => ("JournalShelfModel", "flushes", "I", false)
  | _ => ("JournalShelfModel", "crashes", "I", false)
def tyX1 : Nat → FieldType := fun k => match k with
  | 0 => .array .int
  | 1 => .array .int
  | 2 => .array .int
  | 3 => .array .int
  | 4 => .array .int
  | 5 => .int
  | 6 => .int
  | 7 => .array .int
  | 8 => .array .int
  | 9 => .int
  | 10 => .int
  | 11 => .int
  | 12 => .int
  | _ => .int
abbrev wsX10 : List Cond := u_ws RX1 TX1 14
theorem nmX1 : ∀ a, a < 14 → ∀ b, b < 14 → a ≠ b → (TX1 a).2.1 ≠ (TX1 b).2.1 := by decide +kernel
theorem tyX1_ok : ∀ k, k < 14 → parseFieldDescriptor (TX1 k).2.2.1 = some (tyX1 k) := by decide +kernel
abbrev cX1_init : ByteArray := prog_3_method_1_code
def yX1_init : MethodName := ⟨RX1, "<init>", "()V"⟩
abbrev cX1_settle : ByteArray := prog_3_method_2_code
def yX1_settle : MethodName := ⟨RX1, "settle", "()V"⟩
abbrev cX1_distinct : ByteArray := prog_3_method_3_code
def yX1_distinct : MethodName := ⟨RX1, "distinct", "()I"⟩
abbrev cX1_change : ByteArray := prog_3_method_4_code
def yX1_change : MethodName := ⟨RX1, "change", "(II)I"⟩
abbrev cX1_commit : ByteArray := prog_3_method_5_code
def yX1_commit : MethodName := ⟨RX1, "commit", "()I"⟩
abbrev cX1_forget : ByteArray := prog_3_method_6_code
def yX1_forget : MethodName := ⟨RX1, "forget", "()I"⟩
abbrev cX1_flush : ByteArray := prog_3_method_7_code
def yX1_flush : MethodName := ⟨RX1, "flush", "()I"⟩
abbrev cX1_crash : ByteArray := prog_3_method_8_code
def yX1_crash : MethodName := ⟨RX1, "crash", "(II)I"⟩
abbrev cX1_get : ByteArray := prog_3_method_9_code
def yX1_get : MethodName := ⟨RX1, "get", "(I)I"⟩
abbrev cX1_torn : ByteArray := prog_3_method_10_code
def yX1_torn : MethodName := ⟨RX1, "torn", "()I"⟩
abbrev cX1_count : ByteArray := prog_3_method_11_code
def yX1_count : MethodName := ⟨RX1, "count", "(I)I"⟩
def RL : String := "JournalShelfLaw"
abbrev cL_law : ByteArray := code
def yL_law : MethodName := ⟨RL, "law", "([I)Z"⟩
def wsX0_init : List Cond := .code yX0_init cX0_init 1 none :: ([.methodLink RX0 3 objectInit, .instanceMethod objectInit, .code objectInit ⟨#[0xb1]⟩ 1 none, .arrayClass .int, .fieldLink RX0 9 "JournalShelf" "safeValue" "[I", .fieldLink RX0 13 "JournalShelf" "journalSlot" "[I", .fieldLink RX0 16 "JournalShelf" "journalValue" "[I", .fieldLink RX0 19 "JournalShelf" "journalDeed" "[I"] ++ wsX00)
def wsX0_isSlot : List Cond := .code yX0_isSlot cX0_isSlot 1 (some .boolean) :: ([])
def wsX0_isLastOfItsSlot : List Cond := .code yX0_isLastOfItsSlot cX0_isLastOfItsSlot 3 (some .boolean) :: ([.fieldLink RX0 30 "JournalShelf" "committedChanges" "I", .fieldLink RX0 13 "JournalShelf" "journalSlot" "[I"] ++ wsX00)
def wsX0_changedSlots : List Cond := .code yX0_changedSlots cX0_changedSlots 3 (some .int) :: ([.fieldLink RX0 30 "JournalShelf" "committedChanges" "I", .methodLink RX0 67 yX0_isLastOfItsSlot, .instanceMethod yX0_isLastOfItsSlot, .selects RX0 yX0_isLastOfItsSlot yX0_isLastOfItsSlot, .initialized RX0, .code yX0_isLastOfItsSlot cX0_isLastOfItsSlot 3 (some .boolean), .fieldLink RX0 13 "JournalShelf" "journalSlot" "[I"] ++ wsX00)
def wsX0_makeSafe : List Cond := .code yX0_makeSafe cX0_makeSafe 3 none :: ([.fieldLink RX0 30 "JournalShelf" "committedChanges" "I", .fieldLink RX0 19 "JournalShelf" "journalDeed" "[I", .fieldLink RX0 9 "JournalShelf" "safeValue" "[I", .fieldLink RX0 13 "JournalShelf" "journalSlot" "[I", .fieldLink RX0 16 "JournalShelf" "journalValue" "[I", .fieldLink RX0 57 "JournalShelf" "safeDeeds" "I", .fieldLink RX0 40 "JournalShelf" "journalDeeds" "I", .fieldLink RX0 26 "JournalShelf" "openChanges" "I"] ++ wsX00)
def wsX0_flushDisk : List Cond := .code yX0_flushDisk cX0_flushDisk 2 none :: ([.fieldLink RX0 40 "JournalShelf" "journalDeeds" "I", .fieldLink RX0 51 "JournalShelf" "flushBlocks" "I", .fieldLink RX0 60 "JournalShelf" "flushes" "I", .methodLink RX0 63 yX0_changedSlots, .instanceMethod yX0_changedSlots, .selects RX0 yX0_changedSlots yX0_changedSlots, .initialized RX0, .code yX0_changedSlots cX0_changedSlots 3 (some .int), .fieldLink RX0 30 "JournalShelf" "committedChanges" "I", .methodLink RX0 67 yX0_isLastOfItsSlot, .instanceMethod yX0_isLastOfItsSlot, .selects RX0 yX0_isLastOfItsSlot yX0_isLastOfItsSlot, .code yX0_isLastOfItsSlot cX0_isLastOfItsSlot 3 (some .boolean), .fieldLink RX0 13 "JournalShelf" "journalSlot" "[I", .methodLink RX0 47 yX0_makeSafe, .instanceMethod yX0_makeSafe, .selects RX0 yX0_makeSafe yX0_makeSafe, .code yX0_makeSafe cX0_makeSafe 3 none, .fieldLink RX0 19 "JournalShelf" "journalDeed" "[I", .fieldLink RX0 9 "JournalShelf" "safeValue" "[I", .fieldLink RX0 16 "JournalShelf" "journalValue" "[I", .fieldLink RX0 57 "JournalShelf" "safeDeeds" "I", .fieldLink RX0 26 "JournalShelf" "openChanges" "I"] ++ wsX00)
def wsX0_appendChange : List Cond := .code yX0_appendChange cX0_appendChange 4 none :: ([.fieldLink RX0 30 "JournalShelf" "committedChanges" "I", .fieldLink RX0 26 "JournalShelf" "openChanges" "I", .fieldLink RX0 13 "JournalShelf" "journalSlot" "[I", .fieldLink RX0 16 "JournalShelf" "journalValue" "[I", .fieldLink RX0 19 "JournalShelf" "journalDeed" "[I", .fieldLink RX0 40 "JournalShelf" "journalDeeds" "I"] ++ wsX00)
def wsX0_change_r1 : List Cond := [Cond.fieldLink RX0 26 "JournalShelf" "openChanges" "I", Cond.fieldLink RX0 30 "JournalShelf" "committedChanges" "I", Cond.methodLink RX0 22 yX0_isSlot, Cond.static yX0_isSlot, Cond.initialized RX0, Cond.code yX0_isSlot cX0_isSlot 1 (some .boolean), Cond.methodLink RX0 33 yX0_flushDisk, Cond.instanceMethod yX0_flushDisk, Cond.selects RX0 yX0_flushDisk yX0_flushDisk, Cond.code yX0_flushDisk cX0_flushDisk 2 none, Cond.fieldLink RX0 40 "JournalShelf" "journalDeeds" "I", Cond.fieldLink RX0 51 "JournalShelf" "flushBlocks" "I", Cond.fieldLink RX0 60 "JournalShelf" "flushes" "I", Cond.methodLink RX0 63 yX0_changedSlots, Cond.instanceMethod yX0_changedSlots, Cond.selects RX0 yX0_changedSlots yX0_changedSlots, Cond.code yX0_changedSlots cX0_changedSlots 3 (some .int), Cond.methodLink RX0 67 yX0_isLastOfItsSlot, Cond.instanceMethod yX0_isLastOfItsSlot, Cond.selects RX0 yX0_isLastOfItsSlot yX0_isLastOfItsSlot, Cond.code yX0_isLastOfItsSlot cX0_isLastOfItsSlot 3 (some .boolean), Cond.fieldLink RX0 13 "JournalShelf" "journalSlot" "[I", Cond.methodLink RX0 47 yX0_makeSafe, Cond.instanceMethod yX0_makeSafe]
def wsX0_change_r2 : List Cond := [Cond.selects RX0 yX0_makeSafe yX0_makeSafe, Cond.code yX0_makeSafe cX0_makeSafe 3 none, Cond.fieldLink RX0 19 "JournalShelf" "journalDeed" "[I", Cond.fieldLink RX0 9 "JournalShelf" "safeValue" "[I", Cond.fieldLink RX0 16 "JournalShelf" "journalValue" "[I", Cond.fieldLink RX0 57 "JournalShelf" "safeDeeds" "I", Cond.methodLink RX0 36 yX0_appendChange, Cond.instanceMethod yX0_appendChange, Cond.selects RX0 yX0_appendChange yX0_appendChange, Cond.code yX0_appendChange cX0_appendChange 4 none]
def wsX0_change : List Cond := .code yX0_change cX0_change 3 (some .int) :: ((wsX0_change_r1 ++ wsX0_change_r2) ++ wsX00)
def wsX0_commit : List Cond := .code yX0_commit cX0_commit 2 (some .int) :: ([.fieldLink RX0 26 "JournalShelf" "openChanges" "I", .fieldLink RX0 30 "JournalShelf" "committedChanges" "I", .fieldLink RX0 40 "JournalShelf" "journalDeeds" "I"] ++ wsX00)
def wsX0_forget : List Cond := .code yX0_forget cX0_forget 2 (some .int) :: ([.fieldLink RX0 26 "JournalShelf" "openChanges" "I"] ++ wsX00)
def wsX0_flush_r1 : List Cond := [Cond.fieldLink RX0 40 "JournalShelf" "journalDeeds" "I", Cond.methodLink RX0 33 yX0_flushDisk, Cond.instanceMethod yX0_flushDisk, Cond.selects RX0 yX0_flushDisk yX0_flushDisk, Cond.initialized RX0, Cond.code yX0_flushDisk cX0_flushDisk 2 none, Cond.fieldLink RX0 51 "JournalShelf" "flushBlocks" "I", Cond.fieldLink RX0 60 "JournalShelf" "flushes" "I", Cond.methodLink RX0 63 yX0_changedSlots, Cond.instanceMethod yX0_changedSlots, Cond.selects RX0 yX0_changedSlots yX0_changedSlots, Cond.code yX0_changedSlots cX0_changedSlots 3 (some .int), Cond.fieldLink RX0 30 "JournalShelf" "committedChanges" "I", Cond.methodLink RX0 67 yX0_isLastOfItsSlot, Cond.instanceMethod yX0_isLastOfItsSlot, Cond.selects RX0 yX0_isLastOfItsSlot yX0_isLastOfItsSlot, Cond.code yX0_isLastOfItsSlot cX0_isLastOfItsSlot 3 (some .boolean), Cond.fieldLink RX0 13 "JournalShelf" "journalSlot" "[I", Cond.methodLink RX0 47 yX0_makeSafe, Cond.instanceMethod yX0_makeSafe, Cond.selects RX0 yX0_makeSafe yX0_makeSafe, Cond.code yX0_makeSafe cX0_makeSafe 3 none, Cond.fieldLink RX0 19 "JournalShelf" "journalDeed" "[I", Cond.fieldLink RX0 9 "JournalShelf" "safeValue" "[I"]
def wsX0_flush_r2 : List Cond := [Cond.fieldLink RX0 16 "JournalShelf" "journalValue" "[I", Cond.fieldLink RX0 57 "JournalShelf" "safeDeeds" "I", Cond.fieldLink RX0 26 "JournalShelf" "openChanges" "I"]
def wsX0_flush : List Cond := .code yX0_flush cX0_flush 2 (some .int) :: ((wsX0_flush_r1 ++ wsX0_flush_r2) ++ wsX00)
def wsX0_blockStands : List Cond := .code yX0_blockStands cX0_blockStands 2 (some .boolean) :: ([])
def wsX0_wholeDeeds : List Cond := .code yX0_wholeDeeds cX0_wholeDeeds 3 (some .int) :: ([.fieldLink RX0 30 "JournalShelf" "committedChanges" "I", .fieldLink RX0 51 "JournalShelf" "flushBlocks" "I", .fieldLink RX0 19 "JournalShelf" "journalDeed" "[I", .fieldLink RX0 40 "JournalShelf" "journalDeeds" "I", .methodLink RX0 70 yX0_blockStands, .static yX0_blockStands, .initialized RX0, .code yX0_blockStands cX0_blockStands 2 (some .boolean)] ++ wsX00)
def wsX0_crash : List Cond := .code yX0_crash cX0_crash 5 (some .int) :: ([.fieldLink RX0 40 "JournalShelf" "journalDeeds" "I", .fieldLink RX0 51 "JournalShelf" "flushBlocks" "I", .fieldLink RX0 54 "JournalShelf" "crashes" "I", .methodLink RX0 43 yX0_wholeDeeds, .instanceMethod yX0_wholeDeeds, .selects RX0 yX0_wholeDeeds yX0_wholeDeeds, .initialized RX0, .code yX0_wholeDeeds cX0_wholeDeeds 3 (some .int), .fieldLink RX0 30 "JournalShelf" "committedChanges" "I", .fieldLink RX0 19 "JournalShelf" "journalDeed" "[I", .methodLink RX0 70 yX0_blockStands, .static yX0_blockStands, .code yX0_blockStands cX0_blockStands 2 (some .boolean), .methodLink RX0 47 yX0_makeSafe, .instanceMethod yX0_makeSafe, .selects RX0 yX0_makeSafe yX0_makeSafe, .code yX0_makeSafe cX0_makeSafe 3 none, .fieldLink RX0 9 "JournalShelf" "safeValue" "[I", .fieldLink RX0 13 "JournalShelf" "journalSlot" "[I", .fieldLink RX0 16 "JournalShelf" "journalValue" "[I", .fieldLink RX0 57 "JournalShelf" "safeDeeds" "I", .fieldLink RX0 26 "JournalShelf" "openChanges" "I"] ++ wsX00)
def wsX0_get : List Cond := .code yX0_get cX0_get 3 (some .int) :: ([.fieldLink RX0 30 "JournalShelf" "committedChanges" "I", .fieldLink RX0 13 "JournalShelf" "journalSlot" "[I", .fieldLink RX0 16 "JournalShelf" "journalValue" "[I", .fieldLink RX0 9 "JournalShelf" "safeValue" "[I", .methodLink RX0 22 yX0_isSlot, .static yX0_isSlot, .initialized RX0, .code yX0_isSlot cX0_isSlot 1 (some .boolean)] ++ wsX00)
def wsX0_torn : List Cond := .code yX0_torn cX0_torn 1 (some .int) :: ([])
def wsX0_count : List Cond := .code yX0_count cX0_count 2 (some .int) :: ([.fieldLink RX0 57 "JournalShelf" "safeDeeds" "I", .fieldLink RX0 40 "JournalShelf" "journalDeeds" "I", .fieldLink RX0 51 "JournalShelf" "flushBlocks" "I", .fieldLink RX0 30 "JournalShelf" "committedChanges" "I", .fieldLink RX0 26 "JournalShelf" "openChanges" "I", .fieldLink RX0 60 "JournalShelf" "flushes" "I", .fieldLink RX0 54 "JournalShelf" "crashes" "I"] ++ wsX00)
def wsX1_init : List Cond := .code yX1_init cX1_init 1 none :: ([.methodLink RX1 1 objectInit, .instanceMethod objectInit, .code objectInit ⟨#[0xb1]⟩ 1 none, .arrayClass .int, .fieldLink RX1 9 "JournalShelfModel" "flushed" "[I", .fieldLink RX1 13 "JournalShelfModel" "now" "[I", .fieldLink RX1 16 "JournalShelfModel" "slot" "[I", .fieldLink RX1 19 "JournalShelfModel" "value" "[I", .fieldLink RX1 22 "JournalShelfModel" "lastOf" "[I", .fieldLink RX1 25 "JournalShelfModel" "ownSlot" "[I", .fieldLink RX1 28 "JournalShelfModel" "ownValue" "[I"] ++ wsX10)
def wsX1_settle : List Cond := .code yX1_settle cX1_settle 2 none :: ([.fieldLink RX1 9 "JournalShelfModel" "flushed" "[I", .fieldLink RX1 13 "JournalShelfModel" "now" "[I", .fieldLink RX1 31 "JournalShelfModel" "changes" "I", .fieldLink RX1 35 "JournalShelfModel" "since" "I"] ++ wsX10)
def wsX1_distinct : List Cond := .code yX1_distinct cX1_distinct 5 (some .int) :: ([.fieldLink RX1 31 "JournalShelfModel" "changes" "I", .fieldLink RX1 16 "JournalShelfModel" "slot" "[I"] ++ wsX10)
def wsX1_flush : List Cond := .code yX1_flush cX1_flush 2 (some .int) :: ([.fieldLink RX1 35 "JournalShelfModel" "since" "I", .fieldLink RX1 38 "JournalShelfModel" "own" "I", .fieldLink RX1 51 "JournalShelfModel" "homes" "I", .fieldLink RX1 57 "JournalShelfModel" "flushes" "I", .methodLink RX1 48 yX1_distinct, .instanceMethod yX1_distinct, .selects RX1 yX1_distinct yX1_distinct, .initialized RX1, .code yX1_distinct cX1_distinct 5 (some .int), .fieldLink RX1 31 "JournalShelfModel" "changes" "I", .fieldLink RX1 16 "JournalShelfModel" "slot" "[I", .methodLink RX1 54 yX1_settle, .instanceMethod yX1_settle, .selects RX1 yX1_settle yX1_settle, .code yX1_settle cX1_settle 2 none, .fieldLink RX1 9 "JournalShelfModel" "flushed" "[I", .fieldLink RX1 13 "JournalShelfModel" "now" "[I"] ++ wsX10)
def wsX1_change : List Cond := .code yX1_change cX1_change 3 (some .int) :: ([.fieldLink RX1 38 "JournalShelfModel" "own" "I", .fieldLink RX1 31 "JournalShelfModel" "changes" "I", .fieldLink RX1 25 "JournalShelfModel" "ownSlot" "[I", .fieldLink RX1 28 "JournalShelfModel" "ownValue" "[I", .methodLink RX1 41 yX1_flush, .instanceMethod yX1_flush, .selects RX1 yX1_flush yX1_flush, .initialized RX1, .code yX1_flush cX1_flush 2 (some .int), .fieldLink RX1 35 "JournalShelfModel" "since" "I", .fieldLink RX1 51 "JournalShelfModel" "homes" "I", .fieldLink RX1 57 "JournalShelfModel" "flushes" "I", .methodLink RX1 48 yX1_distinct, .instanceMethod yX1_distinct, .selects RX1 yX1_distinct yX1_distinct, .code yX1_distinct cX1_distinct 5 (some .int), .fieldLink RX1 16 "JournalShelfModel" "slot" "[I", .methodLink RX1 54 yX1_settle, .instanceMethod yX1_settle, .selects RX1 yX1_settle yX1_settle, .code yX1_settle cX1_settle 2 none, .fieldLink RX1 9 "JournalShelfModel" "flushed" "[I", .fieldLink RX1 13 "JournalShelfModel" "now" "[I"] ++ wsX10)
def wsX1_commit : List Cond := .code yX1_commit cX1_commit 3 (some .int) :: ([.fieldLink RX1 38 "JournalShelfModel" "own" "I", .fieldLink RX1 16 "JournalShelfModel" "slot" "[I", .fieldLink RX1 31 "JournalShelfModel" "changes" "I", .fieldLink RX1 25 "JournalShelfModel" "ownSlot" "[I", .fieldLink RX1 19 "JournalShelfModel" "value" "[I", .fieldLink RX1 28 "JournalShelfModel" "ownValue" "[I", .fieldLink RX1 22 "JournalShelfModel" "lastOf" "[I", .fieldLink RX1 13 "JournalShelfModel" "now" "[I", .fieldLink RX1 45 "JournalShelfModel" "deeds" "I", .fieldLink RX1 35 "JournalShelfModel" "since" "I"] ++ wsX10)
def wsX1_forget : List Cond := .code yX1_forget cX1_forget 2 (some .int) :: ([.fieldLink RX1 38 "JournalShelfModel" "own" "I"] ++ wsX10)
def wsX1_crash : List Cond := .code yX1_crash cX1_crash 7 (some .int) :: ([.fieldLink RX1 31 "JournalShelfModel" "changes" "I", .fieldLink RX1 51 "JournalShelfModel" "homes" "I", .fieldLink RX1 22 "JournalShelfModel" "lastOf" "[I", .fieldLink RX1 13 "JournalShelfModel" "now" "[I", .fieldLink RX1 9 "JournalShelfModel" "flushed" "[I", .fieldLink RX1 16 "JournalShelfModel" "slot" "[I", .fieldLink RX1 19 "JournalShelfModel" "value" "[I", .fieldLink RX1 35 "JournalShelfModel" "since" "I", .fieldLink RX1 45 "JournalShelfModel" "deeds" "I", .fieldLink RX1 38 "JournalShelfModel" "own" "I", .fieldLink RX1 60 "JournalShelfModel" "crashes" "I", .methodLink RX1 54 yX1_settle, .instanceMethod yX1_settle, .selects RX1 yX1_settle yX1_settle, .initialized RX1, .code yX1_settle cX1_settle 2 none] ++ wsX10)
def wsX1_get : List Cond := .code yX1_get cX1_get 2 (some .int) :: ([.fieldLink RX1 13 "JournalShelfModel" "now" "[I"] ++ wsX10)
def wsX1_torn : List Cond := .code yX1_torn cX1_torn 1 (some .int) :: ([])
def wsX1_count : List Cond := .code yX1_count cX1_count 2 (some .int) :: ([.fieldLink RX1 45 "JournalShelfModel" "deeds" "I", .fieldLink RX1 35 "JournalShelfModel" "since" "I", .fieldLink RX1 51 "JournalShelfModel" "homes" "I", .fieldLink RX1 31 "JournalShelfModel" "changes" "I", .fieldLink RX1 38 "JournalShelfModel" "own" "I", .fieldLink RX1 57 "JournalShelfModel" "flushes" "I", .fieldLink RX1 60 "JournalShelfModel" "crashes" "I"] ++ wsX10)
def wsL_law_r1 : List Cond := [Cond.classLink RL 7 RX0, Cond.instantiable RX0 11, Cond.initialized RX0, Cond.classLink RL 10 RX1, Cond.instantiable RX1 14, Cond.initialized RX1, Cond.methodLink RL 9 yX0_init, Cond.instanceMethod yX0_init, Cond.code yX0_init cX0_init 1 none, Cond.methodLink RX0 3 objectInit, Cond.instanceMethod objectInit, Cond.code objectInit ⟨#[0xb1]⟩ 1 none, Cond.arrayClass .int, Cond.fieldLink RX0 9 "JournalShelf" "safeValue" "[I", Cond.fieldLink RX0 13 "JournalShelf" "journalSlot" "[I", Cond.fieldLink RX0 16 "JournalShelf" "journalValue" "[I", Cond.fieldLink RX0 19 "JournalShelf" "journalDeed" "[I", Cond.methodLink RL 12 yX1_init, Cond.instanceMethod yX1_init, Cond.code yX1_init cX1_init 1 none, Cond.methodLink RX1 1 objectInit, Cond.fieldLink RX1 9 "JournalShelfModel" "flushed" "[I", Cond.fieldLink RX1 13 "JournalShelfModel" "now" "[I", Cond.fieldLink RX1 16 "JournalShelfModel" "slot" "[I"]
def wsL_law_r2 : List Cond := [Cond.fieldLink RX1 19 "JournalShelfModel" "value" "[I", Cond.fieldLink RX1 22 "JournalShelfModel" "lastOf" "[I", Cond.fieldLink RX1 25 "JournalShelfModel" "ownSlot" "[I", Cond.fieldLink RX1 28 "JournalShelfModel" "ownValue" "[I", Cond.methodLink RL 13 yX0_change, Cond.instanceMethod yX0_change, Cond.selects RX0 yX0_change yX0_change, Cond.code yX0_change cX0_change 3 (some .int), Cond.fieldLink RX0 26 "JournalShelf" "openChanges" "I", Cond.fieldLink RX0 30 "JournalShelf" "committedChanges" "I", Cond.methodLink RX0 22 yX0_isSlot, Cond.static yX0_isSlot, Cond.code yX0_isSlot cX0_isSlot 1 (some .boolean), Cond.methodLink RX0 33 yX0_flushDisk, Cond.instanceMethod yX0_flushDisk, Cond.selects RX0 yX0_flushDisk yX0_flushDisk, Cond.code yX0_flushDisk cX0_flushDisk 2 none, Cond.fieldLink RX0 40 "JournalShelf" "journalDeeds" "I", Cond.fieldLink RX0 51 "JournalShelf" "flushBlocks" "I", Cond.fieldLink RX0 60 "JournalShelf" "flushes" "I", Cond.methodLink RX0 63 yX0_changedSlots, Cond.instanceMethod yX0_changedSlots, Cond.selects RX0 yX0_changedSlots yX0_changedSlots, Cond.code yX0_changedSlots cX0_changedSlots 3 (some .int)]
def wsL_law_r3 : List Cond := [Cond.methodLink RX0 67 yX0_isLastOfItsSlot, Cond.instanceMethod yX0_isLastOfItsSlot, Cond.selects RX0 yX0_isLastOfItsSlot yX0_isLastOfItsSlot, Cond.code yX0_isLastOfItsSlot cX0_isLastOfItsSlot 3 (some .boolean), Cond.methodLink RX0 47 yX0_makeSafe, Cond.instanceMethod yX0_makeSafe, Cond.selects RX0 yX0_makeSafe yX0_makeSafe, Cond.code yX0_makeSafe cX0_makeSafe 3 none, Cond.fieldLink RX0 57 "JournalShelf" "safeDeeds" "I", Cond.methodLink RX0 36 yX0_appendChange, Cond.instanceMethod yX0_appendChange, Cond.selects RX0 yX0_appendChange yX0_appendChange, Cond.code yX0_appendChange cX0_appendChange 4 none, Cond.methodLink RL 17 yX1_change, Cond.instanceMethod yX1_change, Cond.selects RX1 yX1_change yX1_change, Cond.code yX1_change cX1_change 3 (some .int), Cond.fieldLink RX1 38 "JournalShelfModel" "own" "I", Cond.fieldLink RX1 31 "JournalShelfModel" "changes" "I", Cond.methodLink RX1 41 yX1_flush, Cond.instanceMethod yX1_flush, Cond.selects RX1 yX1_flush yX1_flush, Cond.code yX1_flush cX1_flush 2 (some .int), Cond.fieldLink RX1 35 "JournalShelfModel" "since" "I"]
def wsL_law_r4 : List Cond := [Cond.fieldLink RX1 51 "JournalShelfModel" "homes" "I", Cond.fieldLink RX1 57 "JournalShelfModel" "flushes" "I", Cond.methodLink RX1 48 yX1_distinct, Cond.instanceMethod yX1_distinct, Cond.selects RX1 yX1_distinct yX1_distinct, Cond.code yX1_distinct cX1_distinct 5 (some .int), Cond.methodLink RX1 54 yX1_settle, Cond.instanceMethod yX1_settle, Cond.selects RX1 yX1_settle yX1_settle, Cond.code yX1_settle cX1_settle 2 none, Cond.methodLink RL 18 yX0_commit, Cond.instanceMethod yX0_commit, Cond.selects RX0 yX0_commit yX0_commit, Cond.code yX0_commit cX0_commit 2 (some .int), Cond.methodLink RL 22 yX1_commit, Cond.instanceMethod yX1_commit, Cond.selects RX1 yX1_commit yX1_commit, Cond.code yX1_commit cX1_commit 3 (some .int), Cond.fieldLink RX1 45 "JournalShelfModel" "deeds" "I", Cond.methodLink RL 23 yX0_forget, Cond.instanceMethod yX0_forget, Cond.selects RX0 yX0_forget yX0_forget, Cond.code yX0_forget cX0_forget 2 (some .int), Cond.methodLink RL 26 yX1_forget]
def wsL_law_r5 : List Cond := [Cond.instanceMethod yX1_forget, Cond.selects RX1 yX1_forget yX1_forget, Cond.code yX1_forget cX1_forget 2 (some .int), Cond.methodLink RL 27 yX0_flush, Cond.instanceMethod yX0_flush, Cond.selects RX0 yX0_flush yX0_flush, Cond.code yX0_flush cX0_flush 2 (some .int), Cond.methodLink RL 30 yX1_flush, Cond.methodLink RL 31 yX0_crash, Cond.instanceMethod yX0_crash, Cond.selects RX0 yX0_crash yX0_crash, Cond.code yX0_crash cX0_crash 5 (some .int), Cond.fieldLink RX0 54 "JournalShelf" "crashes" "I", Cond.methodLink RX0 43 yX0_wholeDeeds, Cond.instanceMethod yX0_wholeDeeds, Cond.selects RX0 yX0_wholeDeeds yX0_wholeDeeds, Cond.code yX0_wholeDeeds cX0_wholeDeeds 3 (some .int), Cond.methodLink RX0 70 yX0_blockStands, Cond.static yX0_blockStands, Cond.code yX0_blockStands cX0_blockStands 2 (some .boolean), Cond.methodLink RL 34 yX1_crash, Cond.instanceMethod yX1_crash, Cond.selects RX1 yX1_crash yX1_crash, Cond.code yX1_crash cX1_crash 7 (some .int)]
def wsL_law_r6 : List Cond := [Cond.fieldLink RX1 60 "JournalShelfModel" "crashes" "I", Cond.methodLink RL 35 yX0_get, Cond.instanceMethod yX0_get, Cond.selects RX0 yX0_get yX0_get, Cond.code yX0_get cX0_get 3 (some .int), Cond.methodLink RL 39 yX1_get, Cond.instanceMethod yX1_get, Cond.selects RX1 yX1_get yX1_get, Cond.code yX1_get cX1_get 2 (some .int), Cond.methodLink RL 40 yX0_torn, Cond.instanceMethod yX0_torn, Cond.selects RX0 yX0_torn yX0_torn, Cond.code yX0_torn cX0_torn 1 (some .int), Cond.methodLink RL 43 yX1_torn, Cond.instanceMethod yX1_torn, Cond.selects RX1 yX1_torn yX1_torn, Cond.code yX1_torn cX1_torn 1 (some .int), Cond.methodLink RL 44 yX0_count, Cond.instanceMethod yX0_count, Cond.selects RX0 yX0_count yX0_count, Cond.code yX0_count cX0_count 2 (some .int), Cond.methodLink RL 47 yX1_count, Cond.instanceMethod yX1_count, Cond.selects RX1 yX1_count yX1_count]
def wsL_law_r7 : List Cond := [Cond.code yX1_count cX1_count 2 (some .int)]
def wsL_law : List Cond := (wsL_law_r1 ++ (wsL_law_r2 ++ (wsL_law_r3 ++ (wsL_law_r4 ++ (wsL_law_r5 ++ (wsL_law_r6 ++ wsL_law_r7)))))) ++ wsX00 ++ wsX10 ++ ([] : List Cond)
set_option maxRecDepth 20000 in
theorem wsL_law_in : ∀ w ∈ wsL_law, w ∈ lw_tbl := fun w h => (goodIn_p wsL_law [15, 18, 120, 57, 60, 64, 68, 72, 76, 80, 168, 172, 176, 180, 84, 184, 88, 188, 92, 96, 100, 103, 193, 107, 197, 111, 201, 115, 205] (by decide +kernel) (by decide +kernel) w h).1
theorem inlX0 : ∀ w ∈ wsX00, w ∈ wsL_law := fun _ h => List.mem_append_left _ (List.mem_append_left _ (List.mem_append_right _ h))
theorem inX0 : ∀ w ∈ wsX00, w ∈ lw_tbl := fun w h => wsL_law_in w (inlX0 w h)
theorem inlX1 : ∀ w ∈ wsX10, w ∈ wsL_law := fun _ h => List.mem_append_left _ (List.mem_append_right _ h)
theorem inX1 : ∀ w ∈ wsX10, w ∈ lw_tbl := fun w h => wsL_law_in w (inlX1 w h)
theorem dX0_init_0 : decode cX0_init 0 = .ok (.aload_n 0, 1) := by decide +kernel
theorem dX0_init_1 : decode cX0_init 1 = .ok (.invokespecial 3, 3) := by decide +kernel
theorem dX0_init_4 : decode cX0_init 4 = .ok (.aload_n 0, 1) := by decide +kernel
theorem dX0_init_5 : decode cX0_init 5 = .ok (.sipush 212, 3) := by decide +kernel
theorem dX0_init_8 : decode cX0_init 8 = .ok (.newarray .int, 2) := by decide +kernel
theorem dX0_init_10 : decode cX0_init 10 = .ok (.putfield 9, 3) := by decide +kernel
theorem dX0_init_13 : decode cX0_init 13 = .ok (.aload_n 0, 1) := by decide +kernel
theorem dX0_init_14 : decode cX0_init 14 = .ok (.bipush 24, 2) := by decide +kernel
theorem dX0_init_16 : decode cX0_init 16 = .ok (.newarray .int, 2) := by decide +kernel
theorem dX0_init_18 : decode cX0_init 18 = .ok (.putfield 13, 3) := by decide +kernel
theorem dX0_init_21 : decode cX0_init 21 = .ok (.aload_n 0, 1) := by decide +kernel
theorem dX0_init_22 : decode cX0_init 22 = .ok (.bipush 24, 2) := by decide +kernel
theorem dX0_init_24 : decode cX0_init 24 = .ok (.newarray .int, 2) := by decide +kernel
theorem dX0_init_26 : decode cX0_init 26 = .ok (.putfield 16, 3) := by decide +kernel
theorem dX0_init_29 : decode cX0_init 29 = .ok (.aload_n 0, 1) := by decide +kernel
theorem dX0_init_30 : decode cX0_init 30 = .ok (.bipush 24, 2) := by decide +kernel
theorem dX0_init_32 : decode cX0_init 32 = .ok (.newarray .int, 2) := by decide +kernel
theorem dX0_init_34 : decode cX0_init 34 = .ok (.putfield 19, 3) := by decide +kernel
theorem dX0_init_37 : decode cX0_init 37 = .ok (.return_, 1) := by decide +kernel
set_option maxRecDepth 20000 in
theorem ggX0_change_X0_isSlot : GoodIn wsX0_change wsX0_isSlot := goodIn_r _ [6] (by decide +kernel) (by decide +kernel)
set_option maxRecDepth 20000 in
theorem gX0_change_X0_isSlot : GoodIn wsX0_change (va_wsS RX0 22 yX0_isSlot wsX0_isSlot) := goodIn_app (goodIn_of _ (by decide +kernel)) ggX0_change_X0_isSlot
set_option maxRecDepth 20000 in
theorem ggX0_change_X0_flushDisk : GoodIn wsX0_change wsX0_flushDisk := goodIn_r _ [10, 11, 12, 13, 14, 15, 16, 5, 17, 2, 18, 19, 20, 21, 22, 23, 24, 25, 26, 27, 28, 29, 30, 1, 35, 36, 37, 38, 39, 40, 41, 42, 43, 44, 45] (by decide +kernel) (by decide +kernel)
set_option maxRecDepth 20000 in
theorem gX0_change_X0_flushDisk : GoodIn wsX0_change (wsV RX0 33 RX0 yX0_flushDisk wsX0_flushDisk) := goodIn_app (goodIn_of _ (by decide +kernel)) ggX0_change_X0_flushDisk
set_option maxRecDepth 20000 in
theorem ggX0_change_X0_appendChange : GoodIn wsX0_change wsX0_appendChange := goodIn_r _ [34, 2, 1, 22, 29, 27, 11, 35, 36, 37, 38, 39, 40, 41, 42, 43, 44, 45] (by decide +kernel) (by decide +kernel)
set_option maxRecDepth 20000 in
theorem gX0_change_X0_appendChange : GoodIn wsX0_change (wsV RX0 36 RX0 yX0_appendChange wsX0_appendChange) := goodIn_app (goodIn_of _ (by decide +kernel)) ggX0_change_X0_appendChange
theorem dX0_change_0 : decode cX0_change 0 = .ok (.iload_n 1, 1) := by decide +kernel
theorem dX0_change_1 : decode cX0_change 1 = .ok (.invokestatic 22, 3) := by decide +kernel
theorem dX0_change_4 : decode cX0_change 4 = .ok (.ifCond .ne 5, 3) := by decide +kernel
theorem dX0_change_7 : decode cX0_change 7 = .ok (.iconst (-1), 1) := by decide +kernel
theorem dX0_change_8 : decode cX0_change 8 = .ok (.ireturn, 1) := by decide +kernel
theorem dX0_change_9 : decode cX0_change 9 = .ok (.aload_n 0, 1) := by decide +kernel
theorem dX0_change_10 : decode cX0_change 10 = .ok (.getfield 26, 3) := by decide +kernel
theorem dX0_change_13 : decode cX0_change 13 = .ok (.bipush 17, 2) := by decide +kernel
theorem dX0_change_15 : decode cX0_change 15 = .ok (.if_icmp .lt 6, 3) := by decide +kernel
theorem dX0_change_18 : decode cX0_change 18 = .ok (.bipush (-2), 2) := by decide +kernel
theorem dX0_change_20 : decode cX0_change 20 = .ok (.ireturn, 1) := by decide +kernel
theorem dX0_change_21 : decode cX0_change 21 = .ok (.aload_n 0, 1) := by decide +kernel
theorem dX0_change_22 : decode cX0_change 22 = .ok (.getfield 26, 3) := by decide +kernel
theorem dX0_change_25 : decode cX0_change 25 = .ok (.ifCond .ne 16, 3) := by decide +kernel
theorem dX0_change_28 : decode cX0_change 28 = .ok (.aload_n 0, 1) := by decide +kernel
theorem dX0_change_29 : decode cX0_change 29 = .ok (.getfield 30, 3) := by decide +kernel
theorem dX0_change_32 : decode cX0_change 32 = .ok (.bipush 7, 2) := by decide +kernel
theorem dX0_change_34 : decode cX0_change 34 = .ok (.if_icmp .le 7, 3) := by decide +kernel
theorem dX0_change_37 : decode cX0_change 37 = .ok (.aload_n 0, 1) := by decide +kernel
theorem dX0_change_38 : decode cX0_change 38 = .ok (.invokevirtual 33, 3) := by decide +kernel
theorem dX0_change_41 : decode cX0_change 41 = .ok (.aload_n 0, 1) := by decide +kernel
theorem dX0_change_42 : decode cX0_change 42 = .ok (.iload_n 1, 1) := by decide +kernel
theorem dX0_change_43 : decode cX0_change 43 = .ok (.iload_n 2, 1) := by decide +kernel
theorem dX0_change_44 : decode cX0_change 44 = .ok (.invokevirtual 36, 3) := by decide +kernel
theorem dX0_change_47 : decode cX0_change 47 = .ok (.aload_n 0, 1) := by decide +kernel
theorem dX0_change_48 : decode cX0_change 48 = .ok (.getfield 26, 3) := by decide +kernel
theorem dX0_change_51 : decode cX0_change 51 = .ok (.ireturn, 1) := by decide +kernel
theorem dX0_commit_0 : decode cX0_commit 0 = .ok (.aload_n 0, 1) := by decide +kernel
theorem dX0_commit_1 : decode cX0_commit 1 = .ok (.getfield 26, 3) := by decide +kernel
theorem dX0_commit_4 : decode cX0_commit 4 = .ok (.ifCond .ne 5, 3) := by decide +kernel
theorem dX0_commit_7 : decode cX0_commit 7 = .ok (.iconst (-1), 1) := by decide +kernel
theorem dX0_commit_8 : decode cX0_commit 8 = .ok (.ireturn, 1) := by decide +kernel
theorem dX0_commit_9 : decode cX0_commit 9 = .ok (.aload_n 0, 1) := by decide +kernel
theorem dX0_commit_10 : decode cX0_commit 10 = .ok (.getfield 26, 3) := by decide +kernel
theorem dX0_commit_13 : decode cX0_commit 13 = .ok (.istore_n 1, 1) := by decide +kernel
theorem dX0_commit_14 : decode cX0_commit 14 = .ok (.aload_n 0, 1) := by decide +kernel
theorem dX0_commit_15 : decode cX0_commit 15 = .ok (.dup, 1) := by decide +kernel
theorem dX0_commit_16 : decode cX0_commit 16 = .ok (.getfield 30, 3) := by decide +kernel
theorem dX0_commit_19 : decode cX0_commit 19 = .ok (.iload_n 1, 1) := by decide +kernel
theorem dX0_commit_20 : decode cX0_commit 20 = .ok (.iadd, 1) := by decide +kernel
theorem dX0_commit_21 : decode cX0_commit 21 = .ok (.putfield 30, 3) := by decide +kernel
theorem dX0_commit_24 : decode cX0_commit 24 = .ok (.aload_n 0, 1) := by decide +kernel
theorem dX0_commit_25 : decode cX0_commit 25 = .ok (.dup, 1) := by decide +kernel
theorem dX0_commit_26 : decode cX0_commit 26 = .ok (.getfield 40, 3) := by decide +kernel
theorem dX0_commit_29 : decode cX0_commit 29 = .ok (.iconst 1, 1) := by decide +kernel
theorem dX0_commit_30 : decode cX0_commit 30 = .ok (.iadd, 1) := by decide +kernel
theorem dX0_commit_31 : decode cX0_commit 31 = .ok (.putfield 40, 3) := by decide +kernel
theorem dX0_commit_34 : decode cX0_commit 34 = .ok (.aload_n 0, 1) := by decide +kernel
theorem dX0_commit_35 : decode cX0_commit 35 = .ok (.iconst 0, 1) := by decide +kernel
theorem dX0_commit_36 : decode cX0_commit 36 = .ok (.putfield 26, 3) := by decide +kernel
theorem dX0_commit_39 : decode cX0_commit 39 = .ok (.iload_n 1, 1) := by decide +kernel
theorem dX0_commit_40 : decode cX0_commit 40 = .ok (.ireturn, 1) := by decide +kernel
theorem dX0_forget_0 : decode cX0_forget 0 = .ok (.aload_n 0, 1) := by decide +kernel
theorem dX0_forget_1 : decode cX0_forget 1 = .ok (.getfield 26, 3) := by decide +kernel
theorem dX0_forget_4 : decode cX0_forget 4 = .ok (.istore_n 1, 1) := by decide +kernel
theorem dX0_forget_5 : decode cX0_forget 5 = .ok (.aload_n 0, 1) := by decide +kernel
theorem dX0_forget_6 : decode cX0_forget 6 = .ok (.iconst 0, 1) := by decide +kernel
theorem dX0_forget_7 : decode cX0_forget 7 = .ok (.putfield 26, 3) := by decide +kernel
theorem dX0_forget_10 : decode cX0_forget 10 = .ok (.iload_n 1, 1) := by decide +kernel
theorem dX0_forget_11 : decode cX0_forget 11 = .ok (.ireturn, 1) := by decide +kernel
set_option maxRecDepth 20000 in
theorem ggX0_flush_X0_flushDisk : GoodIn wsX0_flush wsX0_flushDisk := goodIn_r _ [6, 1, 7, 8, 9, 10, 11, 5, 12, 13, 14, 15, 16, 17, 18, 19, 20, 21, 22, 23, 24, 25, 26, 27, 28, 29, 30, 31, 32, 33, 34, 35, 36, 37, 38] (by decide +kernel) (by decide +kernel)
set_option maxRecDepth 20000 in
theorem gX0_flush_X0_flushDisk : GoodIn wsX0_flush (wsV RX0 33 RX0 yX0_flushDisk wsX0_flushDisk) := goodIn_app (goodIn_of _ (by decide +kernel)) ggX0_flush_X0_flushDisk
theorem dX0_flush_0 : decode cX0_flush 0 = .ok (.aload_n 0, 1) := by decide +kernel
theorem dX0_flush_1 : decode cX0_flush 1 = .ok (.getfield 40, 3) := by decide +kernel
theorem dX0_flush_4 : decode cX0_flush 4 = .ok (.istore_n 1, 1) := by decide +kernel
theorem dX0_flush_5 : decode cX0_flush 5 = .ok (.aload_n 0, 1) := by decide +kernel
theorem dX0_flush_6 : decode cX0_flush 6 = .ok (.invokevirtual 33, 3) := by decide +kernel
theorem dX0_flush_9 : decode cX0_flush 9 = .ok (.iload_n 1, 1) := by decide +kernel
theorem dX0_flush_10 : decode cX0_flush 10 = .ok (.ireturn, 1) := by decide +kernel
set_option maxRecDepth 20000 in
theorem ggX0_crash_X0_wholeDeeds : GoodIn wsX0_crash wsX0_wholeDeeds := goodIn_r _ [8, 9, 2, 10, 1, 11, 12, 7, 13, 23, 24, 25, 26, 27, 28, 29, 30, 31, 32, 33] (by decide +kernel) (by decide +kernel)
set_option maxRecDepth 20000 in
theorem gX0_crash_X0_wholeDeeds : GoodIn wsX0_crash (wsV RX0 43 RX0 yX0_wholeDeeds wsX0_wholeDeeds) := goodIn_app (goodIn_of _ (by decide +kernel)) ggX0_crash_X0_wholeDeeds
set_option maxRecDepth 20000 in
theorem ggX0_crash_X0_makeSafe : GoodIn wsX0_crash wsX0_makeSafe := goodIn_r _ [17, 9, 10, 18, 19, 20, 21, 1, 22, 23, 24, 25, 26, 27, 28, 29, 30, 31, 32, 33] (by decide +kernel) (by decide +kernel)
set_option maxRecDepth 20000 in
theorem gX0_crash_X0_makeSafe : GoodIn wsX0_crash (wsV RX0 47 RX0 yX0_makeSafe wsX0_makeSafe) := goodIn_app (goodIn_of _ (by decide +kernel)) ggX0_crash_X0_makeSafe
theorem dX0_crash_0 : decode cX0_crash 0 = .ok (.iload_n 2, 1) := by decide +kernel
theorem dX0_crash_1 : decode cX0_crash 1 = .ok (.ifCond .lt 10, 3) := by decide +kernel
theorem dX0_crash_4 : decode cX0_crash 4 = .ok (.iload_n 2, 1) := by decide +kernel
theorem dX0_crash_5 : decode cX0_crash 5 = .ok (.sipush 500, 3) := by decide +kernel
theorem dX0_crash_8 : decode cX0_crash 8 = .ok (.if_icmp .le 5, 3) := by decide +kernel
theorem dX0_crash_11 : decode cX0_crash 11 = .ok (.iconst (-1), 1) := by decide +kernel
theorem dX0_crash_12 : decode cX0_crash 12 = .ok (.ireturn, 1) := by decide +kernel
theorem dX0_crash_13 : decode cX0_crash 13 = .ok (.aload_n 0, 1) := by decide +kernel
theorem dX0_crash_14 : decode cX0_crash 14 = .ok (.iload_n 1, 1) := by decide +kernel
theorem dX0_crash_15 : decode cX0_crash 15 = .ok (.invokevirtual 43, 3) := by decide +kernel
theorem dX0_crash_18 : decode cX0_crash 18 = .ok (.istore_n 3, 1) := by decide +kernel
theorem dX0_crash_19 : decode cX0_crash 19 = .ok (.aload_n 0, 1) := by decide +kernel
theorem dX0_crash_20 : decode cX0_crash 20 = .ok (.getfield 40, 3) := by decide +kernel
theorem dX0_crash_23 : decode cX0_crash 23 = .ok (.iload_n 3, 1) := by decide +kernel
theorem dX0_crash_24 : decode cX0_crash 24 = .ok (.isub, 1) := by decide +kernel
theorem dX0_crash_25 : decode cX0_crash 25 = .ok (.istore 4, 2) := by decide +kernel
theorem dX0_crash_27 : decode cX0_crash 27 = .ok (.aload_n 0, 1) := by decide +kernel
theorem dX0_crash_28 : decode cX0_crash 28 = .ok (.iload_n 3, 1) := by decide +kernel
theorem dX0_crash_29 : decode cX0_crash 29 = .ok (.invokevirtual 47, 3) := by decide +kernel
theorem dX0_crash_32 : decode cX0_crash 32 = .ok (.aload_n 0, 1) := by decide +kernel
theorem dX0_crash_33 : decode cX0_crash 33 = .ok (.iconst 0, 1) := by decide +kernel
theorem dX0_crash_34 : decode cX0_crash 34 = .ok (.putfield 51, 3) := by decide +kernel
theorem dX0_crash_37 : decode cX0_crash 37 = .ok (.aload_n 0, 1) := by decide +kernel
theorem dX0_crash_38 : decode cX0_crash 38 = .ok (.dup, 1) := by decide +kernel
theorem dX0_crash_39 : decode cX0_crash 39 = .ok (.getfield 54, 3) := by decide +kernel
theorem dX0_crash_42 : decode cX0_crash 42 = .ok (.iconst 1, 1) := by decide +kernel
theorem dX0_crash_43 : decode cX0_crash 43 = .ok (.iadd, 1) := by decide +kernel
theorem dX0_crash_44 : decode cX0_crash 44 = .ok (.putfield 54, 3) := by decide +kernel
theorem dX0_crash_47 : decode cX0_crash 47 = .ok (.iload 4, 2) := by decide +kernel
theorem dX0_crash_49 : decode cX0_crash 49 = .ok (.ireturn, 1) := by decide +kernel
set_option maxRecDepth 20000 in
theorem ggX0_get_X0_isSlot : GoodIn wsX0_get wsX0_isSlot := goodIn_r _ [8] (by decide +kernel) (by decide +kernel)
set_option maxRecDepth 20000 in
theorem gX0_get_X0_isSlot : GoodIn wsX0_get (va_wsS RX0 22 yX0_isSlot wsX0_isSlot) := goodIn_app (goodIn_of _ (by decide +kernel)) ggX0_get_X0_isSlot
theorem dX0_get_0 : decode cX0_get 0 = .ok (.iload_n 1, 1) := by decide +kernel
theorem dX0_get_1 : decode cX0_get 1 = .ok (.invokestatic 22, 3) := by decide +kernel
theorem dX0_get_4 : decode cX0_get 4 = .ok (.ifCond .ne 5, 3) := by decide +kernel
theorem dX0_get_7 : decode cX0_get 7 = .ok (.iconst 0, 1) := by decide +kernel
theorem dX0_get_8 : decode cX0_get 8 = .ok (.ireturn, 1) := by decide +kernel
theorem dX0_get_9 : decode cX0_get 9 = .ok (.aload_n 0, 1) := by decide +kernel
theorem dX0_get_10 : decode cX0_get 10 = .ok (.getfield 30, 3) := by decide +kernel
theorem dX0_get_13 : decode cX0_get 13 = .ok (.iconst 1, 1) := by decide +kernel
theorem dX0_get_14 : decode cX0_get 14 = .ok (.isub, 1) := by decide +kernel
theorem dX0_get_15 : decode cX0_get 15 = .ok (.istore_n 2, 1) := by decide +kernel
theorem dX0_get_16 : decode cX0_get 16 = .ok (.iload_n 2, 1) := by decide +kernel
theorem dX0_get_17 : decode cX0_get 17 = .ok (.ifCond .lt 26, 3) := by decide +kernel
theorem dX0_get_20 : decode cX0_get 20 = .ok (.aload_n 0, 1) := by decide +kernel
theorem dX0_get_21 : decode cX0_get 21 = .ok (.getfield 13, 3) := by decide +kernel
theorem dX0_get_24 : decode cX0_get 24 = .ok (.iload_n 2, 1) := by decide +kernel
theorem dX0_get_25 : decode cX0_get 25 = .ok (.iaload, 1) := by decide +kernel
theorem dX0_get_26 : decode cX0_get 26 = .ok (.iload_n 1, 1) := by decide +kernel
theorem dX0_get_27 : decode cX0_get 27 = .ok (.if_icmp .ne 10, 3) := by decide +kernel
theorem dX0_get_30 : decode cX0_get 30 = .ok (.aload_n 0, 1) := by decide +kernel
theorem dX0_get_31 : decode cX0_get 31 = .ok (.getfield 16, 3) := by decide +kernel
theorem dX0_get_34 : decode cX0_get 34 = .ok (.iload_n 2, 1) := by decide +kernel
theorem dX0_get_35 : decode cX0_get 35 = .ok (.iaload, 1) := by decide +kernel
theorem dX0_get_36 : decode cX0_get 36 = .ok (.ireturn, 1) := by decide +kernel
theorem dX0_get_37 : decode cX0_get 37 = .ok (.iinc 2 (-1), 3) := by decide +kernel
theorem dX0_get_40 : decode cX0_get 40 = .ok (.goto (-24), 3) := by decide +kernel
theorem dX0_get_43 : decode cX0_get 43 = .ok (.aload_n 0, 1) := by decide +kernel
theorem dX0_get_44 : decode cX0_get 44 = .ok (.getfield 9, 3) := by decide +kernel
theorem dX0_get_47 : decode cX0_get 47 = .ok (.iload_n 1, 1) := by decide +kernel
theorem dX0_get_48 : decode cX0_get 48 = .ok (.iaload, 1) := by decide +kernel
theorem dX0_get_49 : decode cX0_get 49 = .ok (.ireturn, 1) := by decide +kernel
theorem dX0_torn_0 : decode cX0_torn 0 = .ok (.iconst 0, 1) := by decide +kernel
theorem dX0_torn_1 : decode cX0_torn 1 = .ok (.ireturn, 1) := by decide +kernel
theorem dX0_count_0 : decode cX0_count 0 = .ok (.iload_n 1, 1) := by decide +kernel
theorem dX0_count_1 : decode cX0_count 1 = .ok (.tableswitch 79 0 5 #[39, 49, 54, 64, 69, 74], 39) := by decide +kernel
theorem dX0_count_40 : decode cX0_count 40 = .ok (.aload_n 0, 1) := by decide +kernel
theorem dX0_count_41 : decode cX0_count 41 = .ok (.getfield 57, 3) := by decide +kernel
theorem dX0_count_44 : decode cX0_count 44 = .ok (.aload_n 0, 1) := by decide +kernel
theorem dX0_count_45 : decode cX0_count 45 = .ok (.getfield 40, 3) := by decide +kernel
theorem dX0_count_48 : decode cX0_count 48 = .ok (.iadd, 1) := by decide +kernel
theorem dX0_count_49 : decode cX0_count 49 = .ok (.ireturn, 1) := by decide +kernel
theorem dX0_count_50 : decode cX0_count 50 = .ok (.aload_n 0, 1) := by decide +kernel
theorem dX0_count_51 : decode cX0_count 51 = .ok (.getfield 40, 3) := by decide +kernel
theorem dX0_count_54 : decode cX0_count 54 = .ok (.ireturn, 1) := by decide +kernel
theorem dX0_count_55 : decode cX0_count 55 = .ok (.aload_n 0, 1) := by decide +kernel
theorem dX0_count_56 : decode cX0_count 56 = .ok (.getfield 51, 3) := by decide +kernel
theorem dX0_count_59 : decode cX0_count 59 = .ok (.aload_n 0, 1) := by decide +kernel
theorem dX0_count_60 : decode cX0_count 60 = .ok (.getfield 30, 3) := by decide +kernel
theorem dX0_count_63 : decode cX0_count 63 = .ok (.iadd, 1) := by decide +kernel
theorem dX0_count_64 : decode cX0_count 64 = .ok (.ireturn, 1) := by decide +kernel
theorem dX0_count_65 : decode cX0_count 65 = .ok (.aload_n 0, 1) := by decide +kernel
theorem dX0_count_66 : decode cX0_count 66 = .ok (.getfield 26, 3) := by decide +kernel
theorem dX0_count_69 : decode cX0_count 69 = .ok (.ireturn, 1) := by decide +kernel
theorem dX0_count_70 : decode cX0_count 70 = .ok (.aload_n 0, 1) := by decide +kernel
theorem dX0_count_71 : decode cX0_count 71 = .ok (.getfield 60, 3) := by decide +kernel
theorem dX0_count_74 : decode cX0_count 74 = .ok (.ireturn, 1) := by decide +kernel
theorem dX0_count_75 : decode cX0_count 75 = .ok (.aload_n 0, 1) := by decide +kernel
theorem dX0_count_76 : decode cX0_count 76 = .ok (.getfield 54, 3) := by decide +kernel
theorem dX0_count_79 : decode cX0_count 79 = .ok (.ireturn, 1) := by decide +kernel
theorem dX0_count_80 : decode cX0_count 80 = .ok (.iconst (-1), 1) := by decide +kernel
theorem dX0_count_81 : decode cX0_count 81 = .ok (.ireturn, 1) := by decide +kernel
theorem dX0_isSlot_0 : decode cX0_isSlot 0 = .ok (.iload_n 0, 1) := by decide +kernel
theorem dX0_isSlot_1 : decode cX0_isSlot 1 = .ok (.ifCond .lt 14, 3) := by decide +kernel
theorem dX0_isSlot_4 : decode cX0_isSlot 4 = .ok (.iload_n 0, 1) := by decide +kernel
theorem dX0_isSlot_5 : decode cX0_isSlot 5 = .ok (.sipush 212, 3) := by decide +kernel
theorem dX0_isSlot_8 : decode cX0_isSlot 8 = .ok (.if_icmp .ge 7, 3) := by decide +kernel
theorem dX0_isSlot_11 : decode cX0_isSlot 11 = .ok (.iconst 1, 1) := by decide +kernel
theorem dX0_isSlot_12 : decode cX0_isSlot 12 = .ok (.goto 4, 3) := by decide +kernel
theorem dX0_isSlot_15 : decode cX0_isSlot 15 = .ok (.iconst 0, 1) := by decide +kernel
theorem dX0_isSlot_16 : decode cX0_isSlot 16 = .ok (.ireturn, 1) := by decide +kernel
theorem dX0_appendChange_0 : decode cX0_appendChange 0 = .ok (.aload_n 0, 1) := by decide +kernel
theorem dX0_appendChange_1 : decode cX0_appendChange 1 = .ok (.getfield 30, 3) := by decide +kernel
theorem dX0_appendChange_4 : decode cX0_appendChange 4 = .ok (.aload_n 0, 1) := by decide +kernel
theorem dX0_appendChange_5 : decode cX0_appendChange 5 = .ok (.getfield 26, 3) := by decide +kernel
theorem dX0_appendChange_8 : decode cX0_appendChange 8 = .ok (.iadd, 1) := by decide +kernel
theorem dX0_appendChange_9 : decode cX0_appendChange 9 = .ok (.istore_n 3, 1) := by decide +kernel
theorem dX0_appendChange_10 : decode cX0_appendChange 10 = .ok (.iload_n 3, 1) := by decide +kernel
theorem dX0_appendChange_11 : decode cX0_appendChange 11 = .ok (.bipush 24, 2) := by decide +kernel
theorem dX0_appendChange_13 : decode cX0_appendChange 13 = .ok (.if_icmp .lt 4, 3) := by decide +kernel
theorem dX0_appendChange_16 : decode cX0_appendChange 16 = .ok (.return_, 1) := by decide +kernel
theorem dX0_appendChange_17 : decode cX0_appendChange 17 = .ok (.aload_n 0, 1) := by decide +kernel
theorem dX0_appendChange_18 : decode cX0_appendChange 18 = .ok (.getfield 13, 3) := by decide +kernel
theorem dX0_appendChange_21 : decode cX0_appendChange 21 = .ok (.iload_n 3, 1) := by decide +kernel
theorem dX0_appendChange_22 : decode cX0_appendChange 22 = .ok (.iload_n 1, 1) := by decide +kernel
theorem dX0_appendChange_23 : decode cX0_appendChange 23 = .ok (.iastore, 1) := by decide +kernel
theorem dX0_appendChange_24 : decode cX0_appendChange 24 = .ok (.aload_n 0, 1) := by decide +kernel
theorem dX0_appendChange_25 : decode cX0_appendChange 25 = .ok (.getfield 16, 3) := by decide +kernel
theorem dX0_appendChange_28 : decode cX0_appendChange 28 = .ok (.iload_n 3, 1) := by decide +kernel
theorem dX0_appendChange_29 : decode cX0_appendChange 29 = .ok (.iload_n 2, 1) := by decide +kernel
theorem dX0_appendChange_30 : decode cX0_appendChange 30 = .ok (.iastore, 1) := by decide +kernel
theorem dX0_appendChange_31 : decode cX0_appendChange 31 = .ok (.aload_n 0, 1) := by decide +kernel
theorem dX0_appendChange_32 : decode cX0_appendChange 32 = .ok (.getfield 19, 3) := by decide +kernel
theorem dX0_appendChange_35 : decode cX0_appendChange 35 = .ok (.iload_n 3, 1) := by decide +kernel
theorem dX0_appendChange_36 : decode cX0_appendChange 36 = .ok (.aload_n 0, 1) := by decide +kernel
theorem dX0_appendChange_37 : decode cX0_appendChange 37 = .ok (.getfield 40, 3) := by decide +kernel
theorem dX0_appendChange_40 : decode cX0_appendChange 40 = .ok (.iastore, 1) := by decide +kernel
theorem dX0_appendChange_41 : decode cX0_appendChange 41 = .ok (.aload_n 0, 1) := by decide +kernel
theorem dX0_appendChange_42 : decode cX0_appendChange 42 = .ok (.dup, 1) := by decide +kernel
theorem dX0_appendChange_43 : decode cX0_appendChange 43 = .ok (.getfield 26, 3) := by decide +kernel
theorem dX0_appendChange_46 : decode cX0_appendChange 46 = .ok (.iconst 1, 1) := by decide +kernel
theorem dX0_appendChange_47 : decode cX0_appendChange 47 = .ok (.iadd, 1) := by decide +kernel
theorem dX0_appendChange_48 : decode cX0_appendChange 48 = .ok (.putfield 26, 3) := by decide +kernel
theorem dX0_appendChange_51 : decode cX0_appendChange 51 = .ok (.return_, 1) := by decide +kernel
set_option maxRecDepth 20000 in
theorem ggX0_flushDisk_X0_changedSlots : GoodIn wsX0_flushDisk wsX0_changedSlots := goodIn_r _ [8, 9, 10, 11, 12, 7, 13, 14, 24, 25, 26, 27, 28, 29, 30, 31, 32, 33, 34] (by decide +kernel) (by decide +kernel)
set_option maxRecDepth 20000 in
theorem gX0_flushDisk_X0_changedSlots : GoodIn wsX0_flushDisk (wsV RX0 63 RX0 yX0_changedSlots wsX0_changedSlots) := goodIn_app (goodIn_of _ (by decide +kernel)) ggX0_flushDisk_X0_changedSlots
set_option maxRecDepth 20000 in
theorem ggX0_flushDisk_X0_makeSafe : GoodIn wsX0_flushDisk wsX0_makeSafe := goodIn_r _ [18, 9, 19, 20, 14, 21, 22, 1, 23, 24, 25, 26, 27, 28, 29, 30, 31, 32, 33, 34] (by decide +kernel) (by decide +kernel)
set_option maxRecDepth 20000 in
theorem gX0_flushDisk_X0_makeSafe : GoodIn wsX0_flushDisk (wsV RX0 47 RX0 yX0_makeSafe wsX0_makeSafe) := goodIn_app (goodIn_of _ (by decide +kernel)) ggX0_flushDisk_X0_makeSafe
theorem dX0_flushDisk_0 : decode cX0_flushDisk 0 = .ok (.aload_n 0, 1) := by decide +kernel
theorem dX0_flushDisk_1 : decode cX0_flushDisk 1 = .ok (.invokevirtual 63, 3) := by decide +kernel
theorem dX0_flushDisk_4 : decode cX0_flushDisk 4 = .ok (.istore_n 1, 1) := by decide +kernel
theorem dX0_flushDisk_5 : decode cX0_flushDisk 5 = .ok (.aload_n 0, 1) := by decide +kernel
theorem dX0_flushDisk_6 : decode cX0_flushDisk 6 = .ok (.aload_n 0, 1) := by decide +kernel
theorem dX0_flushDisk_7 : decode cX0_flushDisk 7 = .ok (.getfield 40, 3) := by decide +kernel
theorem dX0_flushDisk_10 : decode cX0_flushDisk 10 = .ok (.invokevirtual 47, 3) := by decide +kernel
theorem dX0_flushDisk_13 : decode cX0_flushDisk 13 = .ok (.aload_n 0, 1) := by decide +kernel
theorem dX0_flushDisk_14 : decode cX0_flushDisk 14 = .ok (.iload_n 1, 1) := by decide +kernel
theorem dX0_flushDisk_15 : decode cX0_flushDisk 15 = .ok (.putfield 51, 3) := by decide +kernel
theorem dX0_flushDisk_18 : decode cX0_flushDisk 18 = .ok (.aload_n 0, 1) := by decide +kernel
theorem dX0_flushDisk_19 : decode cX0_flushDisk 19 = .ok (.dup, 1) := by decide +kernel
theorem dX0_flushDisk_20 : decode cX0_flushDisk 20 = .ok (.getfield 60, 3) := by decide +kernel
theorem dX0_flushDisk_23 : decode cX0_flushDisk 23 = .ok (.iconst 1, 1) := by decide +kernel
theorem dX0_flushDisk_24 : decode cX0_flushDisk 24 = .ok (.iadd, 1) := by decide +kernel
theorem dX0_flushDisk_25 : decode cX0_flushDisk 25 = .ok (.putfield 60, 3) := by decide +kernel
theorem dX0_flushDisk_28 : decode cX0_flushDisk 28 = .ok (.return_, 1) := by decide +kernel
set_option maxRecDepth 20000 in
theorem ggX0_changedSlots_X0_isLastOfItsSlot : GoodIn wsX0_changedSlots wsX0_isLastOfItsSlot := goodIn_r _ [6, 1, 7, 8, 9, 10, 11, 12, 13, 14, 15, 16, 17, 18] (by decide +kernel) (by decide +kernel)
set_option maxRecDepth 20000 in
theorem gX0_changedSlots_X0_isLastOfItsSlot : GoodIn wsX0_changedSlots (wsV RX0 67 RX0 yX0_isLastOfItsSlot wsX0_isLastOfItsSlot) := goodIn_app (goodIn_of _ (by decide +kernel)) ggX0_changedSlots_X0_isLastOfItsSlot
theorem dX0_changedSlots_0 : decode cX0_changedSlots 0 = .ok (.iconst 0, 1) := by decide +kernel
theorem dX0_changedSlots_1 : decode cX0_changedSlots 1 = .ok (.istore_n 1, 1) := by decide +kernel
theorem dX0_changedSlots_2 : decode cX0_changedSlots 2 = .ok (.iconst 0, 1) := by decide +kernel
theorem dX0_changedSlots_3 : decode cX0_changedSlots 3 = .ok (.istore_n 2, 1) := by decide +kernel
theorem dX0_changedSlots_4 : decode cX0_changedSlots 4 = .ok (.iload_n 2, 1) := by decide +kernel
theorem dX0_changedSlots_5 : decode cX0_changedSlots 5 = .ok (.aload_n 0, 1) := by decide +kernel
theorem dX0_changedSlots_6 : decode cX0_changedSlots 6 = .ok (.getfield 30, 3) := by decide +kernel
theorem dX0_changedSlots_9 : decode cX0_changedSlots 9 = .ok (.if_icmp .ge 20, 3) := by decide +kernel
theorem dX0_changedSlots_12 : decode cX0_changedSlots 12 = .ok (.aload_n 0, 1) := by decide +kernel
theorem dX0_changedSlots_13 : decode cX0_changedSlots 13 = .ok (.iload_n 2, 1) := by decide +kernel
theorem dX0_changedSlots_14 : decode cX0_changedSlots 14 = .ok (.invokevirtual 67, 3) := by decide +kernel
theorem dX0_changedSlots_17 : decode cX0_changedSlots 17 = .ok (.ifCond .eq 6, 3) := by decide +kernel
theorem dX0_changedSlots_20 : decode cX0_changedSlots 20 = .ok (.iinc 1 1, 3) := by decide +kernel
theorem dX0_changedSlots_23 : decode cX0_changedSlots 23 = .ok (.iinc 2 1, 3) := by decide +kernel
theorem dX0_changedSlots_26 : decode cX0_changedSlots 26 = .ok (.goto (-22), 3) := by decide +kernel
theorem dX0_changedSlots_29 : decode cX0_changedSlots 29 = .ok (.iload_n 1, 1) := by decide +kernel
theorem dX0_changedSlots_30 : decode cX0_changedSlots 30 = .ok (.ireturn, 1) := by decide +kernel
theorem dX0_isLastOfItsSlot_0 : decode cX0_isLastOfItsSlot 0 = .ok (.iload_n 1, 1) := by decide +kernel
theorem dX0_isLastOfItsSlot_1 : decode cX0_isLastOfItsSlot 1 = .ok (.iconst 1, 1) := by decide +kernel
theorem dX0_isLastOfItsSlot_2 : decode cX0_isLastOfItsSlot 2 = .ok (.iadd, 1) := by decide +kernel
theorem dX0_isLastOfItsSlot_3 : decode cX0_isLastOfItsSlot 3 = .ok (.istore_n 2, 1) := by decide +kernel
theorem dX0_isLastOfItsSlot_4 : decode cX0_isLastOfItsSlot 4 = .ok (.iload_n 2, 1) := by decide +kernel
theorem dX0_isLastOfItsSlot_5 : decode cX0_isLastOfItsSlot 5 = .ok (.aload_n 0, 1) := by decide +kernel
theorem dX0_isLastOfItsSlot_6 : decode cX0_isLastOfItsSlot 6 = .ok (.getfield 30, 3) := by decide +kernel
theorem dX0_isLastOfItsSlot_9 : decode cX0_isLastOfItsSlot 9 = .ok (.if_icmp .ge 26, 3) := by decide +kernel
theorem dX0_isLastOfItsSlot_12 : decode cX0_isLastOfItsSlot 12 = .ok (.aload_n 0, 1) := by decide +kernel
theorem dX0_isLastOfItsSlot_13 : decode cX0_isLastOfItsSlot 13 = .ok (.getfield 13, 3) := by decide +kernel
theorem dX0_isLastOfItsSlot_16 : decode cX0_isLastOfItsSlot 16 = .ok (.iload_n 2, 1) := by decide +kernel
theorem dX0_isLastOfItsSlot_17 : decode cX0_isLastOfItsSlot 17 = .ok (.iaload, 1) := by decide +kernel
theorem dX0_isLastOfItsSlot_18 : decode cX0_isLastOfItsSlot 18 = .ok (.aload_n 0, 1) := by decide +kernel
theorem dX0_isLastOfItsSlot_19 : decode cX0_isLastOfItsSlot 19 = .ok (.getfield 13, 3) := by decide +kernel
theorem dX0_isLastOfItsSlot_22 : decode cX0_isLastOfItsSlot 22 = .ok (.iload_n 1, 1) := by decide +kernel
theorem dX0_isLastOfItsSlot_23 : decode cX0_isLastOfItsSlot 23 = .ok (.iaload, 1) := by decide +kernel
theorem dX0_isLastOfItsSlot_24 : decode cX0_isLastOfItsSlot 24 = .ok (.if_icmp .ne 5, 3) := by decide +kernel
theorem dX0_isLastOfItsSlot_27 : decode cX0_isLastOfItsSlot 27 = .ok (.iconst 0, 1) := by decide +kernel
theorem dX0_isLastOfItsSlot_28 : decode cX0_isLastOfItsSlot 28 = .ok (.ireturn, 1) := by decide +kernel
theorem dX0_isLastOfItsSlot_29 : decode cX0_isLastOfItsSlot 29 = .ok (.iinc 2 1, 3) := by decide +kernel
theorem dX0_isLastOfItsSlot_32 : decode cX0_isLastOfItsSlot 32 = .ok (.goto (-28), 3) := by decide +kernel
theorem dX0_isLastOfItsSlot_35 : decode cX0_isLastOfItsSlot 35 = .ok (.iconst 1, 1) := by decide +kernel
theorem dX0_isLastOfItsSlot_36 : decode cX0_isLastOfItsSlot 36 = .ok (.ireturn, 1) := by decide +kernel
set_option maxRecDepth 20000 in
theorem ggX0_wholeDeeds_X0_blockStands : GoodIn wsX0_wholeDeeds wsX0_blockStands := goodIn_r _ [8] (by decide +kernel) (by decide +kernel)
set_option maxRecDepth 20000 in
theorem gX0_wholeDeeds_X0_blockStands : GoodIn wsX0_wholeDeeds (va_wsS RX0 70 yX0_blockStands wsX0_blockStands) := goodIn_app (goodIn_of _ (by decide +kernel)) ggX0_wholeDeeds_X0_blockStands
theorem dX0_wholeDeeds_0 : decode cX0_wholeDeeds 0 = .ok (.iconst 0, 1) := by decide +kernel
theorem dX0_wholeDeeds_1 : decode cX0_wholeDeeds 1 = .ok (.istore_n 2, 1) := by decide +kernel
theorem dX0_wholeDeeds_2 : decode cX0_wholeDeeds 2 = .ok (.iload_n 2, 1) := by decide +kernel
theorem dX0_wholeDeeds_3 : decode cX0_wholeDeeds 3 = .ok (.aload_n 0, 1) := by decide +kernel
theorem dX0_wholeDeeds_4 : decode cX0_wholeDeeds 4 = .ok (.getfield 30, 3) := by decide +kernel
theorem dX0_wholeDeeds_7 : decode cX0_wholeDeeds 7 = .ok (.if_icmp .ge 29, 3) := by decide +kernel
theorem dX0_wholeDeeds_10 : decode cX0_wholeDeeds 10 = .ok (.aload_n 0, 1) := by decide +kernel
theorem dX0_wholeDeeds_11 : decode cX0_wholeDeeds 11 = .ok (.getfield 51, 3) := by decide +kernel
theorem dX0_wholeDeeds_14 : decode cX0_wholeDeeds 14 = .ok (.iload_n 2, 1) := by decide +kernel
theorem dX0_wholeDeeds_15 : decode cX0_wholeDeeds 15 = .ok (.iadd, 1) := by decide +kernel
theorem dX0_wholeDeeds_16 : decode cX0_wholeDeeds 16 = .ok (.iload_n 1, 1) := by decide +kernel
theorem dX0_wholeDeeds_17 : decode cX0_wholeDeeds 17 = .ok (.invokestatic 70, 3) := by decide +kernel
theorem dX0_wholeDeeds_20 : decode cX0_wholeDeeds 20 = .ok (.ifCond .ne 10, 3) := by decide +kernel
theorem dX0_wholeDeeds_23 : decode cX0_wholeDeeds 23 = .ok (.aload_n 0, 1) := by decide +kernel
theorem dX0_wholeDeeds_24 : decode cX0_wholeDeeds 24 = .ok (.getfield 19, 3) := by decide +kernel
theorem dX0_wholeDeeds_27 : decode cX0_wholeDeeds 27 = .ok (.iload_n 2, 1) := by decide +kernel
theorem dX0_wholeDeeds_28 : decode cX0_wholeDeeds 28 = .ok (.iaload, 1) := by decide +kernel
theorem dX0_wholeDeeds_29 : decode cX0_wholeDeeds 29 = .ok (.ireturn, 1) := by decide +kernel
theorem dX0_wholeDeeds_30 : decode cX0_wholeDeeds 30 = .ok (.iinc 2 1, 3) := by decide +kernel
theorem dX0_wholeDeeds_33 : decode cX0_wholeDeeds 33 = .ok (.goto (-31), 3) := by decide +kernel
theorem dX0_wholeDeeds_36 : decode cX0_wholeDeeds 36 = .ok (.aload_n 0, 1) := by decide +kernel
theorem dX0_wholeDeeds_37 : decode cX0_wholeDeeds 37 = .ok (.getfield 40, 3) := by decide +kernel
theorem dX0_wholeDeeds_40 : decode cX0_wholeDeeds 40 = .ok (.ireturn, 1) := by decide +kernel
theorem dX0_blockStands_0 : decode cX0_blockStands 0 = .ok (.iload_n 1, 1) := by decide +kernel
theorem dX0_blockStands_1 : decode cX0_blockStands 1 = .ok (.iload_n 0, 1) := by decide +kernel
theorem dX0_blockStands_2 : decode cX0_blockStands 2 = .ok (.bipush 31, 2) := by decide +kernel
theorem dX0_blockStands_4 : decode cX0_blockStands 4 = .ok (.irem, 1) := by decide +kernel
theorem dX0_blockStands_5 : decode cX0_blockStands 5 = .ok (.ishr, 1) := by decide +kernel
theorem dX0_blockStands_6 : decode cX0_blockStands 6 = .ok (.iconst 1, 1) := by decide +kernel
theorem dX0_blockStands_7 : decode cX0_blockStands 7 = .ok (.iand, 1) := by decide +kernel
theorem dX0_blockStands_8 : decode cX0_blockStands 8 = .ok (.iconst 1, 1) := by decide +kernel
theorem dX0_blockStands_9 : decode cX0_blockStands 9 = .ok (.if_icmp .ne 7, 3) := by decide +kernel
theorem dX0_blockStands_12 : decode cX0_blockStands 12 = .ok (.iconst 1, 1) := by decide +kernel
theorem dX0_blockStands_13 : decode cX0_blockStands 13 = .ok (.goto 4, 3) := by decide +kernel
theorem dX0_blockStands_16 : decode cX0_blockStands 16 = .ok (.iconst 0, 1) := by decide +kernel
theorem dX0_blockStands_17 : decode cX0_blockStands 17 = .ok (.ireturn, 1) := by decide +kernel
theorem dX0_makeSafe_0 : decode cX0_makeSafe 0 = .ok (.iconst 0, 1) := by decide +kernel
theorem dX0_makeSafe_1 : decode cX0_makeSafe 1 = .ok (.istore_n 2, 1) := by decide +kernel
theorem dX0_makeSafe_2 : decode cX0_makeSafe 2 = .ok (.iload_n 2, 1) := by decide +kernel
theorem dX0_makeSafe_3 : decode cX0_makeSafe 3 = .ok (.aload_n 0, 1) := by decide +kernel
theorem dX0_makeSafe_4 : decode cX0_makeSafe 4 = .ok (.getfield 30, 3) := by decide +kernel
theorem dX0_makeSafe_7 : decode cX0_makeSafe 7 = .ok (.if_icmp .ge 36, 3) := by decide +kernel
theorem dX0_makeSafe_10 : decode cX0_makeSafe 10 = .ok (.aload_n 0, 1) := by decide +kernel
theorem dX0_makeSafe_11 : decode cX0_makeSafe 11 = .ok (.getfield 19, 3) := by decide +kernel
theorem dX0_makeSafe_14 : decode cX0_makeSafe 14 = .ok (.iload_n 2, 1) := by decide +kernel
theorem dX0_makeSafe_15 : decode cX0_makeSafe 15 = .ok (.iaload, 1) := by decide +kernel
theorem dX0_makeSafe_16 : decode cX0_makeSafe 16 = .ok (.iload_n 1, 1) := by decide +kernel
theorem dX0_makeSafe_17 : decode cX0_makeSafe 17 = .ok (.if_icmp .ge 26, 3) := by decide +kernel
theorem dX0_makeSafe_20 : decode cX0_makeSafe 20 = .ok (.aload_n 0, 1) := by decide +kernel
theorem dX0_makeSafe_21 : decode cX0_makeSafe 21 = .ok (.getfield 9, 3) := by decide +kernel
theorem dX0_makeSafe_24 : decode cX0_makeSafe 24 = .ok (.aload_n 0, 1) := by decide +kernel
theorem dX0_makeSafe_25 : decode cX0_makeSafe 25 = .ok (.getfield 13, 3) := by decide +kernel
theorem dX0_makeSafe_28 : decode cX0_makeSafe 28 = .ok (.iload_n 2, 1) := by decide +kernel
theorem dX0_makeSafe_29 : decode cX0_makeSafe 29 = .ok (.iaload, 1) := by decide +kernel
theorem dX0_makeSafe_30 : decode cX0_makeSafe 30 = .ok (.aload_n 0, 1) := by decide +kernel
theorem dX0_makeSafe_31 : decode cX0_makeSafe 31 = .ok (.getfield 16, 3) := by decide +kernel
theorem dX0_makeSafe_34 : decode cX0_makeSafe 34 = .ok (.iload_n 2, 1) := by decide +kernel
theorem dX0_makeSafe_35 : decode cX0_makeSafe 35 = .ok (.iaload, 1) := by decide +kernel
theorem dX0_makeSafe_36 : decode cX0_makeSafe 36 = .ok (.iastore, 1) := by decide +kernel
theorem dX0_makeSafe_37 : decode cX0_makeSafe 37 = .ok (.iinc 2 1, 3) := by decide +kernel
theorem dX0_makeSafe_40 : decode cX0_makeSafe 40 = .ok (.goto (-38), 3) := by decide +kernel
theorem dX0_makeSafe_43 : decode cX0_makeSafe 43 = .ok (.aload_n 0, 1) := by decide +kernel
theorem dX0_makeSafe_44 : decode cX0_makeSafe 44 = .ok (.dup, 1) := by decide +kernel
theorem dX0_makeSafe_45 : decode cX0_makeSafe 45 = .ok (.getfield 57, 3) := by decide +kernel
theorem dX0_makeSafe_48 : decode cX0_makeSafe 48 = .ok (.iload_n 1, 1) := by decide +kernel
theorem dX0_makeSafe_49 : decode cX0_makeSafe 49 = .ok (.iadd, 1) := by decide +kernel
theorem dX0_makeSafe_50 : decode cX0_makeSafe 50 = .ok (.putfield 57, 3) := by decide +kernel
theorem dX0_makeSafe_53 : decode cX0_makeSafe 53 = .ok (.aload_n 0, 1) := by decide +kernel
theorem dX0_makeSafe_54 : decode cX0_makeSafe 54 = .ok (.iconst 0, 1) := by decide +kernel
theorem dX0_makeSafe_55 : decode cX0_makeSafe 55 = .ok (.putfield 40, 3) := by decide +kernel
theorem dX0_makeSafe_58 : decode cX0_makeSafe 58 = .ok (.aload_n 0, 1) := by decide +kernel
theorem dX0_makeSafe_59 : decode cX0_makeSafe 59 = .ok (.iconst 0, 1) := by decide +kernel
theorem dX0_makeSafe_60 : decode cX0_makeSafe 60 = .ok (.putfield 30, 3) := by decide +kernel
theorem dX0_makeSafe_63 : decode cX0_makeSafe 63 = .ok (.aload_n 0, 1) := by decide +kernel
theorem dX0_makeSafe_64 : decode cX0_makeSafe 64 = .ok (.iconst 0, 1) := by decide +kernel
theorem dX0_makeSafe_65 : decode cX0_makeSafe 65 = .ok (.putfield 26, 3) := by decide +kernel
theorem dX0_makeSafe_68 : decode cX0_makeSafe 68 = .ok (.return_, 1) := by decide +kernel
theorem dX1_init_0 : decode cX1_init 0 = .ok (.aload_n 0, 1) := by decide +kernel
theorem dX1_init_1 : decode cX1_init 1 = .ok (.invokespecial 1, 3) := by decide +kernel
theorem dX1_init_4 : decode cX1_init 4 = .ok (.aload_n 0, 1) := by decide +kernel
theorem dX1_init_5 : decode cX1_init 5 = .ok (.sipush 212, 3) := by decide +kernel
theorem dX1_init_8 : decode cX1_init 8 = .ok (.newarray .int, 2) := by decide +kernel
theorem dX1_init_10 : decode cX1_init 10 = .ok (.putfield 9, 3) := by decide +kernel
theorem dX1_init_13 : decode cX1_init 13 = .ok (.aload_n 0, 1) := by decide +kernel
theorem dX1_init_14 : decode cX1_init 14 = .ok (.sipush 212, 3) := by decide +kernel
theorem dX1_init_17 : decode cX1_init 17 = .ok (.newarray .int, 2) := by decide +kernel
theorem dX1_init_19 : decode cX1_init 19 = .ok (.putfield 13, 3) := by decide +kernel
theorem dX1_init_22 : decode cX1_init 22 = .ok (.aload_n 0, 1) := by decide +kernel
theorem dX1_init_23 : decode cX1_init 23 = .ok (.bipush 24, 2) := by decide +kernel
theorem dX1_init_25 : decode cX1_init 25 = .ok (.newarray .int, 2) := by decide +kernel
theorem dX1_init_27 : decode cX1_init 27 = .ok (.putfield 16, 3) := by decide +kernel
theorem dX1_init_30 : decode cX1_init 30 = .ok (.aload_n 0, 1) := by decide +kernel
theorem dX1_init_31 : decode cX1_init 31 = .ok (.bipush 24, 2) := by decide +kernel
theorem dX1_init_33 : decode cX1_init 33 = .ok (.newarray .int, 2) := by decide +kernel
theorem dX1_init_35 : decode cX1_init 35 = .ok (.putfield 19, 3) := by decide +kernel
theorem dX1_init_38 : decode cX1_init 38 = .ok (.aload_n 0, 1) := by decide +kernel
theorem dX1_init_39 : decode cX1_init 39 = .ok (.bipush 24, 2) := by decide +kernel
theorem dX1_init_41 : decode cX1_init 41 = .ok (.newarray .int, 2) := by decide +kernel
theorem dX1_init_43 : decode cX1_init 43 = .ok (.putfield 22, 3) := by decide +kernel
theorem dX1_init_46 : decode cX1_init 46 = .ok (.aload_n 0, 1) := by decide +kernel
theorem dX1_init_47 : decode cX1_init 47 = .ok (.bipush 17, 2) := by decide +kernel
theorem dX1_init_49 : decode cX1_init 49 = .ok (.newarray .int, 2) := by decide +kernel
theorem dX1_init_51 : decode cX1_init 51 = .ok (.putfield 25, 3) := by decide +kernel
theorem dX1_init_54 : decode cX1_init 54 = .ok (.aload_n 0, 1) := by decide +kernel
theorem dX1_init_55 : decode cX1_init 55 = .ok (.bipush 17, 2) := by decide +kernel
theorem dX1_init_57 : decode cX1_init 57 = .ok (.newarray .int, 2) := by decide +kernel
theorem dX1_init_59 : decode cX1_init 59 = .ok (.putfield 28, 3) := by decide +kernel
theorem dX1_init_62 : decode cX1_init 62 = .ok (.return_, 1) := by decide +kernel
theorem dX1_settle_0 : decode cX1_settle 0 = .ok (.iconst 0, 1) := by decide +kernel
theorem dX1_settle_1 : decode cX1_settle 1 = .ok (.istore_n 1, 1) := by decide +kernel
theorem dX1_settle_2 : decode cX1_settle 2 = .ok (.iload_n 1, 1) := by decide +kernel
theorem dX1_settle_3 : decode cX1_settle 3 = .ok (.sipush 212, 3) := by decide +kernel
theorem dX1_settle_6 : decode cX1_settle 6 = .ok (.if_icmp .ge 21, 3) := by decide +kernel
theorem dX1_settle_9 : decode cX1_settle 9 = .ok (.aload_n 0, 1) := by decide +kernel
theorem dX1_settle_10 : decode cX1_settle 10 = .ok (.getfield 9, 3) := by decide +kernel
theorem dX1_settle_13 : decode cX1_settle 13 = .ok (.iload_n 1, 1) := by decide +kernel
theorem dX1_settle_14 : decode cX1_settle 14 = .ok (.aload_n 0, 1) := by decide +kernel
theorem dX1_settle_15 : decode cX1_settle 15 = .ok (.getfield 13, 3) := by decide +kernel
theorem dX1_settle_18 : decode cX1_settle 18 = .ok (.iload_n 1, 1) := by decide +kernel
theorem dX1_settle_19 : decode cX1_settle 19 = .ok (.iaload, 1) := by decide +kernel
theorem dX1_settle_20 : decode cX1_settle 20 = .ok (.iastore, 1) := by decide +kernel
theorem dX1_settle_21 : decode cX1_settle 21 = .ok (.iinc 1 1, 3) := by decide +kernel
theorem dX1_settle_24 : decode cX1_settle 24 = .ok (.goto (-22), 3) := by decide +kernel
theorem dX1_settle_27 : decode cX1_settle 27 = .ok (.aload_n 0, 1) := by decide +kernel
theorem dX1_settle_28 : decode cX1_settle 28 = .ok (.iconst 0, 1) := by decide +kernel
theorem dX1_settle_29 : decode cX1_settle 29 = .ok (.putfield 31, 3) := by decide +kernel
theorem dX1_settle_32 : decode cX1_settle 32 = .ok (.aload_n 0, 1) := by decide +kernel
theorem dX1_settle_33 : decode cX1_settle 33 = .ok (.iconst 0, 1) := by decide +kernel
theorem dX1_settle_34 : decode cX1_settle 34 = .ok (.putfield 35, 3) := by decide +kernel
theorem dX1_settle_37 : decode cX1_settle 37 = .ok (.return_, 1) := by decide +kernel
theorem dX1_distinct_0 : decode cX1_distinct 0 = .ok (.iconst 0, 1) := by decide +kernel
theorem dX1_distinct_1 : decode cX1_distinct 1 = .ok (.istore_n 1, 1) := by decide +kernel
theorem dX1_distinct_2 : decode cX1_distinct 2 = .ok (.iconst 0, 1) := by decide +kernel
theorem dX1_distinct_3 : decode cX1_distinct 3 = .ok (.istore_n 2, 1) := by decide +kernel
theorem dX1_distinct_4 : decode cX1_distinct 4 = .ok (.iload_n 2, 1) := by decide +kernel
theorem dX1_distinct_5 : decode cX1_distinct 5 = .ok (.aload_n 0, 1) := by decide +kernel
theorem dX1_distinct_6 : decode cX1_distinct 6 = .ok (.getfield 31, 3) := by decide +kernel
theorem dX1_distinct_9 : decode cX1_distinct 9 = .ok (.if_icmp .ge 51, 3) := by decide +kernel
theorem dX1_distinct_12 : decode cX1_distinct 12 = .ok (.iconst 1, 1) := by decide +kernel
theorem dX1_distinct_13 : decode cX1_distinct 13 = .ok (.istore_n 3, 1) := by decide +kernel
theorem dX1_distinct_14 : decode cX1_distinct 14 = .ok (.iconst 0, 1) := by decide +kernel
theorem dX1_distinct_15 : decode cX1_distinct 15 = .ok (.istore 4, 2) := by decide +kernel
theorem dX1_distinct_17 : decode cX1_distinct 17 = .ok (.iload 4, 2) := by decide +kernel
theorem dX1_distinct_19 : decode cX1_distinct 19 = .ok (.iload_n 2, 1) := by decide +kernel
theorem dX1_distinct_20 : decode cX1_distinct 20 = .ok (.if_icmp .ge 27, 3) := by decide +kernel
theorem dX1_distinct_23 : decode cX1_distinct 23 = .ok (.aload_n 0, 1) := by decide +kernel
theorem dX1_distinct_24 : decode cX1_distinct 24 = .ok (.getfield 16, 3) := by decide +kernel
theorem dX1_distinct_27 : decode cX1_distinct 27 = .ok (.iload 4, 2) := by decide +kernel
theorem dX1_distinct_29 : decode cX1_distinct 29 = .ok (.iaload, 1) := by decide +kernel
theorem dX1_distinct_30 : decode cX1_distinct 30 = .ok (.aload_n 0, 1) := by decide +kernel
theorem dX1_distinct_31 : decode cX1_distinct 31 = .ok (.getfield 16, 3) := by decide +kernel
theorem dX1_distinct_34 : decode cX1_distinct 34 = .ok (.iload_n 2, 1) := by decide +kernel
theorem dX1_distinct_35 : decode cX1_distinct 35 = .ok (.iaload, 1) := by decide +kernel
theorem dX1_distinct_36 : decode cX1_distinct 36 = .ok (.if_icmp .ne 5, 3) := by decide +kernel
theorem dX1_distinct_39 : decode cX1_distinct 39 = .ok (.iconst 0, 1) := by decide +kernel
theorem dX1_distinct_40 : decode cX1_distinct 40 = .ok (.istore_n 3, 1) := by decide +kernel
theorem dX1_distinct_41 : decode cX1_distinct 41 = .ok (.iinc 4 1, 3) := by decide +kernel
theorem dX1_distinct_44 : decode cX1_distinct 44 = .ok (.goto (-27), 3) := by decide +kernel
theorem dX1_distinct_47 : decode cX1_distinct 47 = .ok (.iload_n 3, 1) := by decide +kernel
theorem dX1_distinct_48 : decode cX1_distinct 48 = .ok (.ifCond .eq 6, 3) := by decide +kernel
theorem dX1_distinct_51 : decode cX1_distinct 51 = .ok (.iinc 1 1, 3) := by decide +kernel
theorem dX1_distinct_54 : decode cX1_distinct 54 = .ok (.iinc 2 1, 3) := by decide +kernel
theorem dX1_distinct_57 : decode cX1_distinct 57 = .ok (.goto (-53), 3) := by decide +kernel
theorem dX1_distinct_60 : decode cX1_distinct 60 = .ok (.iload_n 1, 1) := by decide +kernel
theorem dX1_distinct_61 : decode cX1_distinct 61 = .ok (.ireturn, 1) := by decide +kernel
set_option maxRecDepth 20000 in
theorem ggX1_change_X1_flush : GoodIn wsX1_change wsX1_flush := goodIn_r _ [9, 10, 1, 11, 12, 13, 14, 15, 8, 16, 2, 17, 18, 19, 20, 21, 22, 23, 24, 25, 26, 27, 28, 29, 30, 31, 32, 33, 34, 35, 36, 37] (by decide +kernel) (by decide +kernel)
set_option maxRecDepth 20000 in
theorem gX1_change_X1_flush : GoodIn wsX1_change (wsV RX1 41 RX1 yX1_flush wsX1_flush) := goodIn_app (goodIn_of _ (by decide +kernel)) ggX1_change_X1_flush
theorem dX1_change_0 : decode cX1_change 0 = .ok (.iload_n 1, 1) := by decide +kernel
theorem dX1_change_1 : decode cX1_change 1 = .ok (.ifCond .lt 10, 3) := by decide +kernel
theorem dX1_change_4 : decode cX1_change 4 = .ok (.iload_n 1, 1) := by decide +kernel
theorem dX1_change_5 : decode cX1_change 5 = .ok (.sipush 212, 3) := by decide +kernel
theorem dX1_change_8 : decode cX1_change 8 = .ok (.if_icmp .lt 5, 3) := by decide +kernel
theorem dX1_change_11 : decode cX1_change 11 = .ok (.iconst (-1), 1) := by decide +kernel
theorem dX1_change_12 : decode cX1_change 12 = .ok (.ireturn, 1) := by decide +kernel
theorem dX1_change_13 : decode cX1_change 13 = .ok (.aload_n 0, 1) := by decide +kernel
theorem dX1_change_14 : decode cX1_change 14 = .ok (.getfield 38, 3) := by decide +kernel
theorem dX1_change_17 : decode cX1_change 17 = .ok (.bipush 17, 2) := by decide +kernel
theorem dX1_change_19 : decode cX1_change 19 = .ok (.if_icmp .ne 6, 3) := by decide +kernel
theorem dX1_change_22 : decode cX1_change 22 = .ok (.bipush (-2), 2) := by decide +kernel
theorem dX1_change_24 : decode cX1_change 24 = .ok (.ireturn, 1) := by decide +kernel
theorem dX1_change_25 : decode cX1_change 25 = .ok (.aload_n 0, 1) := by decide +kernel
theorem dX1_change_26 : decode cX1_change 26 = .ok (.getfield 38, 3) := by decide +kernel
theorem dX1_change_29 : decode cX1_change 29 = .ok (.ifCond .ne 17, 3) := by decide +kernel
theorem dX1_change_32 : decode cX1_change 32 = .ok (.aload_n 0, 1) := by decide +kernel
theorem dX1_change_33 : decode cX1_change 33 = .ok (.getfield 31, 3) := by decide +kernel
theorem dX1_change_36 : decode cX1_change 36 = .ok (.bipush 7, 2) := by decide +kernel
theorem dX1_change_38 : decode cX1_change 38 = .ok (.if_icmp .le 8, 3) := by decide +kernel
theorem dX1_change_41 : decode cX1_change 41 = .ok (.aload_n 0, 1) := by decide +kernel
theorem dX1_change_42 : decode cX1_change 42 = .ok (.invokevirtual 41, 3) := by decide +kernel
theorem dX1_change_45 : decode cX1_change 45 = .ok (.pop, 1) := by decide +kernel
theorem dX1_change_46 : decode cX1_change 46 = .ok (.aload_n 0, 1) := by decide +kernel
theorem dX1_change_47 : decode cX1_change 47 = .ok (.getfield 25, 3) := by decide +kernel
theorem dX1_change_50 : decode cX1_change 50 = .ok (.aload_n 0, 1) := by decide +kernel
theorem dX1_change_51 : decode cX1_change 51 = .ok (.getfield 38, 3) := by decide +kernel
theorem dX1_change_54 : decode cX1_change 54 = .ok (.iload_n 1, 1) := by decide +kernel
theorem dX1_change_55 : decode cX1_change 55 = .ok (.iastore, 1) := by decide +kernel
theorem dX1_change_56 : decode cX1_change 56 = .ok (.aload_n 0, 1) := by decide +kernel
theorem dX1_change_57 : decode cX1_change 57 = .ok (.getfield 28, 3) := by decide +kernel
theorem dX1_change_60 : decode cX1_change 60 = .ok (.aload_n 0, 1) := by decide +kernel
theorem dX1_change_61 : decode cX1_change 61 = .ok (.getfield 38, 3) := by decide +kernel
theorem dX1_change_64 : decode cX1_change 64 = .ok (.iload_n 2, 1) := by decide +kernel
theorem dX1_change_65 : decode cX1_change 65 = .ok (.iastore, 1) := by decide +kernel
theorem dX1_change_66 : decode cX1_change 66 = .ok (.aload_n 0, 1) := by decide +kernel
theorem dX1_change_67 : decode cX1_change 67 = .ok (.dup, 1) := by decide +kernel
theorem dX1_change_68 : decode cX1_change 68 = .ok (.getfield 38, 3) := by decide +kernel
theorem dX1_change_71 : decode cX1_change 71 = .ok (.iconst 1, 1) := by decide +kernel
theorem dX1_change_72 : decode cX1_change 72 = .ok (.iadd, 1) := by decide +kernel
theorem dX1_change_73 : decode cX1_change 73 = .ok (.putfield 38, 3) := by decide +kernel
theorem dX1_change_76 : decode cX1_change 76 = .ok (.aload_n 0, 1) := by decide +kernel
theorem dX1_change_77 : decode cX1_change 77 = .ok (.getfield 38, 3) := by decide +kernel
theorem dX1_change_80 : decode cX1_change 80 = .ok (.ireturn, 1) := by decide +kernel
theorem dX1_commit_0 : decode cX1_commit 0 = .ok (.aload_n 0, 1) := by decide +kernel
theorem dX1_commit_1 : decode cX1_commit 1 = .ok (.getfield 38, 3) := by decide +kernel
theorem dX1_commit_4 : decode cX1_commit 4 = .ok (.istore_n 1, 1) := by decide +kernel
theorem dX1_commit_5 : decode cX1_commit 5 = .ok (.iload_n 1, 1) := by decide +kernel
theorem dX1_commit_6 : decode cX1_commit 6 = .ok (.ifCond .ne 5, 3) := by decide +kernel
theorem dX1_commit_9 : decode cX1_commit 9 = .ok (.iconst (-1), 1) := by decide +kernel
theorem dX1_commit_10 : decode cX1_commit 10 = .ok (.ireturn, 1) := by decide +kernel
theorem dX1_commit_11 : decode cX1_commit 11 = .ok (.iconst 0, 1) := by decide +kernel
theorem dX1_commit_12 : decode cX1_commit 12 = .ok (.istore_n 2, 1) := by decide +kernel
theorem dX1_commit_13 : decode cX1_commit 13 = .ok (.iload_n 2, 1) := by decide +kernel
theorem dX1_commit_14 : decode cX1_commit 14 = .ok (.iload_n 1, 1) := by decide +kernel
theorem dX1_commit_15 : decode cX1_commit 15 = .ok (.if_icmp .ge 87, 3) := by decide +kernel
theorem dX1_commit_18 : decode cX1_commit 18 = .ok (.aload_n 0, 1) := by decide +kernel
theorem dX1_commit_19 : decode cX1_commit 19 = .ok (.getfield 16, 3) := by decide +kernel
theorem dX1_commit_22 : decode cX1_commit 22 = .ok (.aload_n 0, 1) := by decide +kernel
theorem dX1_commit_23 : decode cX1_commit 23 = .ok (.getfield 31, 3) := by decide +kernel
theorem dX1_commit_26 : decode cX1_commit 26 = .ok (.aload_n 0, 1) := by decide +kernel
theorem dX1_commit_27 : decode cX1_commit 27 = .ok (.getfield 25, 3) := by decide +kernel
theorem dX1_commit_30 : decode cX1_commit 30 = .ok (.iload_n 2, 1) := by decide +kernel
theorem dX1_commit_31 : decode cX1_commit 31 = .ok (.iaload, 1) := by decide +kernel
theorem dX1_commit_32 : decode cX1_commit 32 = .ok (.iastore, 1) := by decide +kernel
theorem dX1_commit_33 : decode cX1_commit 33 = .ok (.aload_n 0, 1) := by decide +kernel
theorem dX1_commit_34 : decode cX1_commit 34 = .ok (.getfield 19, 3) := by decide +kernel
theorem dX1_commit_37 : decode cX1_commit 37 = .ok (.aload_n 0, 1) := by decide +kernel
theorem dX1_commit_38 : decode cX1_commit 38 = .ok (.getfield 31, 3) := by decide +kernel
theorem dX1_commit_41 : decode cX1_commit 41 = .ok (.aload_n 0, 1) := by decide +kernel
theorem dX1_commit_42 : decode cX1_commit 42 = .ok (.getfield 28, 3) := by decide +kernel
theorem dX1_commit_45 : decode cX1_commit 45 = .ok (.iload_n 2, 1) := by decide +kernel
theorem dX1_commit_46 : decode cX1_commit 46 = .ok (.iaload, 1) := by decide +kernel
theorem dX1_commit_47 : decode cX1_commit 47 = .ok (.iastore, 1) := by decide +kernel
theorem dX1_commit_48 : decode cX1_commit 48 = .ok (.aload_n 0, 1) := by decide +kernel
theorem dX1_commit_49 : decode cX1_commit 49 = .ok (.getfield 22, 3) := by decide +kernel
theorem dX1_commit_52 : decode cX1_commit 52 = .ok (.aload_n 0, 1) := by decide +kernel
theorem dX1_commit_53 : decode cX1_commit 53 = .ok (.getfield 31, 3) := by decide +kernel
theorem dX1_commit_56 : decode cX1_commit 56 = .ok (.iload_n 2, 1) := by decide +kernel
theorem dX1_commit_57 : decode cX1_commit 57 = .ok (.iload_n 1, 1) := by decide +kernel
theorem dX1_commit_58 : decode cX1_commit 58 = .ok (.iconst 1, 1) := by decide +kernel
theorem dX1_commit_59 : decode cX1_commit 59 = .ok (.isub, 1) := by decide +kernel
theorem dX1_commit_60 : decode cX1_commit 60 = .ok (.if_icmp .ne 7, 3) := by decide +kernel
theorem dX1_commit_63 : decode cX1_commit 63 = .ok (.iconst 1, 1) := by decide +kernel
theorem dX1_commit_64 : decode cX1_commit 64 = .ok (.goto 4, 3) := by decide +kernel
theorem dX1_commit_67 : decode cX1_commit 67 = .ok (.iconst 0, 1) := by decide +kernel
theorem dX1_commit_68 : decode cX1_commit 68 = .ok (.iastore, 1) := by decide +kernel
theorem dX1_commit_69 : decode cX1_commit 69 = .ok (.aload_n 0, 1) := by decide +kernel
theorem dX1_commit_70 : decode cX1_commit 70 = .ok (.dup, 1) := by decide +kernel
theorem dX1_commit_71 : decode cX1_commit 71 = .ok (.getfield 31, 3) := by decide +kernel
theorem dX1_commit_74 : decode cX1_commit 74 = .ok (.iconst 1, 1) := by decide +kernel
theorem dX1_commit_75 : decode cX1_commit 75 = .ok (.iadd, 1) := by decide +kernel
theorem dX1_commit_76 : decode cX1_commit 76 = .ok (.putfield 31, 3) := by decide +kernel
theorem dX1_commit_79 : decode cX1_commit 79 = .ok (.aload_n 0, 1) := by decide +kernel
theorem dX1_commit_80 : decode cX1_commit 80 = .ok (.getfield 13, 3) := by decide +kernel
theorem dX1_commit_83 : decode cX1_commit 83 = .ok (.aload_n 0, 1) := by decide +kernel
theorem dX1_commit_84 : decode cX1_commit 84 = .ok (.getfield 25, 3) := by decide +kernel
theorem dX1_commit_87 : decode cX1_commit 87 = .ok (.iload_n 2, 1) := by decide +kernel
theorem dX1_commit_88 : decode cX1_commit 88 = .ok (.iaload, 1) := by decide +kernel
theorem dX1_commit_89 : decode cX1_commit 89 = .ok (.aload_n 0, 1) := by decide +kernel
theorem dX1_commit_90 : decode cX1_commit 90 = .ok (.getfield 28, 3) := by decide +kernel
theorem dX1_commit_93 : decode cX1_commit 93 = .ok (.iload_n 2, 1) := by decide +kernel
theorem dX1_commit_94 : decode cX1_commit 94 = .ok (.iaload, 1) := by decide +kernel
theorem dX1_commit_95 : decode cX1_commit 95 = .ok (.iastore, 1) := by decide +kernel
theorem dX1_commit_96 : decode cX1_commit 96 = .ok (.iinc 2 1, 3) := by decide +kernel
theorem dX1_commit_99 : decode cX1_commit 99 = .ok (.goto (-86), 3) := by decide +kernel
theorem dX1_commit_102 : decode cX1_commit 102 = .ok (.aload_n 0, 1) := by decide +kernel
theorem dX1_commit_103 : decode cX1_commit 103 = .ok (.iconst 0, 1) := by decide +kernel
theorem dX1_commit_104 : decode cX1_commit 104 = .ok (.putfield 38, 3) := by decide +kernel
theorem dX1_commit_107 : decode cX1_commit 107 = .ok (.aload_n 0, 1) := by decide +kernel
theorem dX1_commit_108 : decode cX1_commit 108 = .ok (.dup, 1) := by decide +kernel
theorem dX1_commit_109 : decode cX1_commit 109 = .ok (.getfield 45, 3) := by decide +kernel
theorem dX1_commit_112 : decode cX1_commit 112 = .ok (.iconst 1, 1) := by decide +kernel
theorem dX1_commit_113 : decode cX1_commit 113 = .ok (.iadd, 1) := by decide +kernel
theorem dX1_commit_114 : decode cX1_commit 114 = .ok (.putfield 45, 3) := by decide +kernel
theorem dX1_commit_117 : decode cX1_commit 117 = .ok (.aload_n 0, 1) := by decide +kernel
theorem dX1_commit_118 : decode cX1_commit 118 = .ok (.dup, 1) := by decide +kernel
theorem dX1_commit_119 : decode cX1_commit 119 = .ok (.getfield 35, 3) := by decide +kernel
theorem dX1_commit_122 : decode cX1_commit 122 = .ok (.iconst 1, 1) := by decide +kernel
theorem dX1_commit_123 : decode cX1_commit 123 = .ok (.iadd, 1) := by decide +kernel
theorem dX1_commit_124 : decode cX1_commit 124 = .ok (.putfield 35, 3) := by decide +kernel
theorem dX1_commit_127 : decode cX1_commit 127 = .ok (.iload_n 1, 1) := by decide +kernel
theorem dX1_commit_128 : decode cX1_commit 128 = .ok (.ireturn, 1) := by decide +kernel
theorem dX1_forget_0 : decode cX1_forget 0 = .ok (.aload_n 0, 1) := by decide +kernel
theorem dX1_forget_1 : decode cX1_forget 1 = .ok (.getfield 38, 3) := by decide +kernel
theorem dX1_forget_4 : decode cX1_forget 4 = .ok (.istore_n 1, 1) := by decide +kernel
theorem dX1_forget_5 : decode cX1_forget 5 = .ok (.aload_n 0, 1) := by decide +kernel
theorem dX1_forget_6 : decode cX1_forget 6 = .ok (.iconst 0, 1) := by decide +kernel
theorem dX1_forget_7 : decode cX1_forget 7 = .ok (.putfield 38, 3) := by decide +kernel
theorem dX1_forget_10 : decode cX1_forget 10 = .ok (.iload_n 1, 1) := by decide +kernel
theorem dX1_forget_11 : decode cX1_forget 11 = .ok (.ireturn, 1) := by decide +kernel
set_option maxRecDepth 20000 in
theorem ggX1_flush_X1_distinct : GoodIn wsX1_flush wsX1_distinct := goodIn_r _ [9, 10, 11, 18, 19, 20, 21, 22, 23, 24, 25, 26, 27, 28, 29, 30, 31] (by decide +kernel) (by decide +kernel)
set_option maxRecDepth 20000 in
theorem gX1_flush_X1_distinct : GoodIn wsX1_flush (wsV RX1 48 RX1 yX1_distinct wsX1_distinct) := goodIn_app (goodIn_of _ (by decide +kernel)) ggX1_flush_X1_distinct
set_option maxRecDepth 20000 in
theorem ggX1_flush_X1_settle : GoodIn wsX1_flush wsX1_settle := goodIn_r _ [15, 16, 17, 10, 1, 18, 19, 20, 21, 22, 23, 24, 25, 26, 27, 28, 29, 30, 31] (by decide +kernel) (by decide +kernel)
set_option maxRecDepth 20000 in
theorem gX1_flush_X1_settle : GoodIn wsX1_flush (wsV RX1 54 RX1 yX1_settle wsX1_settle) := goodIn_app (goodIn_of _ (by decide +kernel)) ggX1_flush_X1_settle
theorem dX1_flush_0 : decode cX1_flush 0 = .ok (.aload_n 0, 1) := by decide +kernel
theorem dX1_flush_1 : decode cX1_flush 1 = .ok (.getfield 35, 3) := by decide +kernel
theorem dX1_flush_4 : decode cX1_flush 4 = .ok (.istore_n 1, 1) := by decide +kernel
theorem dX1_flush_5 : decode cX1_flush 5 = .ok (.aload_n 0, 1) := by decide +kernel
theorem dX1_flush_6 : decode cX1_flush 6 = .ok (.iconst 0, 1) := by decide +kernel
theorem dX1_flush_7 : decode cX1_flush 7 = .ok (.putfield 38, 3) := by decide +kernel
theorem dX1_flush_10 : decode cX1_flush 10 = .ok (.aload_n 0, 1) := by decide +kernel
theorem dX1_flush_11 : decode cX1_flush 11 = .ok (.aload_n 0, 1) := by decide +kernel
theorem dX1_flush_12 : decode cX1_flush 12 = .ok (.invokevirtual 48, 3) := by decide +kernel
theorem dX1_flush_15 : decode cX1_flush 15 = .ok (.putfield 51, 3) := by decide +kernel
theorem dX1_flush_18 : decode cX1_flush 18 = .ok (.aload_n 0, 1) := by decide +kernel
theorem dX1_flush_19 : decode cX1_flush 19 = .ok (.invokevirtual 54, 3) := by decide +kernel
theorem dX1_flush_22 : decode cX1_flush 22 = .ok (.aload_n 0, 1) := by decide +kernel
theorem dX1_flush_23 : decode cX1_flush 23 = .ok (.dup, 1) := by decide +kernel
theorem dX1_flush_24 : decode cX1_flush 24 = .ok (.getfield 57, 3) := by decide +kernel
theorem dX1_flush_27 : decode cX1_flush 27 = .ok (.iconst 1, 1) := by decide +kernel
theorem dX1_flush_28 : decode cX1_flush 28 = .ok (.iadd, 1) := by decide +kernel
theorem dX1_flush_29 : decode cX1_flush 29 = .ok (.putfield 57, 3) := by decide +kernel
theorem dX1_flush_32 : decode cX1_flush 32 = .ok (.iload_n 1, 1) := by decide +kernel
theorem dX1_flush_33 : decode cX1_flush 33 = .ok (.ireturn, 1) := by decide +kernel
set_option maxRecDepth 20000 in
theorem ggX1_crash_X1_settle : GoodIn wsX1_crash wsX1_settle := goodIn_r _ [16, 5, 4, 1, 8, 17, 18, 19, 20, 21, 22, 23, 24, 25, 26, 27, 28, 29, 30] (by decide +kernel) (by decide +kernel)
set_option maxRecDepth 20000 in
theorem gX1_crash_X1_settle : GoodIn wsX1_crash (wsV RX1 54 RX1 yX1_settle wsX1_settle) := goodIn_app (goodIn_of _ (by decide +kernel)) ggX1_crash_X1_settle
theorem dX1_crash_0 : decode cX1_crash 0 = .ok (.iload_n 2, 1) := by decide +kernel
theorem dX1_crash_1 : decode cX1_crash 1 = .ok (.ifCond .lt 10, 3) := by decide +kernel
theorem dX1_crash_4 : decode cX1_crash 4 = .ok (.iload_n 2, 1) := by decide +kernel
theorem dX1_crash_5 : decode cX1_crash 5 = .ok (.sipush 500, 3) := by decide +kernel
theorem dX1_crash_8 : decode cX1_crash 8 = .ok (.if_icmp .le 5, 3) := by decide +kernel
theorem dX1_crash_11 : decode cX1_crash 11 = .ok (.iconst (-1), 1) := by decide +kernel
theorem dX1_crash_12 : decode cX1_crash 12 = .ok (.ireturn, 1) := by decide +kernel
theorem dX1_crash_13 : decode cX1_crash 13 = .ok (.iconst 0, 1) := by decide +kernel
theorem dX1_crash_14 : decode cX1_crash 14 = .ok (.istore_n 3, 1) := by decide +kernel
theorem dX1_crash_15 : decode cX1_crash 15 = .ok (.iconst 0, 1) := by decide +kernel
theorem dX1_crash_16 : decode cX1_crash 16 = .ok (.istore 4, 2) := by decide +kernel
theorem dX1_crash_18 : decode cX1_crash 18 = .ok (.iconst 1, 1) := by decide +kernel
theorem dX1_crash_19 : decode cX1_crash 19 = .ok (.istore 5, 2) := by decide +kernel
theorem dX1_crash_21 : decode cX1_crash 21 = .ok (.iconst 0, 1) := by decide +kernel
theorem dX1_crash_22 : decode cX1_crash 22 = .ok (.istore 6, 2) := by decide +kernel
theorem dX1_crash_24 : decode cX1_crash 24 = .ok (.iload 6, 2) := by decide +kernel
theorem dX1_crash_26 : decode cX1_crash 26 = .ok (.aload_n 0, 1) := by decide +kernel
theorem dX1_crash_27 : decode cX1_crash 27 = .ok (.getfield 31, 3) := by decide +kernel
theorem dX1_crash_30 : decode cX1_crash 30 = .ok (.if_icmp .ge 53, 3) := by decide +kernel
theorem dX1_crash_33 : decode cX1_crash 33 = .ok (.iload_n 1, 1) := by decide +kernel
theorem dX1_crash_34 : decode cX1_crash 34 = .ok (.aload_n 0, 1) := by decide +kernel
theorem dX1_crash_35 : decode cX1_crash 35 = .ok (.getfield 51, 3) := by decide +kernel
theorem dX1_crash_38 : decode cX1_crash 38 = .ok (.iload 6, 2) := by decide +kernel
theorem dX1_crash_40 : decode cX1_crash 40 = .ok (.iadd, 1) := by decide +kernel
theorem dX1_crash_41 : decode cX1_crash 41 = .ok (.bipush 31, 2) := by decide +kernel
theorem dX1_crash_43 : decode cX1_crash 43 = .ok (.irem, 1) := by decide +kernel
theorem dX1_crash_44 : decode cX1_crash 44 = .ok (.ishr, 1) := by decide +kernel
theorem dX1_crash_45 : decode cX1_crash 45 = .ok (.iconst 1, 1) := by decide +kernel
theorem dX1_crash_46 : decode cX1_crash 46 = .ok (.iand, 1) := by decide +kernel
theorem dX1_crash_47 : decode cX1_crash 47 = .ok (.ifCond .ne 6, 3) := by decide +kernel
theorem dX1_crash_50 : decode cX1_crash 50 = .ok (.iconst 0, 1) := by decide +kernel
theorem dX1_crash_51 : decode cX1_crash 51 = .ok (.istore 5, 2) := by decide +kernel
theorem dX1_crash_53 : decode cX1_crash 53 = .ok (.iload 5, 2) := by decide +kernel
theorem dX1_crash_55 : decode cX1_crash 55 = .ok (.ifCond .eq 22, 3) := by decide +kernel
theorem dX1_crash_58 : decode cX1_crash 58 = .ok (.aload_n 0, 1) := by decide +kernel
theorem dX1_crash_59 : decode cX1_crash 59 = .ok (.getfield 22, 3) := by decide +kernel
theorem dX1_crash_62 : decode cX1_crash 62 = .ok (.iload 6, 2) := by decide +kernel
theorem dX1_crash_64 : decode cX1_crash 64 = .ok (.iaload, 1) := by decide +kernel
theorem dX1_crash_65 : decode cX1_crash 65 = .ok (.iconst 1, 1) := by decide +kernel
theorem dX1_crash_66 : decode cX1_crash 66 = .ok (.if_icmp .ne 11, 3) := by decide +kernel
theorem dX1_crash_69 : decode cX1_crash 69 = .ok (.iload 6, 2) := by decide +kernel
theorem dX1_crash_71 : decode cX1_crash 71 = .ok (.iconst 1, 1) := by decide +kernel
theorem dX1_crash_72 : decode cX1_crash 72 = .ok (.iadd, 1) := by decide +kernel
theorem dX1_crash_73 : decode cX1_crash 73 = .ok (.istore_n 3, 1) := by decide +kernel
theorem dX1_crash_74 : decode cX1_crash 74 = .ok (.iinc 4 1, 3) := by decide +kernel
theorem dX1_crash_77 : decode cX1_crash 77 = .ok (.iinc 6 1, 3) := by decide +kernel
theorem dX1_crash_80 : decode cX1_crash 80 = .ok (.goto (-56), 3) := by decide +kernel
theorem dX1_crash_83 : decode cX1_crash 83 = .ok (.iconst 0, 1) := by decide +kernel
theorem dX1_crash_84 : decode cX1_crash 84 = .ok (.istore 6, 2) := by decide +kernel
theorem dX1_crash_86 : decode cX1_crash 86 = .ok (.iload 6, 2) := by decide +kernel
theorem dX1_crash_88 : decode cX1_crash 88 = .ok (.sipush 212, 3) := by decide +kernel
theorem dX1_crash_91 : decode cX1_crash 91 = .ok (.if_icmp .ge 23, 3) := by decide +kernel
theorem dX1_crash_94 : decode cX1_crash 94 = .ok (.aload_n 0, 1) := by decide +kernel
theorem dX1_crash_95 : decode cX1_crash 95 = .ok (.getfield 13, 3) := by decide +kernel
theorem dX1_crash_98 : decode cX1_crash 98 = .ok (.iload 6, 2) := by decide +kernel
theorem dX1_crash_100 : decode cX1_crash 100 = .ok (.aload_n 0, 1) := by decide +kernel
theorem dX1_crash_101 : decode cX1_crash 101 = .ok (.getfield 9, 3) := by decide +kernel
theorem dX1_crash_104 : decode cX1_crash 104 = .ok (.iload 6, 2) := by decide +kernel
theorem dX1_crash_106 : decode cX1_crash 106 = .ok (.iaload, 1) := by decide +kernel
theorem dX1_crash_107 : decode cX1_crash 107 = .ok (.iastore, 1) := by decide +kernel
theorem dX1_crash_108 : decode cX1_crash 108 = .ok (.iinc 6 1, 3) := by decide +kernel
theorem dX1_crash_111 : decode cX1_crash 111 = .ok (.goto (-25), 3) := by decide +kernel
theorem dX1_crash_114 : decode cX1_crash 114 = .ok (.iconst 0, 1) := by decide +kernel
theorem dX1_crash_115 : decode cX1_crash 115 = .ok (.istore 6, 2) := by decide +kernel
theorem dX1_crash_117 : decode cX1_crash 117 = .ok (.iload 6, 2) := by decide +kernel
theorem dX1_crash_119 : decode cX1_crash 119 = .ok (.iload_n 3, 1) := by decide +kernel
theorem dX1_crash_120 : decode cX1_crash 120 = .ok (.if_icmp .ge 28, 3) := by decide +kernel
theorem dX1_crash_123 : decode cX1_crash 123 = .ok (.aload_n 0, 1) := by decide +kernel
theorem dX1_crash_124 : decode cX1_crash 124 = .ok (.getfield 13, 3) := by decide +kernel
theorem dX1_crash_127 : decode cX1_crash 127 = .ok (.aload_n 0, 1) := by decide +kernel
theorem dX1_crash_128 : decode cX1_crash 128 = .ok (.getfield 16, 3) := by decide +kernel
theorem dX1_crash_131 : decode cX1_crash 131 = .ok (.iload 6, 2) := by decide +kernel
theorem dX1_crash_133 : decode cX1_crash 133 = .ok (.iaload, 1) := by decide +kernel
theorem dX1_crash_134 : decode cX1_crash 134 = .ok (.aload_n 0, 1) := by decide +kernel
theorem dX1_crash_135 : decode cX1_crash 135 = .ok (.getfield 19, 3) := by decide +kernel
theorem dX1_crash_138 : decode cX1_crash 138 = .ok (.iload 6, 2) := by decide +kernel
theorem dX1_crash_140 : decode cX1_crash 140 = .ok (.iaload, 1) := by decide +kernel
theorem dX1_crash_141 : decode cX1_crash 141 = .ok (.iastore, 1) := by decide +kernel
theorem dX1_crash_142 : decode cX1_crash 142 = .ok (.iinc 6 1, 3) := by decide +kernel
theorem dX1_crash_145 : decode cX1_crash 145 = .ok (.goto (-28), 3) := by decide +kernel
theorem dX1_crash_148 : decode cX1_crash 148 = .ok (.aload_n 0, 1) := by decide +kernel
theorem dX1_crash_149 : decode cX1_crash 149 = .ok (.getfield 35, 3) := by decide +kernel
theorem dX1_crash_152 : decode cX1_crash 152 = .ok (.iload 4, 2) := by decide +kernel
theorem dX1_crash_154 : decode cX1_crash 154 = .ok (.isub, 1) := by decide +kernel
theorem dX1_crash_155 : decode cX1_crash 155 = .ok (.istore 6, 2) := by decide +kernel
theorem dX1_crash_157 : decode cX1_crash 157 = .ok (.aload_n 0, 1) := by decide +kernel
theorem dX1_crash_158 : decode cX1_crash 158 = .ok (.dup, 1) := by decide +kernel
theorem dX1_crash_159 : decode cX1_crash 159 = .ok (.getfield 45, 3) := by decide +kernel
theorem dX1_crash_162 : decode cX1_crash 162 = .ok (.iload 6, 2) := by decide +kernel
theorem dX1_crash_164 : decode cX1_crash 164 = .ok (.isub, 1) := by decide +kernel
theorem dX1_crash_165 : decode cX1_crash 165 = .ok (.putfield 45, 3) := by decide +kernel
theorem dX1_crash_168 : decode cX1_crash 168 = .ok (.aload_n 0, 1) := by decide +kernel
theorem dX1_crash_169 : decode cX1_crash 169 = .ok (.iconst 0, 1) := by decide +kernel
theorem dX1_crash_170 : decode cX1_crash 170 = .ok (.putfield 38, 3) := by decide +kernel
theorem dX1_crash_173 : decode cX1_crash 173 = .ok (.aload_n 0, 1) := by decide +kernel
theorem dX1_crash_174 : decode cX1_crash 174 = .ok (.iconst 0, 1) := by decide +kernel
theorem dX1_crash_175 : decode cX1_crash 175 = .ok (.putfield 51, 3) := by decide +kernel
theorem dX1_crash_178 : decode cX1_crash 178 = .ok (.aload_n 0, 1) := by decide +kernel
theorem dX1_crash_179 : decode cX1_crash 179 = .ok (.invokevirtual 54, 3) := by decide +kernel
theorem dX1_crash_182 : decode cX1_crash 182 = .ok (.aload_n 0, 1) := by decide +kernel
theorem dX1_crash_183 : decode cX1_crash 183 = .ok (.dup, 1) := by decide +kernel
theorem dX1_crash_184 : decode cX1_crash 184 = .ok (.getfield 60, 3) := by decide +kernel
theorem dX1_crash_187 : decode cX1_crash 187 = .ok (.iconst 1, 1) := by decide +kernel
theorem dX1_crash_188 : decode cX1_crash 188 = .ok (.iadd, 1) := by decide +kernel
theorem dX1_crash_189 : decode cX1_crash 189 = .ok (.putfield 60, 3) := by decide +kernel
theorem dX1_crash_192 : decode cX1_crash 192 = .ok (.iload 6, 2) := by decide +kernel
theorem dX1_crash_194 : decode cX1_crash 194 = .ok (.ireturn, 1) := by decide +kernel
theorem dX1_get_0 : decode cX1_get 0 = .ok (.iload_n 1, 1) := by decide +kernel
theorem dX1_get_1 : decode cX1_get 1 = .ok (.ifCond .lt 10, 3) := by decide +kernel
theorem dX1_get_4 : decode cX1_get 4 = .ok (.iload_n 1, 1) := by decide +kernel
theorem dX1_get_5 : decode cX1_get 5 = .ok (.sipush 212, 3) := by decide +kernel
theorem dX1_get_8 : decode cX1_get 8 = .ok (.if_icmp .lt 7, 3) := by decide +kernel
theorem dX1_get_11 : decode cX1_get 11 = .ok (.iconst 0, 1) := by decide +kernel
theorem dX1_get_12 : decode cX1_get 12 = .ok (.goto 9, 3) := by decide +kernel
theorem dX1_get_15 : decode cX1_get 15 = .ok (.aload_n 0, 1) := by decide +kernel
theorem dX1_get_16 : decode cX1_get 16 = .ok (.getfield 13, 3) := by decide +kernel
theorem dX1_get_19 : decode cX1_get 19 = .ok (.iload_n 1, 1) := by decide +kernel
theorem dX1_get_20 : decode cX1_get 20 = .ok (.iaload, 1) := by decide +kernel
theorem dX1_get_21 : decode cX1_get 21 = .ok (.ireturn, 1) := by decide +kernel
theorem dX1_torn_0 : decode cX1_torn 0 = .ok (.iconst 0, 1) := by decide +kernel
theorem dX1_torn_1 : decode cX1_torn 1 = .ok (.ireturn, 1) := by decide +kernel
theorem dX1_count_0 : decode cX1_count 0 = .ok (.iload_n 1, 1) := by decide +kernel
theorem dX1_count_1 : decode cX1_count 1 = .ok (.tableswitch 74 0 5 #[39, 44, 49, 59, 64, 69], 39) := by decide +kernel
theorem dX1_count_40 : decode cX1_count 40 = .ok (.aload_n 0, 1) := by decide +kernel
theorem dX1_count_41 : decode cX1_count 41 = .ok (.getfield 45, 3) := by decide +kernel
theorem dX1_count_44 : decode cX1_count 44 = .ok (.ireturn, 1) := by decide +kernel
theorem dX1_count_45 : decode cX1_count 45 = .ok (.aload_n 0, 1) := by decide +kernel
theorem dX1_count_46 : decode cX1_count 46 = .ok (.getfield 35, 3) := by decide +kernel
theorem dX1_count_49 : decode cX1_count 49 = .ok (.ireturn, 1) := by decide +kernel
theorem dX1_count_50 : decode cX1_count 50 = .ok (.aload_n 0, 1) := by decide +kernel
theorem dX1_count_51 : decode cX1_count 51 = .ok (.getfield 51, 3) := by decide +kernel
theorem dX1_count_54 : decode cX1_count 54 = .ok (.aload_n 0, 1) := by decide +kernel
theorem dX1_count_55 : decode cX1_count 55 = .ok (.getfield 31, 3) := by decide +kernel
theorem dX1_count_58 : decode cX1_count 58 = .ok (.iadd, 1) := by decide +kernel
theorem dX1_count_59 : decode cX1_count 59 = .ok (.ireturn, 1) := by decide +kernel
theorem dX1_count_60 : decode cX1_count 60 = .ok (.aload_n 0, 1) := by decide +kernel
theorem dX1_count_61 : decode cX1_count 61 = .ok (.getfield 38, 3) := by decide +kernel
theorem dX1_count_64 : decode cX1_count 64 = .ok (.ireturn, 1) := by decide +kernel
theorem dX1_count_65 : decode cX1_count 65 = .ok (.aload_n 0, 1) := by decide +kernel
theorem dX1_count_66 : decode cX1_count 66 = .ok (.getfield 57, 3) := by decide +kernel
theorem dX1_count_69 : decode cX1_count 69 = .ok (.ireturn, 1) := by decide +kernel
theorem dX1_count_70 : decode cX1_count 70 = .ok (.aload_n 0, 1) := by decide +kernel
theorem dX1_count_71 : decode cX1_count 71 = .ok (.getfield 60, 3) := by decide +kernel
theorem dX1_count_74 : decode cX1_count 74 = .ok (.ireturn, 1) := by decide +kernel
theorem dX1_count_75 : decode cX1_count 75 = .ok (.iconst (-1), 1) := by decide +kernel
theorem dX1_count_76 : decode cX1_count 76 = .ok (.ireturn, 1) := by decide +kernel
set_option maxRecDepth 20000 in
theorem ggL_law_X0_init : GoodIn wsL_law wsX0_init := goodIn_r _ [8, 9, 10, 11, 12, 13, 14, 15, 16, 145, 146, 147, 148, 149, 150, 151, 152, 153, 154, 155] (by decide +kernel) (by decide +kernel)
set_option maxRecDepth 20000 in
theorem gL_law_X0_init : GoodIn wsL_law (wsX0_init) := ggL_law_X0_init
set_option maxRecDepth 20000 in
theorem ggL_law_X1_init : GoodIn wsL_law wsX1_init := goodIn_r _ [19, 20, 10, 11, 12, 21, 22, 23, 24, 25, 26, 27, 156, 157, 158, 159, 160, 161, 162, 163, 164, 165, 166, 167, 168, 169] (by decide +kernel) (by decide +kernel)
set_option maxRecDepth 20000 in
theorem gL_law_X1_init : GoodIn wsL_law (wsX1_init) := ggL_law_X1_init
set_option maxRecDepth 20000 in
theorem ggL_law_X0_change : GoodIn wsL_law wsX0_change := goodIn_r _ [31, 32, 33, 34, 35, 2, 36, 37, 38, 39, 40, 41, 42, 43, 44, 45, 46, 47, 48, 49, 50, 51, 14, 52, 53, 54, 55, 16, 13, 15, 56, 57, 58, 59, 60, 145, 146, 147, 148, 149, 150, 151, 152, 153, 154, 155] (by decide +kernel) (by decide +kernel)
set_option maxRecDepth 20000 in
theorem gL_law_X0_change : GoodIn wsL_law (wsV RL 13 RX0 yX0_change wsX0_change) := goodIn_app (goodIn_of _ (by decide +kernel)) ggL_law_X0_change
set_option maxRecDepth 20000 in
theorem ggL_law_X1_change : GoodIn wsL_law wsX1_change := goodIn_r _ [64, 65, 66, 26, 27, 67, 68, 69, 5, 70, 71, 72, 73, 74, 75, 76, 77, 23, 78, 79, 80, 81, 21, 22, 156, 157, 158, 159, 160, 161, 162, 163, 164, 165, 166, 167, 168, 169] (by decide +kernel) (by decide +kernel)
set_option maxRecDepth 20000 in
theorem gL_law_X1_change : GoodIn wsL_law (wsV RL 17 RX1 yX1_change wsX1_change) := goodIn_app (goodIn_of _ (by decide +kernel)) ggL_law_X1_change
set_option maxRecDepth 20000 in
theorem ggL_law_X0_commit : GoodIn wsL_law wsX0_commit := goodIn_r _ [85, 32, 33, 41, 145, 146, 147, 148, 149, 150, 151, 152, 153, 154, 155] (by decide +kernel) (by decide +kernel)
set_option maxRecDepth 20000 in
theorem gL_law_X0_commit : GoodIn wsL_law (wsV RL 18 RX0 yX0_commit wsX0_commit) := goodIn_app (goodIn_of _ (by decide +kernel)) ggL_law_X0_commit
set_option maxRecDepth 20000 in
theorem ggL_law_X1_commit : GoodIn wsL_law wsX1_commit := goodIn_r _ [89, 65, 23, 66, 26, 24, 27, 25, 22, 90, 71, 156, 157, 158, 159, 160, 161, 162, 163, 164, 165, 166, 167, 168, 169] (by decide +kernel) (by decide +kernel)
set_option maxRecDepth 20000 in
theorem gL_law_X1_commit : GoodIn wsL_law (wsV RL 22 RX1 yX1_commit wsX1_commit) := goodIn_app (goodIn_of _ (by decide +kernel)) ggL_law_X1_commit
set_option maxRecDepth 20000 in
theorem ggL_law_X0_forget : GoodIn wsL_law wsX0_forget := goodIn_r _ [94, 32, 145, 146, 147, 148, 149, 150, 151, 152, 153, 154, 155] (by decide +kernel) (by decide +kernel)
set_option maxRecDepth 20000 in
theorem gL_law_X0_forget : GoodIn wsL_law (wsV RL 23 RX0 yX0_forget wsX0_forget) := goodIn_app (goodIn_of _ (by decide +kernel)) ggL_law_X0_forget
set_option maxRecDepth 20000 in
theorem ggL_law_X1_forget : GoodIn wsL_law wsX1_forget := goodIn_r _ [98, 65, 156, 157, 158, 159, 160, 161, 162, 163, 164, 165, 166, 167, 168, 169] (by decide +kernel) (by decide +kernel)
set_option maxRecDepth 20000 in
theorem gL_law_X1_forget : GoodIn wsL_law (wsV RL 26 RX1 yX1_forget wsX1_forget) := goodIn_app (goodIn_of _ (by decide +kernel)) ggL_law_X1_forget
set_option maxRecDepth 20000 in
theorem ggL_law_X0_flush : GoodIn wsL_law wsX0_flush := goodIn_r _ [102, 41, 37, 38, 39, 2, 40, 42, 43, 44, 45, 46, 47, 33, 48, 49, 50, 51, 14, 52, 53, 54, 55, 16, 13, 15, 56, 32, 145, 146, 147, 148, 149, 150, 151, 152, 153, 154, 155] (by decide +kernel) (by decide +kernel)
set_option maxRecDepth 20000 in
theorem gL_law_X0_flush : GoodIn wsL_law (wsV RL 27 RX0 yX0_flush wsX0_flush) := goodIn_app (goodIn_of _ (by decide +kernel)) ggL_law_X0_flush
set_option maxRecDepth 20000 in
theorem ggL_law_X1_flush : GoodIn wsL_law wsX1_flush := goodIn_r _ [70, 71, 65, 72, 73, 74, 75, 76, 5, 77, 66, 23, 78, 79, 80, 81, 21, 22, 156, 157, 158, 159, 160, 161, 162, 163, 164, 165, 166, 167, 168, 169] (by decide +kernel) (by decide +kernel)
set_option maxRecDepth 20000 in
theorem gL_law_X1_flush : GoodIn wsL_law (wsV RL 30 RX1 yX1_flush wsX1_flush) := goodIn_app (goodIn_of _ (by decide +kernel)) ggL_law_X1_flush
set_option maxRecDepth 20000 in
theorem ggL_law_X0_crash : GoodIn wsL_law wsX0_crash := goodIn_r _ [107, 41, 42, 108, 109, 110, 111, 2, 112, 33, 16, 113, 114, 115, 52, 53, 54, 55, 13, 14, 15, 56, 32, 145, 146, 147, 148, 149, 150, 151, 152, 153, 154, 155] (by decide +kernel) (by decide +kernel)
set_option maxRecDepth 20000 in
theorem gL_law_X0_crash : GoodIn wsL_law (wsV RL 31 RX0 yX0_crash wsX0_crash) := goodIn_app (goodIn_of _ (by decide +kernel)) ggL_law_X0_crash
set_option maxRecDepth 20000 in
theorem ggL_law_X1_crash : GoodIn wsL_law wsX1_crash := goodIn_r _ [119, 66, 72, 25, 22, 21, 23, 24, 71, 90, 65, 120, 78, 79, 80, 5, 81, 156, 157, 158, 159, 160, 161, 162, 163, 164, 165, 166, 167, 168, 169] (by decide +kernel) (by decide +kernel)
set_option maxRecDepth 20000 in
theorem gL_law_X1_crash : GoodIn wsL_law (wsV RL 34 RX1 yX1_crash wsX1_crash) := goodIn_app (goodIn_of _ (by decide +kernel)) ggL_law_X1_crash
set_option maxRecDepth 20000 in
theorem ggL_law_X0_get : GoodIn wsL_law wsX0_get := goodIn_r _ [124, 33, 14, 15, 13, 34, 35, 2, 36, 145, 146, 147, 148, 149, 150, 151, 152, 153, 154, 155] (by decide +kernel) (by decide +kernel)
set_option maxRecDepth 20000 in
theorem gL_law_X0_get : GoodIn wsL_law (wsV RL 35 RX0 yX0_get wsX0_get) := goodIn_app (goodIn_of _ (by decide +kernel)) ggL_law_X0_get
set_option maxRecDepth 20000 in
theorem ggL_law_X1_get : GoodIn wsL_law wsX1_get := goodIn_r _ [128, 22, 156, 157, 158, 159, 160, 161, 162, 163, 164, 165, 166, 167, 168, 169] (by decide +kernel) (by decide +kernel)
set_option maxRecDepth 20000 in
theorem gL_law_X1_get : GoodIn wsL_law (wsV RL 39 RX1 yX1_get wsX1_get) := goodIn_app (goodIn_of _ (by decide +kernel)) ggL_law_X1_get
set_option maxRecDepth 20000 in
theorem ggL_law_X0_torn : GoodIn wsL_law wsX0_torn := goodIn_r _ [132] (by decide +kernel) (by decide +kernel)
set_option maxRecDepth 20000 in
theorem gL_law_X0_torn : GoodIn wsL_law (wsV RL 40 RX0 yX0_torn wsX0_torn) := goodIn_app (goodIn_of _ (by decide +kernel)) ggL_law_X0_torn
set_option maxRecDepth 20000 in
theorem ggL_law_X1_torn : GoodIn wsL_law wsX1_torn := goodIn_r _ [136] (by decide +kernel) (by decide +kernel)
set_option maxRecDepth 20000 in
theorem gL_law_X1_torn : GoodIn wsL_law (wsV RL 43 RX1 yX1_torn wsX1_torn) := goodIn_app (goodIn_of _ (by decide +kernel)) ggL_law_X1_torn
set_option maxRecDepth 20000 in
theorem ggL_law_X0_count : GoodIn wsL_law wsX0_count := goodIn_r _ [140, 56, 41, 42, 33, 32, 43, 108, 145, 146, 147, 148, 149, 150, 151, 152, 153, 154, 155] (by decide +kernel) (by decide +kernel)
set_option maxRecDepth 20000 in
theorem gL_law_X0_count : GoodIn wsL_law (wsV RL 44 RX0 yX0_count wsX0_count) := goodIn_app (goodIn_of _ (by decide +kernel)) ggL_law_X0_count
set_option maxRecDepth 20000 in
theorem ggL_law_X1_count : GoodIn wsL_law wsX1_count := goodIn_r _ [144, 90, 71, 72, 66, 65, 73, 120, 156, 157, 158, 159, 160, 161, 162, 163, 164, 165, 166, 167, 168, 169] (by decide +kernel) (by decide +kernel)
set_option maxRecDepth 20000 in
theorem gL_law_X1_count : GoodIn wsL_law (wsV RL 47 RX1 yX1_count wsX1_count) := goodIn_app (goodIn_of _ (by decide +kernel)) ggL_law_X1_count
theorem dL_law_0 : decode cL_law 0 = .ok (.new 7, 3) := by decide +kernel
theorem dL_law_3 : decode cL_law 3 = .ok (.dup, 1) := by decide +kernel
theorem dL_law_4 : decode cL_law 4 = .ok (.invokespecial 9, 3) := by decide +kernel
theorem dL_law_7 : decode cL_law 7 = .ok (.astore_n 1, 1) := by decide +kernel
theorem dL_law_8 : decode cL_law 8 = .ok (.new 10, 3) := by decide +kernel
theorem dL_law_11 : decode cL_law 11 = .ok (.dup, 1) := by decide +kernel
theorem dL_law_12 : decode cL_law 12 = .ok (.invokespecial 12, 3) := by decide +kernel
theorem dL_law_15 : decode cL_law 15 = .ok (.astore_n 2, 1) := by decide +kernel
theorem dL_law_16 : decode cL_law 16 = .ok (.iconst 0, 1) := by decide +kernel
theorem dL_law_17 : decode cL_law 17 = .ok (.istore_n 3, 1) := by decide +kernel
theorem dL_law_18 : decode cL_law 18 = .ok (.iload_n 3, 1) := by decide +kernel
theorem dL_law_19 : decode cL_law 19 = .ok (.aload_n 0, 1) := by decide +kernel
theorem dL_law_20 : decode cL_law 20 = .ok (.arraylength, 1) := by decide +kernel
theorem dL_law_21 : decode cL_law 21 = .ok (.iconst 3, 1) := by decide +kernel
theorem dL_law_22 : decode cL_law 22 = .ok (.isub, 1) := by decide +kernel
theorem dL_law_23 : decode cL_law 23 = .ok (.if_icmp .gt 227, 3) := by decide +kernel
theorem dL_law_26 : decode cL_law 26 = .ok (.aload_n 0, 1) := by decide +kernel
theorem dL_law_27 : decode cL_law 27 = .ok (.iload_n 3, 1) := by decide +kernel
theorem dL_law_28 : decode cL_law 28 = .ok (.iaload, 1) := by decide +kernel
theorem dL_law_29 : decode cL_law 29 = .ok (.bipush 7, 2) := by decide +kernel
theorem dL_law_31 : decode cL_law 31 = .ok (.iand, 1) := by decide +kernel
theorem dL_law_32 : decode cL_law 32 = .ok (.tableswitch 212 0 7 #[48, 81, 94, 107, 120, 153, 176, 189], 48) := by decide +kernel
theorem dL_law_80 : decode cL_law 80 = .ok (.aload_n 1, 1) := by decide +kernel
theorem dL_law_81 : decode cL_law 81 = .ok (.aload_n 0, 1) := by decide +kernel
theorem dL_law_82 : decode cL_law 82 = .ok (.iload_n 3, 1) := by decide +kernel
theorem dL_law_83 : decode cL_law 83 = .ok (.iconst 1, 1) := by decide +kernel
theorem dL_law_84 : decode cL_law 84 = .ok (.iadd, 1) := by decide +kernel
theorem dL_law_85 : decode cL_law 85 = .ok (.iaload, 1) := by decide +kernel
theorem dL_law_86 : decode cL_law 86 = .ok (.aload_n 0, 1) := by decide +kernel
theorem dL_law_87 : decode cL_law 87 = .ok (.iload_n 3, 1) := by decide +kernel
theorem dL_law_88 : decode cL_law 88 = .ok (.iconst 2, 1) := by decide +kernel
theorem dL_law_89 : decode cL_law 89 = .ok (.iadd, 1) := by decide +kernel
theorem dL_law_90 : decode cL_law 90 = .ok (.iaload, 1) := by decide +kernel
theorem dL_law_91 : decode cL_law 91 = .ok (.invokevirtual 13, 3) := by decide +kernel
theorem dL_law_94 : decode cL_law 94 = .ok (.aload_n 2, 1) := by decide +kernel
theorem dL_law_95 : decode cL_law 95 = .ok (.aload_n 0, 1) := by decide +kernel
theorem dL_law_96 : decode cL_law 96 = .ok (.iload_n 3, 1) := by decide +kernel
theorem dL_law_97 : decode cL_law 97 = .ok (.iconst 1, 1) := by decide +kernel
theorem dL_law_98 : decode cL_law 98 = .ok (.iadd, 1) := by decide +kernel
theorem dL_law_99 : decode cL_law 99 = .ok (.iaload, 1) := by decide +kernel
theorem dL_law_100 : decode cL_law 100 = .ok (.aload_n 0, 1) := by decide +kernel
theorem dL_law_101 : decode cL_law 101 = .ok (.iload_n 3, 1) := by decide +kernel
theorem dL_law_102 : decode cL_law 102 = .ok (.iconst 2, 1) := by decide +kernel
theorem dL_law_103 : decode cL_law 103 = .ok (.iadd, 1) := by decide +kernel
theorem dL_law_104 : decode cL_law 104 = .ok (.iaload, 1) := by decide +kernel
theorem dL_law_105 : decode cL_law 105 = .ok (.invokevirtual 17, 3) := by decide +kernel
theorem dL_law_108 : decode cL_law 108 = .ok (.if_icmp .eq 136, 3) := by decide +kernel
theorem dL_law_111 : decode cL_law 111 = .ok (.iconst 0, 1) := by decide +kernel
theorem dL_law_112 : decode cL_law 112 = .ok (.ireturn, 1) := by decide +kernel
theorem dL_law_113 : decode cL_law 113 = .ok (.aload_n 1, 1) := by decide +kernel
theorem dL_law_114 : decode cL_law 114 = .ok (.invokevirtual 18, 3) := by decide +kernel
theorem dL_law_117 : decode cL_law 117 = .ok (.aload_n 2, 1) := by decide +kernel
theorem dL_law_118 : decode cL_law 118 = .ok (.invokevirtual 22, 3) := by decide +kernel
theorem dL_law_121 : decode cL_law 121 = .ok (.if_icmp .eq 123, 3) := by decide +kernel
theorem dL_law_124 : decode cL_law 124 = .ok (.iconst 0, 1) := by decide +kernel
theorem dL_law_125 : decode cL_law 125 = .ok (.ireturn, 1) := by decide +kernel
theorem dL_law_126 : decode cL_law 126 = .ok (.aload_n 1, 1) := by decide +kernel
theorem dL_law_127 : decode cL_law 127 = .ok (.invokevirtual 23, 3) := by decide +kernel
theorem dL_law_130 : decode cL_law 130 = .ok (.aload_n 2, 1) := by decide +kernel
theorem dL_law_131 : decode cL_law 131 = .ok (.invokevirtual 26, 3) := by decide +kernel
theorem dL_law_134 : decode cL_law 134 = .ok (.if_icmp .eq 110, 3) := by decide +kernel
theorem dL_law_137 : decode cL_law 137 = .ok (.iconst 0, 1) := by decide +kernel
theorem dL_law_138 : decode cL_law 138 = .ok (.ireturn, 1) := by decide +kernel
theorem dL_law_139 : decode cL_law 139 = .ok (.aload_n 1, 1) := by decide +kernel
theorem dL_law_140 : decode cL_law 140 = .ok (.invokevirtual 27, 3) := by decide +kernel
theorem dL_law_143 : decode cL_law 143 = .ok (.aload_n 2, 1) := by decide +kernel
theorem dL_law_144 : decode cL_law 144 = .ok (.invokevirtual 30, 3) := by decide +kernel
theorem dL_law_147 : decode cL_law 147 = .ok (.if_icmp .eq 97, 3) := by decide +kernel
theorem dL_law_150 : decode cL_law 150 = .ok (.iconst 0, 1) := by decide +kernel
theorem dL_law_151 : decode cL_law 151 = .ok (.ireturn, 1) := by decide +kernel
theorem dL_law_152 : decode cL_law 152 = .ok (.aload_n 1, 1) := by decide +kernel
theorem dL_law_153 : decode cL_law 153 = .ok (.aload_n 0, 1) := by decide +kernel
theorem dL_law_154 : decode cL_law 154 = .ok (.iload_n 3, 1) := by decide +kernel
theorem dL_law_155 : decode cL_law 155 = .ok (.iconst 1, 1) := by decide +kernel
theorem dL_law_156 : decode cL_law 156 = .ok (.iadd, 1) := by decide +kernel
theorem dL_law_157 : decode cL_law 157 = .ok (.iaload, 1) := by decide +kernel
theorem dL_law_158 : decode cL_law 158 = .ok (.aload_n 0, 1) := by decide +kernel
theorem dL_law_159 : decode cL_law 159 = .ok (.iload_n 3, 1) := by decide +kernel
theorem dL_law_160 : decode cL_law 160 = .ok (.iconst 2, 1) := by decide +kernel
theorem dL_law_161 : decode cL_law 161 = .ok (.iadd, 1) := by decide +kernel
theorem dL_law_162 : decode cL_law 162 = .ok (.iaload, 1) := by decide +kernel
theorem dL_law_163 : decode cL_law 163 = .ok (.invokevirtual 31, 3) := by decide +kernel
theorem dL_law_166 : decode cL_law 166 = .ok (.aload_n 2, 1) := by decide +kernel
theorem dL_law_167 : decode cL_law 167 = .ok (.aload_n 0, 1) := by decide +kernel
theorem dL_law_168 : decode cL_law 168 = .ok (.iload_n 3, 1) := by decide +kernel
theorem dL_law_169 : decode cL_law 169 = .ok (.iconst 1, 1) := by decide +kernel
theorem dL_law_170 : decode cL_law 170 = .ok (.iadd, 1) := by decide +kernel
theorem dL_law_171 : decode cL_law 171 = .ok (.iaload, 1) := by decide +kernel
theorem dL_law_172 : decode cL_law 172 = .ok (.aload_n 0, 1) := by decide +kernel
theorem dL_law_173 : decode cL_law 173 = .ok (.iload_n 3, 1) := by decide +kernel
theorem dL_law_174 : decode cL_law 174 = .ok (.iconst 2, 1) := by decide +kernel
theorem dL_law_175 : decode cL_law 175 = .ok (.iadd, 1) := by decide +kernel
theorem dL_law_176 : decode cL_law 176 = .ok (.iaload, 1) := by decide +kernel
theorem dL_law_177 : decode cL_law 177 = .ok (.invokevirtual 34, 3) := by decide +kernel
theorem dL_law_180 : decode cL_law 180 = .ok (.if_icmp .eq 64, 3) := by decide +kernel
theorem dL_law_183 : decode cL_law 183 = .ok (.iconst 0, 1) := by decide +kernel
theorem dL_law_184 : decode cL_law 184 = .ok (.ireturn, 1) := by decide +kernel
theorem dL_law_185 : decode cL_law 185 = .ok (.aload_n 1, 1) := by decide +kernel
theorem dL_law_186 : decode cL_law 186 = .ok (.aload_n 0, 1) := by decide +kernel
theorem dL_law_187 : decode cL_law 187 = .ok (.iload_n 3, 1) := by decide +kernel
theorem dL_law_188 : decode cL_law 188 = .ok (.iconst 1, 1) := by decide +kernel
theorem dL_law_189 : decode cL_law 189 = .ok (.iadd, 1) := by decide +kernel
theorem dL_law_190 : decode cL_law 190 = .ok (.iaload, 1) := by decide +kernel
theorem dL_law_191 : decode cL_law 191 = .ok (.invokevirtual 35, 3) := by decide +kernel
theorem dL_law_194 : decode cL_law 194 = .ok (.aload_n 2, 1) := by decide +kernel
theorem dL_law_195 : decode cL_law 195 = .ok (.aload_n 0, 1) := by decide +kernel
theorem dL_law_196 : decode cL_law 196 = .ok (.iload_n 3, 1) := by decide +kernel
theorem dL_law_197 : decode cL_law 197 = .ok (.iconst 1, 1) := by decide +kernel
theorem dL_law_198 : decode cL_law 198 = .ok (.iadd, 1) := by decide +kernel
theorem dL_law_199 : decode cL_law 199 = .ok (.iaload, 1) := by decide +kernel
theorem dL_law_200 : decode cL_law 200 = .ok (.invokevirtual 39, 3) := by decide +kernel
theorem dL_law_203 : decode cL_law 203 = .ok (.if_icmp .eq 41, 3) := by decide +kernel
theorem dL_law_206 : decode cL_law 206 = .ok (.iconst 0, 1) := by decide +kernel
theorem dL_law_207 : decode cL_law 207 = .ok (.ireturn, 1) := by decide +kernel
theorem dL_law_208 : decode cL_law 208 = .ok (.aload_n 1, 1) := by decide +kernel
theorem dL_law_209 : decode cL_law 209 = .ok (.invokevirtual 40, 3) := by decide +kernel
theorem dL_law_212 : decode cL_law 212 = .ok (.aload_n 2, 1) := by decide +kernel
theorem dL_law_213 : decode cL_law 213 = .ok (.invokevirtual 43, 3) := by decide +kernel
theorem dL_law_216 : decode cL_law 216 = .ok (.if_icmp .eq 28, 3) := by decide +kernel
theorem dL_law_219 : decode cL_law 219 = .ok (.iconst 0, 1) := by decide +kernel
theorem dL_law_220 : decode cL_law 220 = .ok (.ireturn, 1) := by decide +kernel
theorem dL_law_221 : decode cL_law 221 = .ok (.aload_n 1, 1) := by decide +kernel
theorem dL_law_222 : decode cL_law 222 = .ok (.aload_n 0, 1) := by decide +kernel
theorem dL_law_223 : decode cL_law 223 = .ok (.iload_n 3, 1) := by decide +kernel
theorem dL_law_224 : decode cL_law 224 = .ok (.iconst 1, 1) := by decide +kernel
theorem dL_law_225 : decode cL_law 225 = .ok (.iadd, 1) := by decide +kernel
theorem dL_law_226 : decode cL_law 226 = .ok (.iaload, 1) := by decide +kernel
theorem dL_law_227 : decode cL_law 227 = .ok (.invokevirtual 44, 3) := by decide +kernel
theorem dL_law_230 : decode cL_law 230 = .ok (.aload_n 2, 1) := by decide +kernel
theorem dL_law_231 : decode cL_law 231 = .ok (.aload_n 0, 1) := by decide +kernel
theorem dL_law_232 : decode cL_law 232 = .ok (.iload_n 3, 1) := by decide +kernel
theorem dL_law_233 : decode cL_law 233 = .ok (.iconst 1, 1) := by decide +kernel
theorem dL_law_234 : decode cL_law 234 = .ok (.iadd, 1) := by decide +kernel
theorem dL_law_235 : decode cL_law 235 = .ok (.iaload, 1) := by decide +kernel
theorem dL_law_236 : decode cL_law 236 = .ok (.invokevirtual 47, 3) := by decide +kernel
theorem dL_law_239 : decode cL_law 239 = .ok (.if_icmp .eq 5, 3) := by decide +kernel
theorem dL_law_242 : decode cL_law 242 = .ok (.iconst 0, 1) := by decide +kernel
theorem dL_law_243 : decode cL_law 243 = .ok (.ireturn, 1) := by decide +kernel
theorem dL_law_244 : decode cL_law 244 = .ok (.iinc 3 3, 3) := by decide +kernel
theorem dL_law_247 : decode cL_law 247 = .ok (.goto (-229), 3) := by decide +kernel
theorem dL_law_250 : decode cL_law 250 = .ok (.iconst 1, 1) := by decide +kernel
theorem dL_law_251 : decode cL_law 251 = .ok (.ireturn, 1) := by decide +kernel
abbrev vwCl : List vw_C := [(RX0, TX0, 11), (RX1, TX1, 14)]
end
section
/-! Rows of my own over the kit: comparisons of small numbers, calls, loops -/
section JA
variable {p : Program} {l : Launch} {e : Env} {R : Room} {s : State} {m : MethodId} {args : Array Value} {below : List Frame} {meth : Method} {c : Code} {H : Heap} {locs : List Loc} {cells slots : Nat} {Q : State → Prop}
variable {bc : ByteArray} {pc : Nat} {ls : Array Slot} {rest : List Value}
theorem ja_top {x y : Int32} (h : x = y) (k : W p l e R s m args below meth c H locs cells slots Q (F0 m pc ls (.int y :: rest))) : W p l e R s m args below meth c H locs cells slots Q (F0 m pc ls (.int x :: rest)) := by
  rw [h]; exact k
theorem ja_ige (hexec : p.tables.exec = Jvm.exec) (hb : c.code = bc) {a b : Nat} {off : Int} {tgt : Nat} (hdg : decode bc pc = .ok (.if_icmp .ge off, 3)) (ht : (pc : Int) + off = (tgt : Int)) (ha : a < 2 ^ 31) (hb2 : b < 2 ^ 31)
    (kt : b ≤ a → W p l e R s m args below meth c H locs cells slots Q (F0 m tgt ls rest)) (kf : a < b → W p l e R s m args below meth c H locs cells slots Q (F0 m (pc + 3) ls rest)) : W p l e R s m args below meth c H locs cells slots Q (F0 m pc ls (.int (nI b) :: .int (nI a) :: rest)) :=
  lv_icmp_ge hexec hb hdg ht (fun h => kt ((nI_leI hb2 ha).mp h)) (fun h => kf (Nat.lt_of_not_le fun q => h ((nI_leI hb2 ha).mpr q)))
theorem ja_ilt (hexec : p.tables.exec = Jvm.exec) (hb : c.code = bc) {a b : Nat} {off : Int} {tgt : Nat} (hdg : decode bc pc = .ok (.if_icmp .lt off, 3)) (ht : (pc : Int) + off = (tgt : Int)) (ha : a < 2 ^ 31) (hb2 : b < 2 ^ 31)
    (kt : a < b → W p l e R s m args below meth c H locs cells slots Q (F0 m tgt ls rest)) (kf : b ≤ a → W p l e R s m args below meth c H locs cells slots Q (F0 m (pc + 3) ls rest)) : W p l e R s m args below meth c H locs cells slots Q (F0 m pc ls (.int (nI b) :: .int (nI a) :: rest)) :=
  lv_icmp_lt hexec hb hdg ht (fun h => kt ((nI_ltI ha hb2).mp h)) (fun h => kf (Nat.le_of_not_lt fun q => h ((nI_ltI ha hb2).mpr q)))
theorem ja_ile (hexec : p.tables.exec = Jvm.exec) (hb : c.code = bc) {a b : Nat} {off : Int} {tgt : Nat} (hdg : decode bc pc = .ok (.if_icmp .le off, 3)) (ht : (pc : Int) + off = (tgt : Int)) (ha : a < 2 ^ 31) (hb2 : b < 2 ^ 31)
    (kt : a ≤ b → W p l e R s m args below meth c H locs cells slots Q (F0 m tgt ls rest)) (kf : b < a → W p l e R s m args below meth c H locs cells slots Q (F0 m (pc + 3) ls rest)) : W p l e R s m args below meth c H locs cells slots Q (F0 m pc ls (.int (nI b) :: .int (nI a) :: rest)) :=
  lv_icmp_le hexec hb hdg ht (fun h => kt ((nI_leI ha hb2).mp h)) (fun h => kf (Nat.lt_of_not_le fun q => h ((nI_leI ha hb2).mpr q)))
theorem ja_igt (hexec : p.tables.exec = Jvm.exec) (hb : c.code = bc) {a b : Nat} {off : Int} {tgt : Nat} (hdg : decode bc pc = .ok (.if_icmp .gt off, 3)) (ht : (pc : Int) + off = (tgt : Int)) (ha : a < 2 ^ 31) (hb2 : b < 2 ^ 31)
    (kt : b < a → W p l e R s m args below meth c H locs cells slots Q (F0 m tgt ls rest)) (kf : a ≤ b → W p l e R s m args below meth c H locs cells slots Q (F0 m (pc + 3) ls rest)) : W p l e R s m args below meth c H locs cells slots Q (F0 m pc ls (.int (nI b) :: .int (nI a) :: rest)) :=
  lv_icmp_gt hexec hb hdg ht (fun h => kt ((nI_ltI hb2 ha).mp h)) (fun h => kf (Nat.le_of_not_lt fun q => h ((nI_ltI hb2 ha).mpr q)))
theorem ja_ieq (hexec : p.tables.exec = Jvm.exec) (hb : c.code = bc) {a b : Nat} {off : Int} {tgt : Nat} (hdg : decode bc pc = .ok (.if_icmp .eq off, 3)) (ht : (pc : Int) + off = (tgt : Int)) (ha : a < 2 ^ 31) (hb2 : b < 2 ^ 31)
    (kt : a = b → W p l e R s m args below meth c H locs cells slots Q (F0 m tgt ls rest)) (kf : a ≠ b → W p l e R s m args below meth c H locs cells slots Q (F0 m (pc + 3) ls rest)) : W p l e R s m args below meth c H locs cells slots Q (F0 m pc ls (.int (nI b) :: .int (nI a) :: rest)) :=
  lv_icmp_eq hexec hb hdg ht (fun h => kt ((nI_eq ha hb2).mp h)) (fun h => kf (fun q => h ((nI_eq ha hb2).mpr q)))
theorem ja_ine (hexec : p.tables.exec = Jvm.exec) (hb : c.code = bc) {a b : Nat} {off : Int} {tgt : Nat} (hdg : decode bc pc = .ok (.if_icmp .ne off, 3)) (ht : (pc : Int) + off = (tgt : Int)) (ha : a < 2 ^ 31) (hb2 : b < 2 ^ 31)
    (kt : a ≠ b → W p l e R s m args below meth c H locs cells slots Q (F0 m tgt ls rest)) (kf : a = b → W p l e R s m args below meth c H locs cells slots Q (F0 m (pc + 3) ls rest)) : W p l e R s m args below meth c H locs cells slots Q (F0 m pc ls (.int (nI b) :: .int (nI a) :: rest)) :=
  lv_icmp_ne hexec hb hdg ht (fun h => kt (fun q => h ((nI_eq ha hb2).mpr q))) (fun h => kf ((nI_eq ha hb2).mp h))
theorem ja_zeq (hexec : p.tables.exec = Jvm.exec) (hb : c.code = bc) {a : Nat} {off : Int} {tgt : Nat} (hdg : decode bc pc = .ok (.ifCond .eq off, 3)) (ht : (pc : Int) + off = (tgt : Int)) (ha : a < 2 ^ 31)
    (kt : a = 0 → W p l e R s m args below meth c H locs cells slots Q (F0 m tgt ls rest)) (kf : a ≠ 0 → W p l e R s m args below meth c H locs cells slots Q (F0 m (pc + 3) ls rest)) : W p l e R s m args below meth c H locs cells slots Q (F0 m pc ls (.int (nI a) :: rest)) :=
  lv_if_eq hexec hb hdg ht (fun h => kt ((nI_eq ha (by decide)).mp (h.trans nI_0.symm))) (fun h => kf (fun q => h (by rw [q]; exact nI_0)))
theorem ja_zne (hexec : p.tables.exec = Jvm.exec) (hb : c.code = bc) {a : Nat} {off : Int} {tgt : Nat} (hdg : decode bc pc = .ok (.ifCond .ne off, 3)) (ht : (pc : Int) + off = (tgt : Int)) (ha : a < 2 ^ 31)
    (kt : a ≠ 0 → W p l e R s m args below meth c H locs cells slots Q (F0 m tgt ls rest)) (kf : a = 0 → W p l e R s m args below meth c H locs cells slots Q (F0 m (pc + 3) ls rest)) : W p l e R s m args below meth c H locs cells slots Q (F0 m pc ls (.int (nI a) :: rest)) :=
  lv_if_ne hexec hb hdg ht (fun h => kt (fun q => h (by rw [q]; exact nI_0))) (fun h => kf ((nI_eq ha (by decide)).mp (h.trans nI_0.symm)))
/-- a method that only reads: its start -/
abbrev ja_Pr (D : va_G) (cl : List vw_C) (w : va_W) (tys : List (ClassId × FieldType)) (av : List Value) : Array Value → State → Prop := va_Pc av (fun U => va_P D cl w U.heap ∧ va_K D cl tys U)
/-- a method that writes: its start -/
abbrev ja_Pw (D : va_G) (cl : List vw_C) (w : va_W) (tys : List (ClassId × FieldType)) (sz : Nat) (av : List Value) : Array Value → State → Prop := va_Pc av (fun U => U.heap.size = sz ∧ va_P D cl w U.heap ∧ va_K D cl tys U ∧ va_D (fun _ => True) w)
/-- its end -/
abbrev ja_B {S : Type} (D : va_G) (cl : List vw_C) (A : Nat → Prop) (wf : S → va_W) : S → State → Prop := fun u t => va_P D cl (wf u) t.heap ∧ va_D A (wf u)
theorem ja_blR {D : va_G} {cl : List vw_C} {w : va_W} {tys : List (ClassId × FieldType)} {av : List Value} : FrameBlind (ja_Pr D cl w tys av) := fun a U g mk q => by
  obtain ⟨q0, qP, qK⟩ := q
  exact ⟨q0, qP, va_K.moved (u := U) (U := U.calling g mk a) (Vm.Alike.refl U.vm) qK⟩
theorem ja_blW {D : va_G} {cl : List vw_C} {w : va_W} {tys : List (ClassId × FieldType)} {sz : Nat} {av : List Value} : FrameBlind (ja_Pw D cl w tys sz av) := fun a U g mk q => by
  obtain ⟨q0, q1, qP, qK, qD⟩ := q
  exact ⟨q0, q1, qP, va_K.moved (u := U) (U := U.calling g mk a) (Vm.Alike.refl U.vm) qK, qD⟩
theorem ja_rcv {D : va_G} {cl : List vw_C} {w : va_W} {tys : List (ClassId × FieldType)} {b ci q0 : Nat} {q : vw_C} {fs : List Value} {C : String} (hK : va_K D cl tys s) (hP : va_P D cl w H) (hc : cl[ci]? = some q) (hC : q.1 = C) (he : w[q0]? = some (b, .inr (ci, fs))) : ∃ cellB : Cell, H[b]? = some cellB ∧ cellB.vm.isStatics = false ∧ s.vm.findClass C = some cellB.cls := by
  have h := va_recv hK hP hc he
  rw [hC] at h
  exact h
variable {Ts ws : List Cond} {y : MethodName} {bytes : ByteArray} {maxL nL n index : Nat} {ret : Option FieldType} {rm : Room} {own C : String} {As st0 : List Value} {b : Addr}
/-- a static method without a world -/
theorem ja_cS {post : Int32 → Prop} (F : CallFix p m c bc nL s args Ts own) (hM : Met l y ws rm (va_Pc As (fun _ => True)) (vp_Si post) 0 0 (fun _ => False)) (cw : CallB R s args own index y bytes maxL ret ws rm 0 0 n ∧ (Cond.static y).before args s = true)
    (hn : As.length = n) (hsize : ls.size = nL) (hstack : st0 = As.reverse ++ rest) (hW : (rest.map fun v => v.category).sum ≤ 8) (hdg : decode bc pc = .ok (.invokestatic index, 3)) (hf : cells ≤ R.cells ∧ slots ≤ R.slots)
    (kk : ∀ r : Int32, post r → W p l e R s m args below meth c H locs cells slots Q (F0 m (pc + 3) ls (.int r :: rest))) : W p l e R s m args below meth c H locs cells slots Q (F0 m pc ls st0) :=
  vp_callSi (va_Run.run (va_runS F hM cw ⟨fun _ _ _ _ q => q, fun U hU hw => ⟨rfl, trivial⟩⟩ rfl hn hsize hstack (lv_room hW) hdg hf)) kk
/-- a method that only reads -/
theorem ja_cR {D : va_G} {cl : List vw_C} {w : va_W} {tys : List (ClassId × FieldType)} {post : Int32 → Prop} (F : CallFix p m c bc nL s args Ts own) (hM : Met l y ws rm (ja_Pr D cl w tys (.ref b :: As)) (vp_Si post) 0 0 (fun _ => False)) (cw : CallW R s args own C index y bytes maxL ret ws rm 0 0 n)
    (hK : va_K D cl tys s) (hP : va_P D cl w H) (hrc : ∃ cellB : Cell, H[b]? = some cellB ∧ cellB.vm.isStatics = false ∧ s.vm.findClass C = some cellB.cls)
    (hn : As.length = n) (hsize : ls.size = nL) (hstack : st0 = As.reverse ++ .ref b :: rest) (hW : (rest.map fun v => v.category).sum ≤ 8) (hdg : decode bc pc = .ok (.invokevirtual index, 3)) (hf : cells ≤ R.cells ∧ slots ≤ R.slots)
    (kk : ∀ r : Int32, post r → W p l e R s m args below meth c H locs cells slots Q (F0 m (pc + 3) ls (.int r :: rest))) : W p l e R s m args below meth c H locs cells slots Q (F0 m pc ls st0) :=
  vp_callSi (va_Run.run (va_runV F hM cw ⟨ja_blR, hrc, fun U hU hw => ⟨rfl, by rw [hU]; exact hP, va_K.moved hw.alike hK⟩⟩ rfl hn hsize hstack (lv_room hW) hdg hf)) kk
/-- a method that writes, with an answer -/
theorem ja_cW {S : Type} {D : va_G} {cl : List vw_C} {w wc wr : va_W} {tys : List (ClassId × FieldType)} {A : Nat → Prop} {H0 : Heap} {post : Int32 → S → Prop} {wf : S → va_W} (F : CallFix p m c bc nL s args Ts own)
    (hM : Met l y ws rm (ja_Pw D cl wc tys H.size (.ref b :: As)) (va_Qi post (ja_B D cl (va_A wc H.size) wf) (va_A wc H.size)) 0 0 (va_A wc H.size)) (cw : CallW R s args own C index y bytes maxL ret ws rm 0 0 n)
    (hK : va_K D cl tys s) (hP : va_P D cl w H) (hPc : va_P D cl wc H) (hD : va_D A w) (hS : va_S A H0 H locs) (hA : ∀ q, H0.size ≤ q → A q) (isC isR : List Nat) (hC : isC.map (fun i => w[i]?) = wc.map some) (hR : isR.map (fun i => w[i]?) = wr.map some) (hnc : va_nd isC = true) (hnr : va_nd isR = true) (hdis : ∀ i ∈ isR, i ∉ isC)
    (hrc : ∃ cellB : Cell, H[b]? = some cellB ∧ cellB.vm.isStatics = false ∧ s.vm.findClass C = some cellB.cls)
    (hn : As.length = n) (hsize : ls.size = nL) (hstack : st0 = As.reverse ++ .ref b :: rest) (hW : (rest.map fun v => v.category).sum ≤ 8) (hdg : decode bc pc = .ok (.invokevirtual index, 3)) (hf : cells ≤ R.cells ∧ slots ≤ R.slots)
    (kk : ∀ (r : Int32) (u : S) (H1 : Heap) (locs1 : List Loc), post r u → va_P D cl (wr ++ wf u) H1 → va_D A (wr ++ wf u) → va_S A H0 H1 locs1 → W p l e R s m args below meth c H1 locs1 cells slots Q (F0 m (pc + 3) ls (.int r :: rest))) : W p l e R s m args below meth c H locs cells slots Q (F0 m pc ls st0) := by
  have hFc := va_free (wc := wc) hD hS hA isC hC
  refine va_calli (va_runV F hM cw ⟨ja_blW, hrc, fun U hU hw => ⟨rfl, by rw [hU], by rw [hU]; exact hPc, va_K.moved hw.alike hK, (hD.sub isC hnc hC).weaken (fun _ _ _ _ => trivial)⟩⟩ rfl hn hsize hstack (lv_room hW) hdg hf) hS (fun q _ h => hFc q h) hFc (fun r u t H1 locs1 ht hvm hw hB hz1 hk1 hS1 => ?_)
  obtain ⟨hP1, hD1⟩ := hB
  rw [ht] at hP1
  obtain ⟨hP2, hD2⟩ := va_join (wr := wr) (w1 := wf u) hP hD isC isR hC hR hnr hdis hk1 hFc hP1 hD1
  exact kk r u H1 locs1 hw hP2 hD2 hS1
/-- a method that writes, without an answer -/
theorem ja_cV {S : Type} {D : va_G} {cl : List vw_C} {w wc wr : va_W} {tys : List (ClassId × FieldType)} {A : Nat → Prop} {H0 : Heap} {post : S → Prop} {wf : S → va_W} (F : CallFix p m c bc nL s args Ts own)
    (hM : Met l y ws rm (ja_Pw D cl wc tys H.size (.ref b :: As)) (va_Qv post (ja_B D cl (va_A wc H.size) wf) (va_A wc H.size)) 0 0 (va_A wc H.size)) (cw : CallW R s args own C index y bytes maxL ret ws rm 0 0 n)
    (hK : va_K D cl tys s) (hP : va_P D cl w H) (hPc : va_P D cl wc H) (hD : va_D A w) (hS : va_S A H0 H locs) (hA : ∀ q, H0.size ≤ q → A q) (isC isR : List Nat) (hC : isC.map (fun i => w[i]?) = wc.map some) (hR : isR.map (fun i => w[i]?) = wr.map some) (hnc : va_nd isC = true) (hnr : va_nd isR = true) (hdis : ∀ i ∈ isR, i ∉ isC)
    (hrc : ∃ cellB : Cell, H[b]? = some cellB ∧ cellB.vm.isStatics = false ∧ s.vm.findClass C = some cellB.cls)
    (hn : As.length = n) (hsize : ls.size = nL) (hstack : st0 = As.reverse ++ .ref b :: rest) (hW : (rest.map fun v => v.category).sum ≤ 8) (hdg : decode bc pc = .ok (.invokevirtual index, 3)) (hf : cells ≤ R.cells ∧ slots ≤ R.slots)
    (kk : ∀ (u : S) (H1 : Heap) (locs1 : List Loc), post u → va_P D cl (wr ++ wf u) H1 → va_D A (wr ++ wf u) → va_S A H0 H1 locs1 → W p l e R s m args below meth c H1 locs1 cells slots Q (F0 m (pc + 3) ls rest)) : W p l e R s m args below meth c H locs cells slots Q (F0 m pc ls st0) := by
  have hFc := va_free (wc := wc) hD hS hA isC hC
  refine va_callv (va_runV F hM cw ⟨ja_blW, hrc, fun U hU hw => ⟨rfl, by rw [hU], by rw [hU]; exact hPc, va_K.moved hw.alike hK, (hD.sub isC hnc hC).weaken (fun _ _ _ _ => trivial)⟩⟩ rfl hn hsize hstack (lv_room hW) hdg hf) hS (fun q _ h => hFc q h) hFc (fun u t H1 locs1 ht hvm hw hB hz1 hk1 hS1 => ?_)
  obtain ⟨hP1, hD1⟩ := hB
  rw [ht] at hP1
  obtain ⟨hP2, hD2⟩ := va_join (wr := wr) (w1 := wf u) hP hD isC isR hC hR hnr hdis hk1 hFc hP1 hD1
  exact kk u H1 locs1 hw hP2 hD2 hS1
end JA
section JL
variable {p : Program} {l : Launch} {e : Env} {R : Room} {s : State} {m : MethodId} {args : Array Value} {below : List Frame} {meth : Method} {c : Code} {cells slots : Nat} {Q : State → Prop}
/-- from a start to any heap -/
theorem ja_st0 {D : va_G} {cl : List vw_C} {w : va_W} {A : Nat → Prop} {H0 : Heap} {g : JFrame} (H : Heap) (locs : List Loc) (hP : va_P D cl w H) (hS : va_S A H0 H locs) (k : ∀ (H : Heap) (locs : List Loc), va_P D cl w H → va_S A H0 H locs → W p l e R s m args below meth c H locs cells slots Q g) : W p l e R s m args below meth c H locs cells slots Q g := k H locs hP hS
/-- a loop that only reads -/
theorem ja_lpR {H : Heap} {locs : List Loc} {A1 : Type} (hd : Nat) (I : A1 → Array Slot → Prop) (μ : A1 → Nat)
    (step : ∀ (x : A1) (ls : Array Slot), I x ls → (∀ (y : A1) (ls' : Array Slot), I y ls' → μ y < μ x → W p l e R s m args below meth c H locs cells slots Q (F0 m hd ls' [])) → W p l e R s m args below meth c H locs cells slots Q (F0 m hd ls []))
    (x : A1) (ls : Array Slot) (h : I x ls) : W p l e R s m args below meth c H locs cells slots Q (F0 m hd ls []) := by
  have key : ∀ (n : Nat) (x : A1) (ls : Array Slot), μ x < n → I x ls → W p l e R s m args below meth c H locs cells slots Q (F0 m hd ls []) := by
    intro n
    induction n with
    | zero => intro x ls h; exact absurd h (Nat.not_lt_zero _)
    | succ n ih => intro x ls hn hI; exact step x ls hI (fun y ls' hy hlt => ih y ls' (Nat.lt_of_lt_of_le hlt (Nat.le_of_lt_succ hn)) hy)
  exact key (μ x + 1) x ls (Nat.lt_succ_self _) h
/-- a loop -/
theorem ja_lpW {A1 : Type} (hd : Nat) (I : A1 → Array Slot → Heap → List Loc → Prop) (μ : A1 → Nat)
    (step : ∀ (x : A1) (ls : Array Slot) (H : Heap) (locs : List Loc), I x ls H locs → (∀ (y : A1) (ls' : Array Slot) (H' : Heap) (locs' : List Loc), I y ls' H' locs' → μ y < μ x → W p l e R s m args below meth c H' locs' cells slots Q (F0 m hd ls' [])) → W p l e R s m args below meth c H locs cells slots Q (F0 m hd ls []))
    (x : A1) (ls : Array Slot) (H : Heap) (locs : List Loc) (h : I x ls H locs) : W p l e R s m args below meth c H locs cells slots Q (F0 m hd ls []) := by
  have key : ∀ (n : Nat) (x : A1) (ls : Array Slot) (H : Heap) (locs : List Loc), μ x < n → I x ls H locs → W p l e R s m args below meth c H locs cells slots Q (F0 m hd ls []) := by
    intro n
    induction n with
    | zero => intro x ls H locs h; exact absurd h (Nat.not_lt_zero _)
    | succ n ih => intro x ls H locs hn hI; exact step x ls H locs hI (fun y ls' H' locs' hy hlt => ih y ls' H' locs' (Nat.lt_of_lt_of_le hlt (Nat.le_of_lt_succ hn)) hy)
  exact key (μ x + 1) x ls H locs (Nat.lt_succ_self _) h
variable {H : Heap} {locs : List Loc} {bc : ByteArray} {pc : Nat} {ls : Array Slot} {rest : List Value} {D : va_G} {cl : List vw_C} {A : Nat → Prop} {a : Nat} {tys : List (ClassId × FieldType)} {ws : va_W} {H0 : Heap}
/-- an element at a small index -/
theorem ja_ald (hexec : p.tables.exec = Jvm.exec) (hb : c.code = bc) (hK : va_K D cl tys s) (hP : va_P D cl ws H) (q0 t0 : Nat) {cA : ClassId} {n : Nat} {f : Nat → Int32} (ha : ws[q0]? = some (a, .inl (cA, n, .inl f))) (ht : tys[t0]? = some (cA, .int)) {k : Nat} (hk : k < n) (hn : n < 2 ^ 31) (hdg : decode bc pc = .ok (.iaload, 1))
    (kk : W p l e R s m args below meth c H locs cells slots Q (F0 m (pc + 1) ls (.int (f k) :: rest))) : W p l e R s m args below meth c H locs cells slots Q (F0 m pc ls (.int (nI k) :: .ref a :: rest)) := by
  refine va_iald hexec hb hK hP q0 t0 ha ht (vp_in_nI hk hn) hdg ?_
  rw [nI_clamp (by omega)]
  exact kk
theorem ja_ast (hexec : p.tables.exec = Jvm.exec) (hb : c.code = bc) (hK : va_K D cl tys s) (hP : va_P D cl ws H) (hD : va_D A ws) (hS : va_S A H0 H locs) (q0 t0 : Nat) {cA : ClassId} {n : Nat} {f : Nat → Int32} (ha : ws[q0]? = some (a, .inl (cA, n, .inl f))) (ht : tys[t0]? = some (cA, .int)) {k : Nat} {x : Int32} (hk : k < n) (hn : n < 2 ^ 31) (hdg : decode bc pc = .ok (.iastore, 1))
    (kk : ∀ (H1 : Heap) (locs1 : List Loc), va_P D cl (ws.set q0 (a, .inl (cA, n, .inl (upd f k x)))) H1 → va_D A (ws.set q0 (a, .inl (cA, n, .inl (upd f k x)))) → va_S A H0 H1 locs1 → W p l e R s m args below meth c H1 locs1 cells slots Q (F0 m (pc + 1) ls rest)) : W p l e R s m args below meth c H locs cells slots Q (F0 m pc ls (.int x :: .int (nI k) :: .ref a :: rest)) := by
  refine va_iast hexec hb hK hP hD hS q0 t0 ha ht (vp_in_nI hk hn) hdg ?_
  rw [nI_clamp (show k < 2 ^ 31 by omega)]
  exact kk
theorem ja_sld (hexec : p.tables.exec = Jvm.exec) (hb : c.code = bc) {b L : Nat} {xs : Nat → Int32} (hX : va_X b L xs s H0) (hbl : b < H0.size) (hbA : ¬ A b) (hS : va_S A H0 H locs) {k : Nat} (hk : k < L) (hn : L < 2 ^ 31) (hdg : decode bc pc = .ok (.iaload, 1))
    (kk : W p l e R s m args below meth c H locs cells slots Q (F0 m (pc + 1) ls (.int (xs k) :: rest))) : W p l e R s m args below meth c H locs cells slots Q (F0 m pc ls (.int (nI k) :: .ref b :: rest)) := by
  refine va_sld hexec hb hX hbl hbA hS (vp_in_nI hk hn) hdg ?_
  rw [nI_clamp (by omega)]
  exact kk
end JL
theorem ja_K2 {c0 c1 : ClassId} {i0 i1 : Nat → Nat} {cl : List vw_C} {q0 q1 : vw_C} {s : State} (h0 : cl[0]? = some q0) (h1 : cl[1]? = some q1) (h2 : cl.length = 2) (k0 : u_Kn s q0.1 q0.2.1 q0.2.2 c0 i0) (k1 : u_Kn s q1.1 q1.2.1 q1.2.2 c1 i1) :
    va_K ((fun k : Nat => if k = 0 then c0 else c1), (fun k : Nat => if k = 0 then i0 else i1)) cl [] s := by
  refine ⟨fun c q hq => ?_, fun k q h => by simp at h⟩
  have hl : c < 2 := by rw [← h2]; exact (List.getElem?_eq_some_iff.mp hq).1
  rcases (show c = 0 ∨ c = 1 by omega) with rfl | rfl
  · rw [h0] at hq
    cases hq
    exact k0
  · rw [h1] at hq
    cases hq
    exact k1
theorem ja_law_in {i L : Nat} (hL : L ≤ 1536) (hi : i ≤ 1536) (h : ¬ nI L - nI 3 < nI i) : i + 3 ≤ L := by
  rw [Int32.lt_iff_toInt_lt, pk_sub_toInt (by omega) (by decide), nI_toInt (by omega)] at h
  omega
end
section
/-! The words of the state: pure functions that the loops of both sides compute -/
theorem ja_inc1 (a : Nat) : nI a + Int32.ofInt 1 = nI (a + 1) := by
  rw [show Int32.ofInt 1 = 1 by decide +kernel]; exact nI_1 a
theorem ja_inc3 (a : Nat) : nI a + Int32.ofInt 3 = nI (a + 3) := by
  rw [show Int32.ofInt 3 = nI 3 by decide +kernel]; exact nI_add a 3
theorem ja_dec (a : Nat) : nI a + Int32.ofInt (-1) = nI a - 1 := by
  rw [show Int32.ofInt (-1) = -1 by decide +kernel, Int32.sub_eq_add_neg]
theorem ja_in {x : Int32} (h0 : ¬ x < 0) (h1 : ¬ nI 212 ≤ x) : vp_in x 212 := by
  rcases pk_ix x (n := 212) (by decide) with h | h | ⟨j, hj, rfl⟩
  · exact absurd h h0
  · exact absurd h h1
  · exact vp_in_nI hj (by decide)
theorem ja_out {x : Int32} (h1 : nI 212 ≤ x) : ¬ vp_in x 212 := by
  intro h
  obtain ⟨j, hj, rfl⟩ := vp_in_of h (by decide)
  exact absurd ((nI_leI (by decide) (by omega)).mp h1) (by omega)
theorem ja_neg {x : Int32} (h1 : x < 0) : ¬ vp_in x 212 := fun h => h (Or.inl h1)
theorem ja_inL {x : Int32} (h0 : ¬ x < 0) (h1 : x < nI 212) : vp_in x 212 := ja_in h0 (fun h => absurd h (Int32.not_le.mpr h1))
/-- the first n entries (slot, value) laid over f -/
def ja_ap (sl vl f : Nat → Int32) : Nat → (Nat → Int32)
  | 0 => f
  | n + 1 => upd (ja_ap sl vl f n) (sl n).toNatClampNeg (vl n)
/-- the first n of g put into f from place c on -/
def ja_pt (f g : Nat → Int32) (c : Nat) : Nat → (Nat → Int32)
  | 0 => f
  | n + 1 => upd (ja_pt f g c n) (c + n) (g n)
/-- the first n of f over g -/
def ja_cp (f g : Nat → Int32) (n : Nat) : Nat → Int32 := fun j => if j < n then f j else g j
theorem ja_cp_0 (f g : Nat → Int32) : ja_cp f g 0 = g := by
  funext j; unfold ja_cp; rw [if_neg (Nat.not_lt_zero j)]
theorem ja_cp_s (f g : Nat → Int32) (n : Nat) : upd (ja_cp f g n) n (f n) = ja_cp f g (n + 1) := by
  funext j
  unfold upd ja_cp
  by_cases h : j = n
  · subst h; rw [if_pos rfl, if_pos (Nat.lt_succ_self _)]
  · rw [if_neg h]
    by_cases h2 : j < n
    · rw [if_pos h2, if_pos (by omega)]
    · rw [if_neg h2, if_neg (by omega)]
/-- the bit of a block -/
def ja_bt (mask blk : Int32) : Int32 := (mask >>> ((blk - blk / nI 31 * nI 31) &&& 31)) &&& nI 1
theorem ja_bt_or (mask blk : Int32) : ja_bt mask blk = 0 ∨ ja_bt mask blk = nI 1 := by
  unfold ja_bt
  obtain ⟨j, hj, h⟩ := pk_andE (mask >>> ((blk - blk / nI 31 * nI 31) &&& 31)) (m := nI 1) 1 (by decide +kernel)
  rw [h]
  have : j = 0 ∨ j = 1 := by omega
  rcases this with rfl | rfl
  · exact Or.inl nI_0
  · exact Or.inr rfl
theorem ja_n10 : ¬ nI 1 = 0 := by decide +kernel
theorem ja_bt_0 {mask blk : Int32} (h : ¬ ja_bt mask blk = nI 1) : ja_bt mask blk = 0 := (ja_bt_or mask blk).elim id (fun q => absurd q h)
theorem ja_bt_1 {mask blk : Int32} (h : ¬ ja_bt mask blk = 0) : ja_bt mask blk = nI 1 := (ja_bt_or mask blk).elim (fun q => absurd q h) id
/-- how many places below n have q -/
def ja_ct (q : Nat → Bool) : Nat → Nat
  | 0 => 0
  | n + 1 => if q n = true then ja_ct q n + 1 else ja_ct q n
theorem ja_ct_t {q : Nat → Bool} {n : Nat} (h : q n = true) : ja_ct q (n + 1) = ja_ct q n + 1 := by
  show (if q n = true then ja_ct q n + 1 else ja_ct q n) = _
  rw [if_pos h]
theorem ja_ct_f {q : Nat → Bool} {n : Nat} (h : q n = false) : ja_ct q (n + 1) = ja_ct q n := by
  show (if q n = true then ja_ct q n + 1 else ja_ct q n) = _
  rw [if_neg (by rw [h]; decide)]
def ja_b (q : Bool) : Int32 := if q = true then nI 1 else nI 0
theorem ja_b_0 {q : Bool} (h : ja_b q = 0) : q = false := by
  cases q with
  | false => rfl
  | true => exact absurd h ja_n10
theorem ja_b_1 {q : Bool} (h : ¬ ja_b q = 0) : q = true := by
  cases q with
  | false => exact absurd nI_0 h
  | true => rfl
/-- no place below i has what k has -/
def ja_fs (f : Nat → Int32) (k : Nat) : Nat → Bool
  | 0 => true
  | i + 1 => if f i = f k then false else ja_fs f k i
theorem ja_bfs_e {f : Nat → Int32} {k i : Nat} (h : f i = f k) : ja_b (ja_fs f k (i + 1)) = nI 0 := by
  show ja_b (if f i = f k then false else ja_fs f k i) = _
  rw [if_pos h]; rfl
theorem ja_bfs_n {f : Nat → Int32} {k i : Nat} (h : ¬ f i = f k) : ja_b (ja_fs f k (i + 1)) = ja_b (ja_fs f k i) := by
  show ja_b (if f i = f k then false else ja_fs f k i) = _
  rw [if_neg h]
/-- no place behind i, below n, has what i has -/
def ja_ls (f : Nat → Int32) (n i : Nat) : Bool := decide (∀ j, j < n → i < j → f j ≠ f i)
theorem ja_ls_t {f : Nat → Int32} {n i : Nat} (h : ∀ j, i < j → j < n → f j ≠ f i) : ja_ls f n i = true := decide_eq_true (fun j h1 h2 => h j h2 h1)
theorem ja_ls_f {f : Nat → Int32} {n i : Nat} (h : ∃ j, i < j ∧ j < n ∧ f j = f i) : ja_ls f n i = false := decide_eq_false (fun q => by
  obtain ⟨j, h1, h2, h3⟩ := h
  exact q j h2 h1 h3)
/-- all blocks below k stand (z: those that don't) -/
def ja_sd (z : Nat → Bool) : Nat → Bool
  | 0 => true
  | k + 1 => if z k = true then false else ja_sd z k
theorem ja_bsd_z {z : Nat → Bool} {k : Nat} (h : z k = true) : ja_sd z (k + 1) = false := by
  show (if z k = true then false else ja_sd z k) = _
  rw [if_pos h]
theorem ja_bsd_n {z : Nat → Bool} {k : Nat} (h : z k = false) : ja_sd z (k + 1) = ja_sd z k := by
  show (if z k = true then false else ja_sd z k) = _
  rw [if_neg (by rw [h]; decide)]
def ja_mk (la : Nat → Int32) (k : Nat) : Bool := decide (la k = nI 1)
def ja_wh (z : Nat → Bool) (la : Nat → Int32) : Nat → Nat
  | 0 => 0
  | k + 1 => if ja_sd z (k + 1) = true ∧ la k = nI 1 then k + 1 else ja_wh z la k
def ja_kp (z : Nat → Bool) (la : Nat → Int32) : Nat → Nat
  | 0 => 0
  | k + 1 => if ja_sd z (k + 1) = true ∧ la k = nI 1 then ja_kp z la k + 1 else ja_kp z la k
theorem ja_wh_t {z : Nat → Bool} {la : Nat → Int32} {k : Nat} (h : ja_sd z (k + 1) = true) (h2 : la k = nI 1) : ja_wh z la (k + 1) = k + 1 := by
  show (if ja_sd z (k + 1) = true ∧ la k = nI 1 then k + 1 else ja_wh z la k) = _
  rw [if_pos ⟨h, h2⟩]
theorem ja_wh_f {z : Nat → Bool} {la : Nat → Int32} {k : Nat} (h : ¬ (ja_sd z (k + 1) = true ∧ la k = nI 1)) : ja_wh z la (k + 1) = ja_wh z la k := by
  show (if ja_sd z (k + 1) = true ∧ la k = nI 1 then k + 1 else ja_wh z la k) = _
  rw [if_neg h]
theorem ja_kp_t {z : Nat → Bool} {la : Nat → Int32} {k : Nat} (h : ja_sd z (k + 1) = true) (h2 : la k = nI 1) : ja_kp z la (k + 1) = ja_kp z la k + 1 := by
  show (if ja_sd z (k + 1) = true ∧ la k = nI 1 then ja_kp z la k + 1 else ja_kp z la k) = _
  rw [if_pos ⟨h, h2⟩]
theorem ja_kp_f {z : Nat → Bool} {la : Nat → Int32} {k : Nat} (h : ¬ (ja_sd z (k + 1) = true ∧ la k = nI 1)) : ja_kp z la (k + 1) = ja_kp z la k := by
  show (if ja_sd z (k + 1) = true ∧ la k = nI 1 then ja_kp z la k + 1 else ja_kp z la k) = _
  rw [if_neg h]
theorem ja_wh_le (z : Nat → Bool) (la : Nat → Int32) : ∀ k, ja_wh z la k ≤ k
  | 0 => Nat.le_refl 0
  | k + 1 => by
    have ih := ja_wh_le z la k
    by_cases h : ja_sd z (k + 1) = true ∧ la k = nI 1
    · rw [ja_wh_t h.1 h.2]; exact Nat.le_refl _
    · rw [ja_wh_f h]; omega
/-- block k of the reference's journal doesn't stand -/
def ja_z (mask hm : Int32) (k : Nat) : Bool := decide (ja_bt mask (hm + nI k) = 0)
theorem ja_z_t {mask hm : Int32} {k : Nat} (h : ja_bt mask (hm + nI k) = 0) : ja_z mask hm k = true := decide_eq_true h
theorem ja_z_f {mask hm : Int32} {k : Nat} (h : ¬ ja_bt mask (hm + nI k) = 0) : ja_z mask hm k = false := decide_eq_false h
/-- the mark of a deed's k-th change, of n -/
def ja_lm (n k : Nat) : Int32 := if k + 1 = n then nI 1 else nI 0
theorem ja_lm_t {n k : Nat} (h : k + 1 = n) : nI 1 = ja_lm n k := by unfold ja_lm; rw [if_pos h]
theorem ja_lm_f {n k : Nat} (h : ¬ k + 1 = n) : nI 0 = ja_lm n k := by unfold ja_lm; rw [if_neg h]
/-- the longest run of entries of deeds below dd -/
def ja_run (jd : Nat → Int32) (cc : Nat) (dd : Int32) (n : Nat) : Prop := n ≤ cc ∧ (∀ i, i < n → jd i < dd) ∧ (n < cc → ¬ jd n < dd)
/-- the deeds that stand whole -/
def ja_wd (jd : Nat → Int32) (cc : Nat) (fb jn mask r : Int32) : Prop := (∃ i, i < cc ∧ (∀ j, j < i → ja_bt mask (fb + nI j) = nI 1) ∧ ¬ ja_bt mask (fb + nI i) = nI 1 ∧ r = jd i) ∨ ((∀ j, j < cc → ja_bt mask (fb + nI j) = nI 1) ∧ r = jn)
/-- the state of X: safe values, journal (slots, values, deeds), committed, begun, safe deeds, journal deeds, flush blocks, flushes, crashes -/
abbrev ja_SX : Type := (Nat → Int32) × (Nat → Int32) × (Nat → Int32) × (Nat → Int32) × Nat × Nat × Int32 × Int32 × Int32 × Int32 × Int32
/-- the reference's state: flushed, now, slots, values, marks, own slots, own values, changes, homes, own, deeds, since, flushes, crashes -/
abbrev ja_SM : Type := (Nat → Int32) × (Nat → Int32) × (Nat → Int32) × (Nat → Int32) × (Nat → Int32) × (Nat → Int32) × (Nat → Int32) × Nat × Int32 × Nat × Int32 × Int32 × Int32 × Int32
theorem ja_pneg {k : Nat} (hk : k ≤ 24) (h : nI k - 1 < 0) : k = 0 := by
  cases k with
  | zero => rfl
  | succ j => rw [nI_pred] at h; exact absurd h (nI_pos (by omega))
theorem ja_ppos {k : Nat} (hk : k ≤ 24) (h : ¬ nI k - 1 < 0) : ∃ j, k = j + 1 := by
  cases k with
  | zero => exact absurd (by decide +kernel) h
  | succ j => exact ⟨j, rfl⟩
/-- the answer of count -/
def ja_sel (w a b c d f g : Int32) : Int32 := if w = nI 0 then a else if w = nI 1 then b else if w = nI 2 then c else if w = nI 3 then d else if w = nI 4 then f else if w = nI 5 then g else -1
theorem ja_sel0 {a b c d f g : Int32} : ja_sel (nI 0) a b c d f g = a := by
  unfold ja_sel; rw [if_pos rfl]
theorem ja_sel1 {a b c d f g : Int32} : ja_sel (nI 1) a b c d f g = b := by
  unfold ja_sel; rw [if_neg (by decide +kernel), if_pos rfl]
theorem ja_sel2 {a b c d f g : Int32} : ja_sel (nI 2) a b c d f g = c := by
  unfold ja_sel; rw [if_neg (by decide +kernel), if_neg (by decide +kernel), if_pos rfl]
theorem ja_sel3 {a b c d f g : Int32} : ja_sel (nI 3) a b c d f g = d := by
  unfold ja_sel; rw [if_neg (by decide +kernel), if_neg (by decide +kernel), if_neg (by decide +kernel), if_pos rfl]
theorem ja_sel4 {a b c d f g : Int32} : ja_sel (nI 4) a b c d f g = f := by
  unfold ja_sel; rw [if_neg (by decide +kernel), if_neg (by decide +kernel), if_neg (by decide +kernel), if_neg (by decide +kernel), if_pos rfl]
theorem ja_sel5 {a b c d f g : Int32} : ja_sel (nI 5) a b c d f g = g := by
  unfold ja_sel; rw [if_neg (by decide +kernel), if_neg (by decide +kernel), if_neg (by decide +kernel), if_neg (by decide +kernel), if_neg (by decide +kernel), if_pos rfl]
theorem ja_selD {w a b c d f g : Int32} (h : w < 0 ∨ nI 6 ≤ w) : ja_sel w a b c d f g = -1 := by
  have key : ∀ k, k < 6 → ¬ w = nI k := by
    intro k hk e
    subst e
    rcases h with h | h
    · exact absurd h (nI_pos (by omega))
    · exact absurd ((nI_leI (by decide) (by omega)).mp h) (by omega)
  unfold ja_sel
  rw [if_neg (key 0 (by decide)), if_neg (key 1 (by decide)), if_neg (key 2 (by decide)), if_neg (key 3 (by decide)), if_neg (key 4 (by decide)), if_neg (key 5 (by decide))]
end
section
abbrev ja_wX (h a1 a2 a3 a4 : Nat) (cA : ClassId) (sv js jv jd : Nat → Int32) (cc : Nat) (oc : Nat) (sd : Int32) (jn : Int32) (fb : Int32) (fl : Int32) (cr : Int32) : va_W := [(h, .inr (0, [.ref a1, .ref a2, .ref a3, .ref a4, .int (nI cc), .int (nI oc), .int sd, .int jn, .int fb, .int fl, .int cr])), (a1, .inl (cA, 212, .inl sv)), (a2, .inl (cA, 24, .inl js)), (a3, .inl (cA, 24, .inl jv)), (a4, .inl (cA, 24, .inl jd))]
abbrev ja_uX (h a1 a2 a3 a4 : Nat) (cA : ClassId) (u : ja_SX) : va_W := ja_wX h a1 a2 a3 a4 cA u.1 u.2.1 u.2.2.1 u.2.2.2.1 u.2.2.2.2.1 u.2.2.2.2.2.1 u.2.2.2.2.2.2.1 u.2.2.2.2.2.2.2.1 u.2.2.2.2.2.2.2.2.1 u.2.2.2.2.2.2.2.2.2.1 u.2.2.2.2.2.2.2.2.2.2
abbrev ja_wM (h a1 a2 a3 a4 a5 a6 a7 : Nat) (cA : ClassId) (fd nw sl vl la os ov : Nat → Int32) (ch : Nat) (hm : Int32) (ow : Nat) (de : Int32) (si : Int32) (fl : Int32) (cr : Int32) : va_W := [(h, .inr (1, [.ref a1, .ref a2, .ref a3, .ref a4, .ref a5, .int (nI ch), .int hm, .ref a6, .ref a7, .int (nI ow), .int de, .int si, .int fl, .int cr])), (a1, .inl (cA, 212, .inl fd)), (a2, .inl (cA, 212, .inl nw)), (a3, .inl (cA, 24, .inl sl)), (a4, .inl (cA, 24, .inl vl)), (a5, .inl (cA, 24, .inl la)), (a6, .inl (cA, 17, .inl os)), (a7, .inl (cA, 17, .inl ov))]
abbrev ja_uM (h a1 a2 a3 a4 a5 a6 a7 : Nat) (cA : ClassId) (u : ja_SM) : va_W := ja_wM h a1 a2 a3 a4 a5 a6 a7 cA u.1 u.2.1 u.2.2.1 u.2.2.2.1 u.2.2.2.2.1 u.2.2.2.2.2.1 u.2.2.2.2.2.2.1 u.2.2.2.2.2.2.2.1 u.2.2.2.2.2.2.2.2.1 u.2.2.2.2.2.2.2.2.2.1 u.2.2.2.2.2.2.2.2.2.2.1 u.2.2.2.2.2.2.2.2.2.2.2.1 u.2.2.2.2.2.2.2.2.2.2.2.2.1 u.2.2.2.2.2.2.2.2.2.2.2.2.2
end
section
set_option maxHeartbeats 1000000 in
set_option maxRecDepth 100000 in
/-- is it one of the 212 slots -/
theorem cX_isSlot (l : Launch) (x : Int32) : Met l yX0_isSlot wsX0_isSlot ({ frames := 0, cells := 0, slots := 0, locals := 0 }) (va_Pc [.int x] (fun _ => True)) (vp_Si (fun r => (r = nI 1 ∧ vp_in x 212) ∨ (r = nI 0 ∧ ¬ vp_in x 212))) 0 0 (fun _ => False) := by
  refine Met.ofW (cc := cX0_isSlot) (maxL := 1) (ret := (some .boolean)) (by decide) rfl ?_
  intro p e s m args below meth c s₁ B hml hv
  obtain ⟨rfl, -⟩ := hv
  have hx := B.exec
  have hb := B.bytes
  have hr := B.returns
  have hts := atoms_spec (ws := wsX0_isSlot) B.pre
  have hown : s.vm.findClass RX0 = some m.cls := findClass_of_methodNamed B.named
  have hlocks := B.notSynchronized
  have hl := lv_entry ([.int x]) (n := 1) (Nat.le_of_ble_eq_true rfl)
  rw [lg_entry_eq]
  generalize (lg_sl ([.int x]) ++ List.replicate (1 - (lg_sl ([.int x])).length) Slot.unset).toArray = ls at hl ⊢
  have hl : lv_has ls 1 [(0, .int x)] := hl
  refine lv_iload_n hx hb dX0_isSlot_0 rfl (lv_at hl 0 rfl) ?_
  refine lv_if_lt hx hb dX0_isSlot_1 (tgt := 15) (by decide) (fun h1 => ?_) (fun h1 => ?_)
  · refine lv_iconst (v := nI 0) hx hb dX0_isSlot_15 (by decide +kernel) ?_
    exact W.zret (ty := .boolean) (v := nI 0) hx hb hr rfl (fun t ht hW => ⟨_, rfl, Or.inr ⟨rfl, ja_neg h1⟩, ht⟩) (fun q h => by cases h) dX0_isSlot_16
  · have hA0 := h1
    refine lv_iload_n hx hb dX0_isSlot_4 rfl (lv_at hl 0 rfl) ?_
    refine lv_sipush (v := nI 212) hx hb dX0_isSlot_5 (by decide +kernel) ?_
    refine lv_icmp_ge hx hb dX0_isSlot_8 (tgt := 15) (by decide) (fun h8 => ?_) (fun h8 => ?_)
    · refine lv_iconst (v := nI 0) hx hb dX0_isSlot_15 (by decide +kernel) ?_
      exact W.zret (ty := .boolean) (v := nI 0) hx hb hr rfl (fun t ht hW => ⟨_, rfl, Or.inr ⟨rfl, ja_out h8⟩, ht⟩) (fun q h => by cases h) dX0_isSlot_16
    · refine lv_iconst (v := nI 1) hx hb dX0_isSlot_11 (by decide +kernel) ?_
      refine lv_goto (tgt := 16) hx hb dX0_isSlot_12 (by decide) ?_
      exact W.zret (ty := .boolean) (v := nI 1) hx hb hr rfl (fun t ht hW => ⟨_, rfl, Or.inl ⟨rfl, ja_in hA0 h8⟩, ht⟩) (fun q h => by cases h) dX0_isSlot_16
set_option maxHeartbeats 1000000 in
set_option maxRecDepth 100000 in
/-- the bit of a block is 1 -/
theorem cX_blockStands (l : Launch) (blk mask : Int32) : Met l yX0_blockStands wsX0_blockStands ({ frames := 0, cells := 0, slots := 0, locals := 0 }) (va_Pc [.int blk, .int mask] (fun _ => True)) (vp_Si (fun r => (r = nI 1 ∧ ja_bt mask blk = nI 1) ∨ (r = nI 0 ∧ ¬ ja_bt mask blk = nI 1))) 0 0 (fun _ => False) := by
  refine Met.ofW (cc := cX0_blockStands) (maxL := 2) (ret := (some .boolean)) (by decide) rfl ?_
  intro p e s m args below meth c s₁ B hml hv
  obtain ⟨rfl, -⟩ := hv
  have hx := B.exec
  have hb := B.bytes
  have hr := B.returns
  have hts := atoms_spec (ws := wsX0_blockStands) B.pre
  have hown : s.vm.findClass RX0 = some m.cls := findClass_of_methodNamed B.named
  have hlocks := B.notSynchronized
  have hl := lv_entry ([.int blk, .int mask]) (n := 2) (Nat.le_of_ble_eq_true rfl)
  rw [lg_entry_eq]
  generalize (lg_sl ([.int blk, .int mask]) ++ List.replicate (2 - (lg_sl ([.int blk, .int mask])).length) Slot.unset).toArray = ls at hl ⊢
  have hl : lv_has ls 2 [(0, .int blk), (1, .int mask)] := hl
  refine lv_iload_n hx hb dX0_blockStands_0 rfl (lv_at hl 1 rfl) ?_
  refine lv_iload_n hx hb dX0_blockStands_1 rfl (lv_at hl 0 rfl) ?_
  refine lv_bipush (v := nI 31) hx hb dX0_blockStands_2 (by decide +kernel) ?_
  refine lv_irem hx hb dX0_blockStands_4 (by decide +kernel) ?_
  refine lv_ishr hx hb dX0_blockStands_5 ?_
  refine lv_iconst (v := nI 1) hx hb dX0_blockStands_6 (by decide +kernel) ?_
  refine lv_iand hx hb dX0_blockStands_7 ?_
  refine lv_iconst (v := nI 1) hx hb dX0_blockStands_8 (by decide +kernel) ?_
  refine lv_icmp_ne hx hb dX0_blockStands_9 (tgt := 16) (by decide) (fun h9 => ?_) (fun h9 => ?_)
  · refine lv_iconst (v := nI 0) hx hb dX0_blockStands_16 (by decide +kernel) ?_
    exact W.zret (ty := .boolean) (v := nI 0) hx hb hr rfl (fun t ht hW => ⟨_, rfl, Or.inr ⟨rfl, h9⟩, ht⟩) (fun q h => by cases h) dX0_blockStands_17
  · refine lv_iconst (v := nI 1) hx hb dX0_blockStands_12 (by decide +kernel) ?_
    refine lv_goto (tgt := 17) hx hb dX0_blockStands_13 (by decide) ?_
    exact W.zret (ty := .boolean) (v := nI 1) hx hb hr rfl (fun t ht hW => ⟨_, rfl, Or.inl ⟨rfl, h9⟩, ht⟩) (fun q h => by cases h) dX0_blockStands_17
set_option maxHeartbeats 1000000 in
set_option maxRecDepth 100000 in
/-- no later committed change of its slot -/
theorem cX_isLastOfItsSlot (l : Launch) (dC : Nat → ClassId) (dI : Nat → Nat → Nat) (h a1 a2 a3 a4 : Nat) (cA : ClassId) (sv js jv jd : Nat → Int32) (cc : Nat) (oc : Nat) (sd : Int32) (jn : Int32) (fb : Int32) (fl : Int32) (cr : Int32) (ct : Nat) (hcc : cc ≤ 24) (hct : ct < cc) : Met l yX0_isLastOfItsSlot wsX0_isLastOfItsSlot ({ frames := 0, cells := 0, slots := 0, locals := 0 }) (ja_Pr (dC, dI) vwCl (ja_wX h a1 a2 a3 a4 cA sv js jv jd cc oc sd jn fb fl cr) [(cA, .int)] [.ref h, .int (nI ct)]) (vp_Si (fun r => (r = nI 1 ∧ ∀ j, ct < j → j < cc → js j ≠ js ct) ∨ (r = nI 0 ∧ ∃ j, ct < j ∧ j < cc ∧ js j = js ct))) 0 0 (fun _ => False) := by
  refine Met.ofW (cc := cX0_isLastOfItsSlot) (maxL := 3) (ret := (some .boolean)) (by decide) rfl ?_
  intro p e s m args below meth c s₁ B hml hv
  obtain ⟨rfl, hP, hK⟩ := hv
  have hx := B.exec
  have hb := B.bytes
  have hr := B.returns
  have hts := atoms_spec (ws := wsX0_isLastOfItsSlot) B.pre
  have hown : s.vm.findClass RX0 = some m.cls := findClass_of_methodNamed B.named
  have hlocks := B.notSynchronized
  have hin : ∀ w ∈ u_ws RX0 TX0 11, w ∈ wsX0_isLastOfItsSlot := by decide +kernel
  have fk13 := hts (.fieldLink RX0 13 "JournalShelf" "journalSlot" "[I") (by decide +kernel)
  have fk30 := hts (.fieldLink RX0 30 "JournalShelf" "committedChanges" "I") (by decide +kernel)
  have hl := lv_entry ([.ref h, .int (nI ct)]) (n := 3) (Nat.le_of_ble_eq_true rfl)
  rw [lg_entry_eq]
  generalize (lg_sl ([.ref h, .int (nI ct)]) ++ List.replicate (3 - (lg_sl ([.ref h, .int (nI ct)])).length) Slot.unset).toArray = ls at hl ⊢
  have hl : lv_has ls 3 [(0, .ref h), (1, .int (nI ct))] := hl
  refine lv_iload_n hx hb dX0_isLastOfItsSlot_0 rfl (lv_at hl 1 rfl) ?_
  refine lv_iconst (v := nI 1) hx hb dX0_isLastOfItsSlot_1 (by decide +kernel) ?_
  refine lv_iadd hx hb dX0_isLastOfItsSlot_2 ?_
  refine ja_top (y := nI (ct + 1)) (nI_add _ _) ?_
  refine lv_istore_n (lv' := [(2, .int (nI (ct + 1))), (0, .ref h), (1, .int (nI ct))]) hx hb dX0_isLastOfItsSlot_3 rfl hl (by decide) rfl (fun ls hl => ?_)
  refine ja_lpR 4 (fun (i : Nat) ls => lv_has ls 3 [(2, .int (nI i)), (0, .ref h), (1, .int (nI ct))] ∧ i ≤ cc ∧ ct < i ∧ (∀ j, ct < j → j < i → js j ≠ js ct)) (fun i => cc - (i)) ?_ (ct + 1) ls ⟨lv_sub hl [0, 1, 2] rfl, hct, Nat.lt_succ_self _, (fun j h1 h2 => absurd h1 (by omega))⟩
  intro i ls hI ih0
  obtain ⟨hl, hi, hj, hq⟩ := hI
  have hl : lv_has ls 3 [(2, .int (nI i)), (0, .ref h), (1, .int (nI ct))] := hl
  refine lv_iload_n hx hb dX0_isLastOfItsSlot_4 rfl (lv_at hl 0 rfl) ?_
  refine lv_aload_n hx hb dX0_isLastOfItsSlot_5 rfl (lv_at hl 1 rfl) ?_
  refine va_get (D := (dC, dI)) (ci := 0) (v := .int (nI cc)) (C := RX0) (T := TX0) (N := 11) hx hb hts hin hown hK hP 0 rfl rfl 4 (by decide) fk30 (fun _ h9 => h9) rfl dX0_isLastOfItsSlot_6 ?_
  refine ja_ige hx hb dX0_isLastOfItsSlot_9 (tgt := 35) (by decide) (by omega) (by omega) (fun h9 => ?_) (fun h9 => ?_)
  · refine lv_iconst (v := nI 1) hx hb dX0_isLastOfItsSlot_35 (by decide +kernel) ?_
    exact W.zret (ty := .boolean) (v := nI 1) hx hb hr rfl (fun t ht hW => ⟨_, rfl, Or.inl ⟨rfl, fun j h1 h2 => hq j h1 (by omega)⟩, ht⟩) (fun q h => by cases h) dX0_isLastOfItsSlot_36
  · refine lv_aload_n hx hb dX0_isLastOfItsSlot_12 rfl (lv_at hl 1 rfl) ?_
    refine va_get (D := (dC, dI)) (ci := 0) (v := .ref a2) (C := RX0) (T := TX0) (N := 11) hx hb hts hin hown hK hP 0 rfl rfl 1 (by decide) fk13 (fun _ h9 => h9) rfl dX0_isLastOfItsSlot_13 ?_
    refine lv_iload_n hx hb dX0_isLastOfItsSlot_16 rfl (lv_at hl 0 rfl) ?_
    refine ja_ald hx hb hK hP 2 0 rfl rfl (by omega) (by decide) dX0_isLastOfItsSlot_17 ?_
    refine lv_aload_n hx hb dX0_isLastOfItsSlot_18 rfl (lv_at hl 1 rfl) ?_
    refine va_get (D := (dC, dI)) (ci := 0) (v := .ref a2) (C := RX0) (T := TX0) (N := 11) hx hb hts hin hown hK hP 0 rfl rfl 1 (by decide) fk13 (fun _ h9 => h9) rfl dX0_isLastOfItsSlot_19 ?_
    refine lv_iload_n hx hb dX0_isLastOfItsSlot_22 rfl (lv_at hl 2 rfl) ?_
    refine ja_ald hx hb hK hP 2 0 rfl rfl (by omega) (by decide) dX0_isLastOfItsSlot_23 ?_
    refine lv_icmp_ne hx hb dX0_isLastOfItsSlot_24 (tgt := 29) (by decide) (fun h24 => ?_) (fun h24 => ?_)
    · have hne := h24
      -- iinc
      refine lv_iinc (k := 0) (v := nI (i + 1)) (lv' := [(2, .int (nI (i + 1))), (0, .ref h), (1, .int (nI ct))]) hx hb dX0_isLastOfItsSlot_29 hl rfl (ja_inc1 _) (by decide) rfl (fun ls hl => ?_)
      refine lv_goto (tgt := 4) hx hb dX0_isLastOfItsSlot_32 (by decide) ?_
      exact ih0 (i + 1) ls ⟨lv_sub hl [0, 1, 2] rfl, (by omega), (by omega), (fun j h1 h2 => by rcases Nat.lt_succ_iff_lt_or_eq.mp h2 with h3 | h3; exact hq j h1 h3; rw [h3]; exact hne)⟩ (show cc - (i + 1) < cc - (i) by omega)
    · refine lv_iconst (v := nI 0) hx hb dX0_isLastOfItsSlot_27 (by decide +kernel) ?_
      exact W.zret (ty := .boolean) (v := nI 0) hx hb hr rfl (fun t ht hW => ⟨_, rfl, Or.inr ⟨rfl, i, hj, by omega, h24⟩, ht⟩) (fun q h => by cases h) dX0_isLastOfItsSlot_28
set_option maxHeartbeats 1000000 in
set_option maxRecDepth 100000 in
/-- how many slots the committed changes touch -/
theorem cX_changedSlots (l : Launch) (dC : Nat → ClassId) (dI : Nat → Nat → Nat) (h a1 a2 a3 a4 : Nat) (cA : ClassId) (sv js jv jd : Nat → Int32) (cc : Nat) (oc : Nat) (sd : Int32) (jn : Int32) (fb : Int32) (fl : Int32) (cr : Int32)  (hcc : cc ≤ 24) : Met l yX0_changedSlots wsX0_changedSlots ({ frames := 1, cells := 0, slots := 0, locals := 22 }) (ja_Pr (dC, dI) vwCl (ja_wX h a1 a2 a3 a4 cA sv js jv jd cc oc sd jn fb fl cr) [(cA, .int)] [.ref h]) (vp_Si (fun r => r = nI (ja_ct (ja_ls js cc) cc))) 0 0 (fun _ => False) := by
  refine Met.ofW (cc := cX0_changedSlots) (maxL := 3) (ret := (some .int)) (by decide) rfl ?_
  intro p e s m args below meth c s₁ B hml hv
  obtain ⟨rfl, hP, hK⟩ := hv
  have hx := B.exec
  have hb := B.bytes
  have hr := B.returns
  have hts := atoms_spec (ws := wsX0_changedSlots) B.pre
  have hown : s.vm.findClass RX0 = some m.cls := findClass_of_methodNamed B.named
  have hlocks := B.notSynchronized
  have hin : ∀ w ∈ u_ws RX0 TX0 11, w ∈ wsX0_changedSlots := by decide +kernel
  have fk30 := hts (.fieldLink RX0 30 "JournalShelf" "committedChanges" "I") (by decide +kernel)
  have hl := lv_entry ([.ref h]) (n := 3) (Nat.le_of_ble_eq_true rfl)
  rw [lg_entry_eq]
  generalize (lg_sl ([.ref h]) ++ List.replicate (3 - (lg_sl ([.ref h])).length) Slot.unset).toArray = ls at hl ⊢
  have hl : lv_has ls 3 [(0, .ref h)] := hl
  refine lv_iconst (v := nI 0) hx hb dX0_changedSlots_0 (by decide +kernel) ?_
  refine lv_istore_n (lv' := [(1, .int (nI 0)), (0, .ref h)]) hx hb dX0_changedSlots_1 rfl hl (by decide) rfl (fun ls hl => ?_)
  refine lv_iconst (v := nI 0) hx hb dX0_changedSlots_2 (by decide +kernel) ?_
  refine lv_istore_n (lv' := [(2, .int (nI 0)), (1, .int (nI 0)), (0, .ref h)]) hx hb dX0_changedSlots_3 rfl hl (by decide) rfl (fun ls hl => ?_)
  refine ja_lpR 4 (fun (i : Nat) ls => lv_has ls 3 [(2, .int (nI i)), (1, .int (nI (ja_ct (ja_ls js cc) i))), (0, .ref h)] ∧ i ≤ cc) (fun i => cc - (i)) ?_ 0 ls ⟨lv_sub hl [0, 1, 2] rfl, Nat.zero_le _⟩
  intro i ls hI ih0
  obtain ⟨hl, hi⟩ := hI
  have hl : lv_has ls 3 [(2, .int (nI i)), (1, .int (nI (ja_ct (ja_ls js cc) i))), (0, .ref h)] := hl
  refine lv_iload_n hx hb dX0_changedSlots_4 rfl (lv_at hl 0 rfl) ?_
  refine lv_aload_n hx hb dX0_changedSlots_5 rfl (lv_at hl 2 rfl) ?_
  refine va_get (D := (dC, dI)) (ci := 0) (v := .int (nI cc)) (C := RX0) (T := TX0) (N := 11) hx hb hts hin hown hK hP 0 rfl rfl 4 (by decide) fk30 (fun _ h9 => h9) rfl dX0_changedSlots_6 ?_
  refine ja_ige hx hb dX0_changedSlots_9 (tgt := 29) (by decide) (by omega) (by omega) (fun h9 => ?_) (fun h9 => ?_)
  · have hic : i = cc := by omega
    refine lv_iload_n hx hb dX0_changedSlots_29 rfl (lv_at hl 1 rfl) ?_
    exact W.iret (v := nI (ja_ct (ja_ls js cc) i)) hx hb hr (fun t ht hW => ⟨_, rfl, by rw [hic], ht⟩) (fun q h => by cases h) dX0_changedSlots_30
  · refine lv_aload_n hx hb dX0_changedSlots_12 rfl (lv_at hl 2 rfl) ?_
    refine lv_iload_n hx hb dX0_changedSlots_13 rfl (lv_at hl 0 rfl) ?_
    refine ja_cR (As := [.int (nI i)]) (rest := []) ⟨hx, hb, hml, hown, hts⟩ (cX_isLastOfItsSlot l dC dI h a1 a2 a3 a4 cA sv js jv jd cc oc sd jn fb fl cr i hcc (by omega)) (cwV 1 hts gX0_changedSlots_X0_isLastOfItsSlot rfl rfl rfl (by decide +kernel) ⟨Nat.le_of_ble_eq_true rfl, Nat.le_of_ble_eq_true rfl⟩) hK hP (ja_rcv (ci := 0) (q0 := 0) hK hP rfl rfl rfl) rfl hl.1 rfl (Nat.le_of_ble_eq_true rfl) dX0_changedSlots_14 ⟨Nat.zero_le _, Nat.zero_le _⟩ (fun r14 hr14 => ?_)
    refine lv_if_eq hx hb dX0_changedSlots_17 (tgt := 23) (by decide) (fun h17 => ?_) (fun h17 => ?_)
    · have he : ja_ct (ja_ls js cc) (i + 1) = ja_ct (ja_ls js cc) i := ja_ct_f (ja_ls_f (Or.elim hr14 (fun q => absurd (q.1.symm.trans h17) ja_n10) (fun q => q.2)))
      -- iinc
      refine lv_iinc (k := 0) (v := nI (i + 1)) (lv' := [(2, .int (nI (i + 1))), (1, .int (nI (ja_ct (ja_ls js cc) i))), (0, .ref h)]) hx hb dX0_changedSlots_23 hl rfl (ja_inc1 _) (by decide) rfl (fun ls hl => ?_)
      refine lv_goto (tgt := 4) hx hb dX0_changedSlots_26 (by decide) ?_
      exact ih0 (i + 1) ls ⟨(show lv_has ls 3 [(2, .int (nI (i + 1))), (1, .int (nI (ja_ct (ja_ls js cc) (i + 1)))), (0, .ref h)] by rw [he]; exact lv_sub hl [0, 1, 2] rfl), (by omega)⟩ (show cc - (i + 1) < cc - (i) by omega)
    · have he : ja_ct (ja_ls js cc) (i + 1) = ja_ct (ja_ls js cc) i + 1 := ja_ct_t (ja_ls_t (Or.elim hr14 (fun q => q.2) (fun q => absurd (q.1.trans nI_0) h17)))
      -- iinc
      refine lv_iinc (k := 1) (v := nI ((ja_ct (ja_ls js cc) i) + 1)) (lv' := [(1, .int (nI ((ja_ct (ja_ls js cc) i) + 1))), (2, .int (nI i)), (0, .ref h)]) hx hb dX0_changedSlots_20 hl rfl (ja_inc1 _) (by decide) rfl (fun ls hl => ?_)
      -- iinc
      refine lv_iinc (k := 1) (v := nI (i + 1)) (lv' := [(2, .int (nI (i + 1))), (1, .int (nI ((ja_ct (ja_ls js cc) i) + 1))), (0, .ref h)]) hx hb dX0_changedSlots_23 hl rfl (ja_inc1 _) (by decide) rfl (fun ls hl => ?_)
      refine lv_goto (tgt := 4) hx hb dX0_changedSlots_26 (by decide) ?_
      exact ih0 (i + 1) ls ⟨(show lv_has ls 3 [(2, .int (nI (i + 1))), (1, .int (nI (ja_ct (ja_ls js cc) (i + 1)))), (0, .ref h)] by rw [he]; exact lv_sub hl [0, 1, 2] rfl), (by omega)⟩ (show cc - (i + 1) < cc - (i) by omega)
set_option maxHeartbeats 1000000 in
set_option maxRecDepth 100000 in
/-- how many deeds of the journal stand whole -/
theorem cX_wholeDeeds (l : Launch) (dC : Nat → ClassId) (dI : Nat → Nat → Nat) (h a1 a2 a3 a4 : Nat) (cA : ClassId) (sv js jv jd : Nat → Int32) (cc : Nat) (oc : Nat) (sd : Int32) (jn : Int32) (fb : Int32) (fl : Int32) (cr : Int32) (mask : Int32) (hcc : cc ≤ 24) : Met l yX0_wholeDeeds wsX0_wholeDeeds ({ frames := 1, cells := 0, slots := 0, locals := 21 }) (ja_Pr (dC, dI) vwCl (ja_wX h a1 a2 a3 a4 cA sv js jv jd cc oc sd jn fb fl cr) [(cA, .int)] [.ref h, .int mask]) (vp_Si (fun r => ja_wd jd cc fb jn mask r)) 0 0 (fun _ => False) := by
  refine Met.ofW (cc := cX0_wholeDeeds) (maxL := 3) (ret := (some .int)) (by decide) rfl ?_
  intro p e s m args below meth c s₁ B hml hv
  obtain ⟨rfl, hP, hK⟩ := hv
  have hx := B.exec
  have hb := B.bytes
  have hr := B.returns
  have hts := atoms_spec (ws := wsX0_wholeDeeds) B.pre
  have hown : s.vm.findClass RX0 = some m.cls := findClass_of_methodNamed B.named
  have hlocks := B.notSynchronized
  have hin : ∀ w ∈ u_ws RX0 TX0 11, w ∈ wsX0_wholeDeeds := by decide +kernel
  have fk19 := hts (.fieldLink RX0 19 "JournalShelf" "journalDeed" "[I") (by decide +kernel)
  have fk30 := hts (.fieldLink RX0 30 "JournalShelf" "committedChanges" "I") (by decide +kernel)
  have fk40 := hts (.fieldLink RX0 40 "JournalShelf" "journalDeeds" "I") (by decide +kernel)
  have fk51 := hts (.fieldLink RX0 51 "JournalShelf" "flushBlocks" "I") (by decide +kernel)
  have hl := lv_entry ([.ref h, .int mask]) (n := 3) (Nat.le_of_ble_eq_true rfl)
  rw [lg_entry_eq]
  generalize (lg_sl ([.ref h, .int mask]) ++ List.replicate (3 - (lg_sl ([.ref h, .int mask])).length) Slot.unset).toArray = ls at hl ⊢
  have hl : lv_has ls 3 [(0, .ref h), (1, .int mask)] := hl
  refine lv_iconst (v := nI 0) hx hb dX0_wholeDeeds_0 (by decide +kernel) ?_
  refine lv_istore_n (lv' := [(2, .int (nI 0)), (0, .ref h), (1, .int mask)]) hx hb dX0_wholeDeeds_1 rfl hl (by decide) rfl (fun ls hl => ?_)
  refine ja_lpR 2 (fun (i : Nat) ls => lv_has ls 3 [(2, .int (nI i)), (0, .ref h), (1, .int mask)] ∧ i ≤ cc ∧ (∀ j, j < i → ja_bt mask (fb + nI j) = nI 1)) (fun i => cc - (i)) ?_ 0 ls ⟨lv_sub hl [0, 1, 2] rfl, Nat.zero_le _, lt_0⟩
  intro i ls hI ih0
  obtain ⟨hl, hi, hq⟩ := hI
  have hl : lv_has ls 3 [(2, .int (nI i)), (0, .ref h), (1, .int mask)] := hl
  refine lv_iload_n hx hb dX0_wholeDeeds_2 rfl (lv_at hl 0 rfl) ?_
  refine lv_aload_n hx hb dX0_wholeDeeds_3 rfl (lv_at hl 1 rfl) ?_
  refine va_get (D := (dC, dI)) (ci := 0) (v := .int (nI cc)) (C := RX0) (T := TX0) (N := 11) hx hb hts hin hown hK hP 0 rfl rfl 4 (by decide) fk30 (fun _ h9 => h9) rfl dX0_wholeDeeds_4 ?_
  refine ja_ige hx hb dX0_wholeDeeds_7 (tgt := 36) (by decide) (by omega) (by omega) (fun h7 => ?_) (fun h7 => ?_)
  · refine lv_aload_n hx hb dX0_wholeDeeds_36 rfl (lv_at hl 1 rfl) ?_
    refine va_get (D := (dC, dI)) (ci := 0) (v := .int jn) (C := RX0) (T := TX0) (N := 11) hx hb hts hin hown hK hP 0 rfl rfl 7 (by decide) fk40 (fun _ h9 => h9) rfl dX0_wholeDeeds_37 ?_
    exact W.iret (v := jn) hx hb hr (fun t ht hW => ⟨_, rfl, Or.inr ⟨fun j hj => hq j (by omega), rfl⟩, ht⟩) (fun q h => by cases h) dX0_wholeDeeds_40
  · refine lv_aload_n hx hb dX0_wholeDeeds_10 rfl (lv_at hl 1 rfl) ?_
    refine va_get (D := (dC, dI)) (ci := 0) (v := .int fb) (C := RX0) (T := TX0) (N := 11) hx hb hts hin hown hK hP 0 rfl rfl 8 (by decide) fk51 (fun _ h9 => h9) rfl dX0_wholeDeeds_11 ?_
    refine lv_iload_n hx hb dX0_wholeDeeds_14 rfl (lv_at hl 0 rfl) ?_
    refine lv_iadd hx hb dX0_wholeDeeds_15 ?_
    refine lv_iload_n hx hb dX0_wholeDeeds_16 rfl (lv_at hl 2 rfl) ?_
    refine ja_cS (As := [.int (fb + nI i), .int mask]) (rest := []) ⟨hx, hb, hml, hown, hts⟩ (cX_blockStands l (fb + nI i) mask) (va_cwS 2 hts gX0_wholeDeeds_X0_blockStands rfl rfl rfl (by decide +kernel) ⟨Nat.le_of_ble_eq_true rfl, Nat.le_of_ble_eq_true rfl⟩) rfl hl.1 rfl (Nat.le_of_ble_eq_true rfl) dX0_wholeDeeds_17 ⟨Nat.zero_le _, Nat.zero_le _⟩ (fun r17 hr17 => ?_)
    refine lv_if_ne hx hb dX0_wholeDeeds_20 (tgt := 30) (by decide) (fun h20 => ?_) (fun h20 => ?_)
    · have he : ja_bt mask (fb + nI i) = nI 1 := Or.elim hr17 (fun q => q.2) (fun q => absurd (q.1.trans nI_0) h20)
      -- iinc
      refine lv_iinc (k := 0) (v := nI (i + 1)) (lv' := [(2, .int (nI (i + 1))), (0, .ref h), (1, .int mask)]) hx hb dX0_wholeDeeds_30 hl rfl (ja_inc1 _) (by decide) rfl (fun ls hl => ?_)
      refine lv_goto (tgt := 2) hx hb dX0_wholeDeeds_33 (by decide) ?_
      exact ih0 (i + 1) ls ⟨lv_sub hl [0, 1, 2] rfl, (by omega), (lt_s hq he)⟩ (show cc - (i + 1) < cc - (i) by omega)
    · have he : ¬ ja_bt mask (fb + nI i) = nI 1 := Or.elim hr17 (fun q => absurd (q.1.symm.trans h20) ja_n10) (fun q => q.2)
      refine lv_aload_n hx hb dX0_wholeDeeds_23 rfl (lv_at hl 1 rfl) ?_
      refine va_get (D := (dC, dI)) (ci := 0) (v := .ref a4) (C := RX0) (T := TX0) (N := 11) hx hb hts hin hown hK hP 0 rfl rfl 3 (by decide) fk19 (fun _ h9 => h9) rfl dX0_wholeDeeds_24 ?_
      refine lv_iload_n hx hb dX0_wholeDeeds_27 rfl (lv_at hl 0 rfl) ?_
      refine ja_ald hx hb hK hP 4 0 rfl rfl (by omega) (by decide) dX0_wholeDeeds_28 ?_
      exact W.iret (v := (jd i)) hx hb hr (fun t ht hW => ⟨_, rfl, Or.inl ⟨i, by omega, hq, he, rfl⟩, ht⟩) (fun q h => by cases h) dX0_wholeDeeds_29
set_option maxHeartbeats 1000000 in
set_option maxRecDepth 100000 in
/-- takes the first deeds of the journal over for good, empties it -/
theorem cX_makeSafe (l : Launch) (dC : Nat → ClassId) (dI : Nat → Nat → Nat) (h a1 a2 a3 a4 : Nat) (cA : ClassId) (sz : Nat) (sv js jv jd : Nat → Int32) (cc : Nat) (oc : Nat) (sd : Int32) (jn : Int32) (fb : Int32) (fl : Int32) (cr : Int32) (dd : Int32) (hcc : cc ≤ 24) (hjs : ∀ i, i < cc → vp_in (js i) 212) : Met l yX0_makeSafe wsX0_makeSafe ({ frames := 0, cells := 0, slots := 0, locals := 0 }) (ja_Pw (dC, dI) vwCl (ja_wX h a1 a2 a3 a4 cA sv js jv jd cc oc sd jn fb fl cr) [(cA, .int)] sz [.ref h, .int dd]) (va_Qv (fun u : ja_SX => ∃ n, ja_run jd cc dd n ∧ u = (ja_ap js jv sv n, js, jv, jd, 0, 0, sd + dd, nI 0, fb, fl, cr)) (ja_B (dC, dI) vwCl (va_A (ja_wX h a1 a2 a3 a4 cA sv js jv jd cc oc sd jn fb fl cr) sz) (ja_uX h a1 a2 a3 a4 cA)) (va_A (ja_wX h a1 a2 a3 a4 cA sv js jv jd cc oc sd jn fb fl cr) sz)) 0 0 (va_A (ja_wX h a1 a2 a3 a4 cA sv js jv jd cc oc sd jn fb fl cr) sz) := by
  refine Met.ofW (cc := cX0_makeSafe) (maxL := 3) (ret := none) (by decide) rfl ?_
  intro p e s m args below meth c s₁ B hml hv
  obtain ⟨rfl, hsz, hP, hK, hD0⟩ := hv
  have hx := B.exec
  have hb := B.bytes
  have hr := B.returns
  have hts := atoms_spec (ws := wsX0_makeSafe) B.pre
  have hown : s.vm.findClass RX0 = some m.cls := findClass_of_methodNamed B.named
  have hlocks := B.notSynchronized
  have hin : ∀ w ∈ u_ws RX0 TX0 11, w ∈ wsX0_makeSafe := by decide +kernel
  have fk9 := hts (.fieldLink RX0 9 "JournalShelf" "safeValue" "[I") (by decide +kernel)
  have fk13 := hts (.fieldLink RX0 13 "JournalShelf" "journalSlot" "[I") (by decide +kernel)
  have fk16 := hts (.fieldLink RX0 16 "JournalShelf" "journalValue" "[I") (by decide +kernel)
  have fk19 := hts (.fieldLink RX0 19 "JournalShelf" "journalDeed" "[I") (by decide +kernel)
  have fk26 := hts (.fieldLink RX0 26 "JournalShelf" "openChanges" "I") (by decide +kernel)
  have fk30 := hts (.fieldLink RX0 30 "JournalShelf" "committedChanges" "I") (by decide +kernel)
  have fk40 := hts (.fieldLink RX0 40 "JournalShelf" "journalDeeds" "I") (by decide +kernel)
  have fk57 := hts (.fieldLink RX0 57 "JournalShelf" "safeDeeds" "I") (by decide +kernel)
  subst hsz
  have hD := hD0.self (sz := s.heap.size)
  generalize hAe : va_A (ja_wX h a1 a2 a3 a4 cA sv js jv jd cc oc sd jn fb fl cr) s.heap.size = A at hD ⊢
  have hA : ∀ q : Nat, s.heap.size ≤ q → A q := fun q h => by rw [← hAe]; exact Or.inr h
  refine ja_st0 s.heap [] hP (va_S.rf (A := A)) (fun H locs hP hS => ?_)
  have hl := lv_entry ([.ref h, .int dd]) (n := 3) (Nat.le_of_ble_eq_true rfl)
  rw [lg_entry_eq]
  generalize (lg_sl ([.ref h, .int dd]) ++ List.replicate (3 - (lg_sl ([.ref h, .int dd])).length) Slot.unset).toArray = ls at hl ⊢
  have hl : lv_has ls 3 [(0, .ref h), (1, .int dd)] := hl
  refine lv_iconst (v := nI 0) hx hb dX0_makeSafe_0 (by decide +kernel) ?_
  refine lv_istore_n (lv' := [(2, .int (nI 0)), (0, .ref h), (1, .int dd)]) hx hb dX0_makeSafe_1 rfl hl (by decide) rfl (fun ls hl => ?_)
  refine ja_lpW 2 (fun (i : Nat) ls H locs => lv_has ls 3 [(2, .int (nI i)), (0, .ref h), (1, .int dd)] ∧ va_P (dC, dI) vwCl (ja_wX h a1 a2 a3 a4 cA (ja_ap js jv sv i) js jv jd cc oc sd jn fb fl cr) H ∧ va_D A (ja_wX h a1 a2 a3 a4 cA (ja_ap js jv sv i) js jv jd cc oc sd jn fb fl cr) ∧ va_S A s.heap H locs ∧ i ≤ cc ∧ (∀ j, j < i → jd j < dd)) (fun i => cc - (i)) ?_ 0 ls H locs ⟨lv_sub hl [0, 1, 2] rfl, hP, hD, hS, Nat.zero_le _, lt_0⟩
  intro i ls H locs hI ih0
  obtain ⟨hl, hP, hD, hS, hi, hq⟩ := hI
  have hl : lv_has ls 3 [(2, .int (nI i)), (0, .ref h), (1, .int dd)] := hl
  have hP : va_P (dC, dI) vwCl (ja_wX h a1 a2 a3 a4 cA (ja_ap js jv sv i) js jv jd cc oc sd jn fb fl cr) H := hP
  have hD : va_D A (ja_wX h a1 a2 a3 a4 cA (ja_ap js jv sv i) js jv jd cc oc sd jn fb fl cr) := hD
  refine lv_iload_n hx hb dX0_makeSafe_2 rfl (lv_at hl 0 rfl) ?_
  refine lv_aload_n hx hb dX0_makeSafe_3 rfl (lv_at hl 1 rfl) ?_
  refine va_get (D := (dC, dI)) (ci := 0) (v := .int (nI cc)) (C := RX0) (T := TX0) (N := 11) hx hb hts hin hown hK hP 0 rfl rfl 4 (by decide) fk30 (fun _ h9 => h9) rfl dX0_makeSafe_4 ?_
  refine ja_ige hx hb dX0_makeSafe_7 (tgt := 43) (by decide) (by omega) (by omega) (fun h7 => ?_) (fun h7 => ?_)
  · refine lv_aload_n hx hb dX0_makeSafe_43 rfl (lv_at hl 1 rfl) ?_
    refine lv_dup hx hb dX0_makeSafe_44 rfl ?_
    refine va_get (D := (dC, dI)) (ci := 0) (v := .int sd) (C := RX0) (T := TX0) (N := 11) hx hb hts hin hown hK hP 0 rfl rfl 6 (by decide) fk57 (fun _ h9 => h9) rfl dX0_makeSafe_45 ?_
    refine lv_iload_n hx hb dX0_makeSafe_48 rfl (lv_at hl 2 rfl) ?_
    refine lv_iadd hx hb dX0_makeSafe_49 ?_
    refine va_put (D := (dC, dI)) (ci := 0) (v := .int (sd + dd)) (ty := .int) (C := RX0) (T := TX0) (N := 11) hx hb hts hin tyX0 tyX0_ok nmX0 hown hK hP hD hS 0 rfl rfl 6 (by decide) fk57 (fun _ h9 => h9) rfl (by decide +kernel) rfl rfl (Nat.le_of_ble_eq_true rfl) dX0_makeSafe_50 (fun H locs hP hD hS => ?_)
    have hP : va_P (dC, dI) vwCl (ja_wX h a1 a2 a3 a4 cA (ja_ap js jv sv i) js jv jd cc oc (sd + dd) jn fb fl cr) H := hP
    have hD : va_D A (ja_wX h a1 a2 a3 a4 cA (ja_ap js jv sv i) js jv jd cc oc (sd + dd) jn fb fl cr) := hD
    refine lv_aload_n hx hb dX0_makeSafe_53 rfl (lv_at hl 1 rfl) ?_
    refine lv_iconst (v := nI 0) hx hb dX0_makeSafe_54 (by decide +kernel) ?_
    refine va_put (D := (dC, dI)) (ci := 0) (v := .int (nI 0)) (ty := .int) (C := RX0) (T := TX0) (N := 11) hx hb hts hin tyX0 tyX0_ok nmX0 hown hK hP hD hS 0 rfl rfl 7 (by decide) fk40 (fun _ h9 => h9) rfl (by decide +kernel) rfl rfl (Nat.le_of_ble_eq_true rfl) dX0_makeSafe_55 (fun H locs hP hD hS => ?_)
    have hP : va_P (dC, dI) vwCl (ja_wX h a1 a2 a3 a4 cA (ja_ap js jv sv i) js jv jd cc oc (sd + dd) (nI 0) fb fl cr) H := hP
    have hD : va_D A (ja_wX h a1 a2 a3 a4 cA (ja_ap js jv sv i) js jv jd cc oc (sd + dd) (nI 0) fb fl cr) := hD
    refine lv_aload_n hx hb dX0_makeSafe_58 rfl (lv_at hl 1 rfl) ?_
    refine lv_iconst (v := nI 0) hx hb dX0_makeSafe_59 (by decide +kernel) ?_
    refine va_put (D := (dC, dI)) (ci := 0) (v := .int (nI 0)) (ty := .int) (C := RX0) (T := TX0) (N := 11) hx hb hts hin tyX0 tyX0_ok nmX0 hown hK hP hD hS 0 rfl rfl 4 (by decide) fk30 (fun _ h9 => h9) rfl (by decide +kernel) rfl rfl (Nat.le_of_ble_eq_true rfl) dX0_makeSafe_60 (fun H locs hP hD hS => ?_)
    have hP : va_P (dC, dI) vwCl (ja_wX h a1 a2 a3 a4 cA (ja_ap js jv sv i) js jv jd 0 oc (sd + dd) (nI 0) fb fl cr) H := hP
    have hD : va_D A (ja_wX h a1 a2 a3 a4 cA (ja_ap js jv sv i) js jv jd 0 oc (sd + dd) (nI 0) fb fl cr) := hD
    refine lv_aload_n hx hb dX0_makeSafe_63 rfl (lv_at hl 1 rfl) ?_
    refine lv_iconst (v := nI 0) hx hb dX0_makeSafe_64 (by decide +kernel) ?_
    refine va_put (D := (dC, dI)) (ci := 0) (v := .int (nI 0)) (ty := .int) (C := RX0) (T := TX0) (N := 11) hx hb hts hin tyX0 tyX0_ok nmX0 hown hK hP hD hS 0 rfl rfl 5 (by decide) fk26 (fun _ h9 => h9) rfl (by decide +kernel) rfl rfl (Nat.le_of_ble_eq_true rfl) dX0_makeSafe_65 (fun H locs hP hD hS => ?_)
    have hP : va_P (dC, dI) vwCl (ja_wX h a1 a2 a3 a4 cA (ja_ap js jv sv i) js jv jd 0 0 (sd + dd) (nI 0) fb fl cr) H := hP
    have hD : va_D A (ja_wX h a1 a2 a3 a4 cA (ja_ap js jv sv i) js jv jd 0 0 (sd + dd) (nI 0) fb fl cr) := hD
    exact W.vret hx hb hr (fun t ht hW => ⟨⟨((ja_ap js jv sv i), js, jv, jd, 0, 0, (sd + dd), nI 0, fb, fl, cr), rfl, ⟨i, ⟨hi, hq, fun h => absurd h (by omega)⟩, rfl⟩, by rw [ht]; exact hP, hD⟩, hS.F ht⟩) hS.2.2 dX0_makeSafe_68
  · refine lv_aload_n hx hb dX0_makeSafe_10 rfl (lv_at hl 1 rfl) ?_
    refine va_get (D := (dC, dI)) (ci := 0) (v := .ref a4) (C := RX0) (T := TX0) (N := 11) hx hb hts hin hown hK hP 0 rfl rfl 3 (by decide) fk19 (fun _ h9 => h9) rfl dX0_makeSafe_11 ?_
    refine lv_iload_n hx hb dX0_makeSafe_14 rfl (lv_at hl 0 rfl) ?_
    refine ja_ald hx hb hK hP 4 0 rfl rfl (by omega) (by decide) dX0_makeSafe_15 ?_
    refine lv_iload_n hx hb dX0_makeSafe_16 rfl (lv_at hl 2 rfl) ?_
    refine lv_icmp_ge hx hb dX0_makeSafe_17 (tgt := 43) (by decide) (fun h17 => ?_) (fun h17 => ?_)
    · refine lv_aload_n hx hb dX0_makeSafe_43 rfl (lv_at hl 1 rfl) ?_
      refine lv_dup hx hb dX0_makeSafe_44 rfl ?_
      refine va_get (D := (dC, dI)) (ci := 0) (v := .int sd) (C := RX0) (T := TX0) (N := 11) hx hb hts hin hown hK hP 0 rfl rfl 6 (by decide) fk57 (fun _ h9 => h9) rfl dX0_makeSafe_45 ?_
      refine lv_iload_n hx hb dX0_makeSafe_48 rfl (lv_at hl 2 rfl) ?_
      refine lv_iadd hx hb dX0_makeSafe_49 ?_
      refine va_put (D := (dC, dI)) (ci := 0) (v := .int (sd + dd)) (ty := .int) (C := RX0) (T := TX0) (N := 11) hx hb hts hin tyX0 tyX0_ok nmX0 hown hK hP hD hS 0 rfl rfl 6 (by decide) fk57 (fun _ h9 => h9) rfl (by decide +kernel) rfl rfl (Nat.le_of_ble_eq_true rfl) dX0_makeSafe_50 (fun H locs hP hD hS => ?_)
      have hP : va_P (dC, dI) vwCl (ja_wX h a1 a2 a3 a4 cA (ja_ap js jv sv i) js jv jd cc oc (sd + dd) jn fb fl cr) H := hP
      have hD : va_D A (ja_wX h a1 a2 a3 a4 cA (ja_ap js jv sv i) js jv jd cc oc (sd + dd) jn fb fl cr) := hD
      refine lv_aload_n hx hb dX0_makeSafe_53 rfl (lv_at hl 1 rfl) ?_
      refine lv_iconst (v := nI 0) hx hb dX0_makeSafe_54 (by decide +kernel) ?_
      refine va_put (D := (dC, dI)) (ci := 0) (v := .int (nI 0)) (ty := .int) (C := RX0) (T := TX0) (N := 11) hx hb hts hin tyX0 tyX0_ok nmX0 hown hK hP hD hS 0 rfl rfl 7 (by decide) fk40 (fun _ h9 => h9) rfl (by decide +kernel) rfl rfl (Nat.le_of_ble_eq_true rfl) dX0_makeSafe_55 (fun H locs hP hD hS => ?_)
      have hP : va_P (dC, dI) vwCl (ja_wX h a1 a2 a3 a4 cA (ja_ap js jv sv i) js jv jd cc oc (sd + dd) (nI 0) fb fl cr) H := hP
      have hD : va_D A (ja_wX h a1 a2 a3 a4 cA (ja_ap js jv sv i) js jv jd cc oc (sd + dd) (nI 0) fb fl cr) := hD
      refine lv_aload_n hx hb dX0_makeSafe_58 rfl (lv_at hl 1 rfl) ?_
      refine lv_iconst (v := nI 0) hx hb dX0_makeSafe_59 (by decide +kernel) ?_
      refine va_put (D := (dC, dI)) (ci := 0) (v := .int (nI 0)) (ty := .int) (C := RX0) (T := TX0) (N := 11) hx hb hts hin tyX0 tyX0_ok nmX0 hown hK hP hD hS 0 rfl rfl 4 (by decide) fk30 (fun _ h9 => h9) rfl (by decide +kernel) rfl rfl (Nat.le_of_ble_eq_true rfl) dX0_makeSafe_60 (fun H locs hP hD hS => ?_)
      have hP : va_P (dC, dI) vwCl (ja_wX h a1 a2 a3 a4 cA (ja_ap js jv sv i) js jv jd 0 oc (sd + dd) (nI 0) fb fl cr) H := hP
      have hD : va_D A (ja_wX h a1 a2 a3 a4 cA (ja_ap js jv sv i) js jv jd 0 oc (sd + dd) (nI 0) fb fl cr) := hD
      refine lv_aload_n hx hb dX0_makeSafe_63 rfl (lv_at hl 1 rfl) ?_
      refine lv_iconst (v := nI 0) hx hb dX0_makeSafe_64 (by decide +kernel) ?_
      refine va_put (D := (dC, dI)) (ci := 0) (v := .int (nI 0)) (ty := .int) (C := RX0) (T := TX0) (N := 11) hx hb hts hin tyX0 tyX0_ok nmX0 hown hK hP hD hS 0 rfl rfl 5 (by decide) fk26 (fun _ h9 => h9) rfl (by decide +kernel) rfl rfl (Nat.le_of_ble_eq_true rfl) dX0_makeSafe_65 (fun H locs hP hD hS => ?_)
      have hP : va_P (dC, dI) vwCl (ja_wX h a1 a2 a3 a4 cA (ja_ap js jv sv i) js jv jd 0 0 (sd + dd) (nI 0) fb fl cr) H := hP
      have hD : va_D A (ja_wX h a1 a2 a3 a4 cA (ja_ap js jv sv i) js jv jd 0 0 (sd + dd) (nI 0) fb fl cr) := hD
      exact W.vret hx hb hr (fun t ht hW => ⟨⟨((ja_ap js jv sv i), js, jv, jd, 0, 0, (sd + dd), nI 0, fb, fl, cr), rfl, ⟨i, ⟨hi, hq, fun _ => Int32.not_lt.mpr h17⟩, rfl⟩, by rw [ht]; exact hP, hD⟩, hS.F ht⟩) hS.2.2 dX0_makeSafe_68
    · have he : jd i < dd := Int32.not_le.mp h17
      refine lv_aload_n hx hb dX0_makeSafe_20 rfl (lv_at hl 1 rfl) ?_
      refine va_get (D := (dC, dI)) (ci := 0) (v := .ref a1) (C := RX0) (T := TX0) (N := 11) hx hb hts hin hown hK hP 0 rfl rfl 0 (by decide) fk9 (fun _ h9 => h9) rfl dX0_makeSafe_21 ?_
      refine lv_aload_n hx hb dX0_makeSafe_24 rfl (lv_at hl 1 rfl) ?_
      refine va_get (D := (dC, dI)) (ci := 0) (v := .ref a2) (C := RX0) (T := TX0) (N := 11) hx hb hts hin hown hK hP 0 rfl rfl 1 (by decide) fk13 (fun _ h9 => h9) rfl dX0_makeSafe_25 ?_
      refine lv_iload_n hx hb dX0_makeSafe_28 rfl (lv_at hl 0 rfl) ?_
      refine ja_ald hx hb hK hP 2 0 rfl rfl (by omega) (by decide) dX0_makeSafe_29 ?_
      refine lv_aload_n hx hb dX0_makeSafe_30 rfl (lv_at hl 1 rfl) ?_
      refine va_get (D := (dC, dI)) (ci := 0) (v := .ref a3) (C := RX0) (T := TX0) (N := 11) hx hb hts hin hown hK hP 0 rfl rfl 2 (by decide) fk16 (fun _ h9 => h9) rfl dX0_makeSafe_31 ?_
      refine lv_iload_n hx hb dX0_makeSafe_34 rfl (lv_at hl 0 rfl) ?_
      refine ja_ald hx hb hK hP 3 0 rfl rfl (by omega) (by decide) dX0_makeSafe_35 ?_
      refine va_iast hx hb hK hP hD hS 1 0 rfl rfl (hjs i (by omega)) dX0_makeSafe_36 (fun H locs hP hD hS => ?_)
      have hP : va_P (dC, dI) vwCl (ja_wX h a1 a2 a3 a4 cA (upd (ja_ap js jv sv i) (js i).toNatClampNeg (jv i)) js jv jd cc oc sd jn fb fl cr) H := hP
      have hD : va_D A (ja_wX h a1 a2 a3 a4 cA (upd (ja_ap js jv sv i) (js i).toNatClampNeg (jv i)) js jv jd cc oc sd jn fb fl cr) := hD
      -- iinc
      refine lv_iinc (k := 0) (v := nI (i + 1)) (lv' := [(2, .int (nI (i + 1))), (0, .ref h), (1, .int dd)]) hx hb dX0_makeSafe_37 hl rfl (ja_inc1 _) (by decide) rfl (fun ls hl => ?_)
      refine lv_goto (tgt := 2) hx hb dX0_makeSafe_40 (by decide) ?_
      exact ih0 (i + 1) ls H locs ⟨lv_sub hl [0, 1, 2] rfl, hP, hD, hS, (by omega), (lt_s hq he)⟩ (show cc - (i + 1) < cc - (i) by omega)
set_option maxHeartbeats 1000000 in
set_option maxRecDepth 100000 in
/-- flush without its answer -/
theorem cX_flushDisk (l : Launch) (dC : Nat → ClassId) (dI : Nat → Nat → Nat) (h a1 a2 a3 a4 : Nat) (cA : ClassId) (sz : Nat) (sv js jv jd : Nat → Int32) (cc : Nat) (oc : Nat) (sd : Int32) (jn : Int32) (fb : Int32) (fl : Int32) (cr : Int32)  (hcc : cc ≤ 24) (hjs : ∀ i, i < cc → vp_in (js i) 212) : Met l yX0_flushDisk wsX0_flushDisk ({ frames := 2, cells := 0, slots := 0, locals := 44 }) (ja_Pw (dC, dI) vwCl (ja_wX h a1 a2 a3 a4 cA sv js jv jd cc oc sd jn fb fl cr) [(cA, .int)] sz [.ref h]) (va_Qv (fun u : ja_SX => ∃ n, ja_run jd cc jn n ∧ u = (ja_ap js jv sv n, js, jv, jd, 0, 0, sd + jn, nI 0, nI (ja_ct (ja_ls js cc) cc), fl + nI 1, cr)) (ja_B (dC, dI) vwCl (va_A (ja_wX h a1 a2 a3 a4 cA sv js jv jd cc oc sd jn fb fl cr) sz) (ja_uX h a1 a2 a3 a4 cA)) (va_A (ja_wX h a1 a2 a3 a4 cA sv js jv jd cc oc sd jn fb fl cr) sz)) 0 0 (va_A (ja_wX h a1 a2 a3 a4 cA sv js jv jd cc oc sd jn fb fl cr) sz) := by
  refine Met.ofW (cc := cX0_flushDisk) (maxL := 2) (ret := none) (by decide) rfl ?_
  intro p e s m args below meth c s₁ B hml hv
  obtain ⟨rfl, hsz, hP, hK, hD0⟩ := hv
  have hx := B.exec
  have hb := B.bytes
  have hr := B.returns
  have hts := atoms_spec (ws := wsX0_flushDisk) B.pre
  have hown : s.vm.findClass RX0 = some m.cls := findClass_of_methodNamed B.named
  have hlocks := B.notSynchronized
  have hin : ∀ w ∈ u_ws RX0 TX0 11, w ∈ wsX0_flushDisk := by decide +kernel
  have fk40 := hts (.fieldLink RX0 40 "JournalShelf" "journalDeeds" "I") (by decide +kernel)
  have fk51 := hts (.fieldLink RX0 51 "JournalShelf" "flushBlocks" "I") (by decide +kernel)
  have fk60 := hts (.fieldLink RX0 60 "JournalShelf" "flushes" "I") (by decide +kernel)
  subst hsz
  have hD := hD0.self (sz := s.heap.size)
  generalize hAe : va_A (ja_wX h a1 a2 a3 a4 cA sv js jv jd cc oc sd jn fb fl cr) s.heap.size = A at hD ⊢
  have hA : ∀ q : Nat, s.heap.size ≤ q → A q := fun q h => by rw [← hAe]; exact Or.inr h
  refine ja_st0 s.heap [] hP (va_S.rf (A := A)) (fun H locs hP hS => ?_)
  have hl := lv_entry ([.ref h]) (n := 2) (Nat.le_of_ble_eq_true rfl)
  rw [lg_entry_eq]
  generalize (lg_sl ([.ref h]) ++ List.replicate (2 - (lg_sl ([.ref h])).length) Slot.unset).toArray = ls at hl ⊢
  have hl : lv_has ls 2 [(0, .ref h)] := hl
  refine lv_aload_n hx hb dX0_flushDisk_0 rfl (lv_at hl 0 rfl) ?_
  refine ja_cR (As := []) (rest := []) ⟨hx, hb, hml, hown, hts⟩ (cX_changedSlots l dC dI h a1 a2 a3 a4 cA sv js jv jd cc oc sd jn fb fl cr  hcc) (cwV 0 hts gX0_flushDisk_X0_changedSlots rfl rfl rfl (by decide +kernel) ⟨Nat.le_of_ble_eq_true rfl, Nat.le_of_ble_eq_true rfl⟩) hK hP (ja_rcv (ci := 0) (q0 := 0) hK hP rfl rfl rfl) rfl hl.1 rfl (Nat.le_of_ble_eq_true rfl) dX0_flushDisk_1 ⟨Nat.zero_le _, Nat.zero_le _⟩ (fun r1 hr1 => ?_)
  have hr1 : r1 = nI (ja_ct (ja_ls js cc) cc) := hr1
  subst hr1
  refine lv_istore_n (lv' := [(1, .int (nI (ja_ct (ja_ls js cc) cc))), (0, .ref h)]) hx hb dX0_flushDisk_4 rfl hl (by decide) rfl (fun ls hl => ?_)
  refine lv_aload_n hx hb dX0_flushDisk_5 rfl (lv_at hl 1 rfl) ?_
  refine lv_aload_n hx hb dX0_flushDisk_6 rfl (lv_at hl 1 rfl) ?_
  refine va_get (D := (dC, dI)) (ci := 0) (v := .int jn) (C := RX0) (T := TX0) (N := 11) hx hb hts hin hown hK hP 0 rfl rfl 7 (by decide) fk40 (fun _ h9 => h9) rfl dX0_flushDisk_7 ?_
  refine ja_cV (wr := []) (As := [.int jn]) (rest := []) ⟨hx, hb, hml, hown, hts⟩ (cX_makeSafe l dC dI h a1 a2 a3 a4 cA H.size sv js jv jd cc oc sd jn fb fl cr jn hcc hjs) (cwV 1 hts gX0_flushDisk_X0_makeSafe rfl rfl rfl (by decide +kernel) ⟨Nat.le_of_ble_eq_true rfl, Nat.le_of_ble_eq_true rfl⟩) hK hP hP hD hS hA [0, 1, 2, 3, 4] [] rfl rfl (by decide) (by decide) (by decide) (ja_rcv (ci := 0) (q0 := 0) hK hP rfl rfl rfl) rfl hl.1 rfl (Nat.le_of_ble_eq_true rfl) dX0_flushDisk_10 ⟨Nat.zero_le _, Nat.zero_le _⟩ (fun u H locs hu hP hD hS => ?_)
  obtain ⟨n, hn, rfl⟩ := hu
  have hP : va_P (dC, dI) vwCl (ja_wX h a1 a2 a3 a4 cA (ja_ap js jv sv n) js jv jd 0 0 (sd + jn) (nI 0) fb fl cr) H := hP
  have hD : va_D A (ja_wX h a1 a2 a3 a4 cA (ja_ap js jv sv n) js jv jd 0 0 (sd + jn) (nI 0) fb fl cr) := hD
  refine lv_aload_n hx hb dX0_flushDisk_13 rfl (lv_at hl 1 rfl) ?_
  refine lv_iload_n hx hb dX0_flushDisk_14 rfl (lv_at hl 0 rfl) ?_
  refine va_put (D := (dC, dI)) (ci := 0) (v := .int (nI (ja_ct (ja_ls js cc) cc))) (ty := .int) (C := RX0) (T := TX0) (N := 11) hx hb hts hin tyX0 tyX0_ok nmX0 hown hK hP hD hS 0 rfl rfl 8 (by decide) fk51 (fun _ h9 => h9) rfl (by decide +kernel) rfl rfl (Nat.le_of_ble_eq_true rfl) dX0_flushDisk_15 (fun H locs hP hD hS => ?_)
  have hP : va_P (dC, dI) vwCl (ja_wX h a1 a2 a3 a4 cA (ja_ap js jv sv n) js jv jd 0 0 (sd + jn) (nI 0) (nI (ja_ct (ja_ls js cc) cc)) fl cr) H := hP
  have hD : va_D A (ja_wX h a1 a2 a3 a4 cA (ja_ap js jv sv n) js jv jd 0 0 (sd + jn) (nI 0) (nI (ja_ct (ja_ls js cc) cc)) fl cr) := hD
  refine lv_aload_n hx hb dX0_flushDisk_18 rfl (lv_at hl 1 rfl) ?_
  refine lv_dup hx hb dX0_flushDisk_19 rfl ?_
  refine va_get (D := (dC, dI)) (ci := 0) (v := .int fl) (C := RX0) (T := TX0) (N := 11) hx hb hts hin hown hK hP 0 rfl rfl 9 (by decide) fk60 (fun _ h9 => h9) rfl dX0_flushDisk_20 ?_
  refine lv_iconst (v := nI 1) hx hb dX0_flushDisk_23 (by decide +kernel) ?_
  refine lv_iadd hx hb dX0_flushDisk_24 ?_
  refine va_put (D := (dC, dI)) (ci := 0) (v := .int (fl + nI 1)) (ty := .int) (C := RX0) (T := TX0) (N := 11) hx hb hts hin tyX0 tyX0_ok nmX0 hown hK hP hD hS 0 rfl rfl 9 (by decide) fk60 (fun _ h9 => h9) rfl (by decide +kernel) rfl rfl (Nat.le_of_ble_eq_true rfl) dX0_flushDisk_25 (fun H locs hP hD hS => ?_)
  have hP : va_P (dC, dI) vwCl (ja_wX h a1 a2 a3 a4 cA (ja_ap js jv sv n) js jv jd 0 0 (sd + jn) (nI 0) (nI (ja_ct (ja_ls js cc) cc)) (fl + nI 1) cr) H := hP
  have hD : va_D A (ja_wX h a1 a2 a3 a4 cA (ja_ap js jv sv n) js jv jd 0 0 (sd + jn) (nI 0) (nI (ja_ct (ja_ls js cc) cc)) (fl + nI 1) cr) := hD
  exact W.vret hx hb hr (fun t ht hW => ⟨⟨((ja_ap js jv sv n), js, jv, jd, 0, 0, (sd + jn), nI 0, nI (ja_ct (ja_ls js cc) cc), (fl + nI 1), cr), rfl, ⟨n, hn, rfl⟩, by rw [ht]; exact hP, hD⟩, hS.F ht⟩) hS.2.2 dX0_flushDisk_28
end
section
set_option maxHeartbeats 1000000 in
set_option maxRecDepth 100000 in
/-- one change more of the deed that is put together -/
theorem cX_appendChange (l : Launch) (dC : Nat → ClassId) (dI : Nat → Nat → Nat) (h a1 a2 a3 a4 : Nat) (cA : ClassId) (sz : Nat) (sv js jv jd : Nat → Int32) (cc : Nat) (oc : Nat) (sd : Int32) (jn : Int32) (fb : Int32) (fl : Int32) (cr : Int32) (x y : Int32) (hco : cc + oc < 24) : Met l yX0_appendChange wsX0_appendChange ({ frames := 0, cells := 0, slots := 0, locals := 0 }) (ja_Pw (dC, dI) vwCl (ja_wX h a1 a2 a3 a4 cA sv js jv jd cc oc sd jn fb fl cr) [(cA, .int)] sz [.ref h, .int x, .int y]) (va_Qv (fun u : ja_SX => u = (sv, upd js (cc + oc) x, upd jv (cc + oc) y, upd jd (cc + oc) jn, cc, oc + 1, sd, jn, fb, fl, cr)) (ja_B (dC, dI) vwCl (va_A (ja_wX h a1 a2 a3 a4 cA sv js jv jd cc oc sd jn fb fl cr) sz) (ja_uX h a1 a2 a3 a4 cA)) (va_A (ja_wX h a1 a2 a3 a4 cA sv js jv jd cc oc sd jn fb fl cr) sz)) 0 0 (va_A (ja_wX h a1 a2 a3 a4 cA sv js jv jd cc oc sd jn fb fl cr) sz) := by
  refine Met.ofW (cc := cX0_appendChange) (maxL := 4) (ret := none) (by decide) rfl ?_
  intro p e s m args below meth c s₁ B hml hv
  obtain ⟨rfl, hsz, hP, hK, hD0⟩ := hv
  have hx := B.exec
  have hb := B.bytes
  have hr := B.returns
  have hts := atoms_spec (ws := wsX0_appendChange) B.pre
  have hown : s.vm.findClass RX0 = some m.cls := findClass_of_methodNamed B.named
  have hlocks := B.notSynchronized
  have hin : ∀ w ∈ u_ws RX0 TX0 11, w ∈ wsX0_appendChange := by decide +kernel
  have fk13 := hts (.fieldLink RX0 13 "JournalShelf" "journalSlot" "[I") (by decide +kernel)
  have fk16 := hts (.fieldLink RX0 16 "JournalShelf" "journalValue" "[I") (by decide +kernel)
  have fk19 := hts (.fieldLink RX0 19 "JournalShelf" "journalDeed" "[I") (by decide +kernel)
  have fk26 := hts (.fieldLink RX0 26 "JournalShelf" "openChanges" "I") (by decide +kernel)
  have fk30 := hts (.fieldLink RX0 30 "JournalShelf" "committedChanges" "I") (by decide +kernel)
  have fk40 := hts (.fieldLink RX0 40 "JournalShelf" "journalDeeds" "I") (by decide +kernel)
  subst hsz
  have hD := hD0.self (sz := s.heap.size)
  generalize hAe : va_A (ja_wX h a1 a2 a3 a4 cA sv js jv jd cc oc sd jn fb fl cr) s.heap.size = A at hD ⊢
  have hA : ∀ q : Nat, s.heap.size ≤ q → A q := fun q h => by rw [← hAe]; exact Or.inr h
  refine ja_st0 s.heap [] hP (va_S.rf (A := A)) (fun H locs hP hS => ?_)
  have hl := lv_entry ([.ref h, .int x, .int y]) (n := 4) (Nat.le_of_ble_eq_true rfl)
  rw [lg_entry_eq]
  generalize (lg_sl ([.ref h, .int x, .int y]) ++ List.replicate (4 - (lg_sl ([.ref h, .int x, .int y])).length) Slot.unset).toArray = ls at hl ⊢
  have hl : lv_has ls 4 [(0, .ref h), (1, .int x), (2, .int y)] := hl
  refine lv_aload_n hx hb dX0_appendChange_0 rfl (lv_at hl 0 rfl) ?_
  refine va_get (D := (dC, dI)) (ci := 0) (v := .int (nI cc)) (C := RX0) (T := TX0) (N := 11) hx hb hts hin hown hK hP 0 rfl rfl 4 (by decide) fk30 (fun _ h9 => h9) rfl dX0_appendChange_1 ?_
  refine lv_aload_n hx hb dX0_appendChange_4 rfl (lv_at hl 0 rfl) ?_
  refine va_get (D := (dC, dI)) (ci := 0) (v := .int (nI oc)) (C := RX0) (T := TX0) (N := 11) hx hb hts hin hown hK hP 0 rfl rfl 5 (by decide) fk26 (fun _ h9 => h9) rfl dX0_appendChange_5 ?_
  refine lv_iadd hx hb dX0_appendChange_8 ?_
  refine ja_top (y := nI (cc + oc)) (nI_add _ _) ?_
  refine lv_istore_n (lv' := [(3, .int (nI (cc + oc))), (0, .ref h), (1, .int x), (2, .int y)]) hx hb dX0_appendChange_9 rfl hl (by decide) rfl (fun ls hl => ?_)
  refine lv_iload_n hx hb dX0_appendChange_10 rfl (lv_at hl 0 rfl) ?_
  refine lv_bipush (v := nI 24) hx hb dX0_appendChange_11 (by decide +kernel) ?_
  refine ja_ilt hx hb dX0_appendChange_13 (tgt := 17) (by decide) (by omega) (by omega) (fun h13 => ?_) (fun h13 => ?_)
  · refine lv_aload_n hx hb dX0_appendChange_17 rfl (lv_at hl 1 rfl) ?_
    refine va_get (D := (dC, dI)) (ci := 0) (v := .ref a2) (C := RX0) (T := TX0) (N := 11) hx hb hts hin hown hK hP 0 rfl rfl 1 (by decide) fk13 (fun _ h9 => h9) rfl dX0_appendChange_18 ?_
    refine lv_iload_n hx hb dX0_appendChange_21 rfl (lv_at hl 0 rfl) ?_
    refine lv_iload_n hx hb dX0_appendChange_22 rfl (lv_at hl 2 rfl) ?_
    refine ja_ast hx hb hK hP hD hS 2 0 rfl rfl (by omega) (by decide) dX0_appendChange_23 (fun H locs hP hD hS => ?_)
    have hP : va_P (dC, dI) vwCl (ja_wX h a1 a2 a3 a4 cA sv (upd js (cc + oc) x) jv jd cc oc sd jn fb fl cr) H := hP
    have hD : va_D A (ja_wX h a1 a2 a3 a4 cA sv (upd js (cc + oc) x) jv jd cc oc sd jn fb fl cr) := hD
    refine lv_aload_n hx hb dX0_appendChange_24 rfl (lv_at hl 1 rfl) ?_
    refine va_get (D := (dC, dI)) (ci := 0) (v := .ref a3) (C := RX0) (T := TX0) (N := 11) hx hb hts hin hown hK hP 0 rfl rfl 2 (by decide) fk16 (fun _ h9 => h9) rfl dX0_appendChange_25 ?_
    refine lv_iload_n hx hb dX0_appendChange_28 rfl (lv_at hl 0 rfl) ?_
    refine lv_iload_n hx hb dX0_appendChange_29 rfl (lv_at hl 3 rfl) ?_
    refine ja_ast hx hb hK hP hD hS 3 0 rfl rfl (by omega) (by decide) dX0_appendChange_30 (fun H locs hP hD hS => ?_)
    have hP : va_P (dC, dI) vwCl (ja_wX h a1 a2 a3 a4 cA sv (upd js (cc + oc) x) (upd jv (cc + oc) y) jd cc oc sd jn fb fl cr) H := hP
    have hD : va_D A (ja_wX h a1 a2 a3 a4 cA sv (upd js (cc + oc) x) (upd jv (cc + oc) y) jd cc oc sd jn fb fl cr) := hD
    refine lv_aload_n hx hb dX0_appendChange_31 rfl (lv_at hl 1 rfl) ?_
    refine va_get (D := (dC, dI)) (ci := 0) (v := .ref a4) (C := RX0) (T := TX0) (N := 11) hx hb hts hin hown hK hP 0 rfl rfl 3 (by decide) fk19 (fun _ h9 => h9) rfl dX0_appendChange_32 ?_
    refine lv_iload_n hx hb dX0_appendChange_35 rfl (lv_at hl 0 rfl) ?_
    refine lv_aload_n hx hb dX0_appendChange_36 rfl (lv_at hl 1 rfl) ?_
    refine va_get (D := (dC, dI)) (ci := 0) (v := .int jn) (C := RX0) (T := TX0) (N := 11) hx hb hts hin hown hK hP 0 rfl rfl 7 (by decide) fk40 (fun _ h9 => h9) rfl dX0_appendChange_37 ?_
    refine ja_ast hx hb hK hP hD hS 4 0 rfl rfl (by omega) (by decide) dX0_appendChange_40 (fun H locs hP hD hS => ?_)
    have hP : va_P (dC, dI) vwCl (ja_wX h a1 a2 a3 a4 cA sv (upd js (cc + oc) x) (upd jv (cc + oc) y) (upd jd (cc + oc) jn) cc oc sd jn fb fl cr) H := hP
    have hD : va_D A (ja_wX h a1 a2 a3 a4 cA sv (upd js (cc + oc) x) (upd jv (cc + oc) y) (upd jd (cc + oc) jn) cc oc sd jn fb fl cr) := hD
    refine lv_aload_n hx hb dX0_appendChange_41 rfl (lv_at hl 1 rfl) ?_
    refine lv_dup hx hb dX0_appendChange_42 rfl ?_
    refine va_get (D := (dC, dI)) (ci := 0) (v := .int (nI oc)) (C := RX0) (T := TX0) (N := 11) hx hb hts hin hown hK hP 0 rfl rfl 5 (by decide) fk26 (fun _ h9 => h9) rfl dX0_appendChange_43 ?_
    refine lv_iconst (v := nI 1) hx hb dX0_appendChange_46 (by decide +kernel) ?_
    refine lv_iadd hx hb dX0_appendChange_47 ?_
    refine ja_top (y := nI (oc + 1)) (nI_add _ _) ?_
    refine va_put (D := (dC, dI)) (ci := 0) (v := .int (nI (oc + 1))) (ty := .int) (C := RX0) (T := TX0) (N := 11) hx hb hts hin tyX0 tyX0_ok nmX0 hown hK hP hD hS 0 rfl rfl 5 (by decide) fk26 (fun _ h9 => h9) rfl (by decide +kernel) rfl rfl (Nat.le_of_ble_eq_true rfl) dX0_appendChange_48 (fun H locs hP hD hS => ?_)
    have hP : va_P (dC, dI) vwCl (ja_wX h a1 a2 a3 a4 cA sv (upd js (cc + oc) x) (upd jv (cc + oc) y) (upd jd (cc + oc) jn) cc (oc + 1) sd jn fb fl cr) H := hP
    have hD : va_D A (ja_wX h a1 a2 a3 a4 cA sv (upd js (cc + oc) x) (upd jv (cc + oc) y) (upd jd (cc + oc) jn) cc (oc + 1) sd jn fb fl cr) := hD
    exact W.vret hx hb hr (fun t ht hW => ⟨⟨(sv, (upd js (cc + oc) x), (upd jv (cc + oc) y), (upd jd (cc + oc) jn), cc, (oc + 1), sd, jn, fb, fl, cr), rfl, rfl, by rw [ht]; exact hP, hD⟩, hS.F ht⟩) hS.2.2 dX0_appendChange_51
  · exact absurd h13 (by omega)
set_option maxHeartbeats 1000000 in
set_option maxRecDepth 100000 in
/-- change -/
theorem cX_change (l : Launch) (dC : Nat → ClassId) (dI : Nat → Nat → Nat) (h a1 a2 a3 a4 : Nat) (cA : ClassId) (sz : Nat) (sv js jv jd : Nat → Int32) (cc : Nat) (oc : Nat) (sd : Int32) (jn : Int32) (fb : Int32) (fl : Int32) (cr : Int32) (x y : Int32) (hcc : cc ≤ 24) (hoc : oc ≤ 17) (hco : oc = 0 ∨ cc ≤ 7) (hjs : ∀ i, i < cc → vp_in (js i) 212) : Met l yX0_change wsX0_change ({ frames := 3, cells := 0, slots := 0, locals := 65 }) (ja_Pw (dC, dI) vwCl (ja_wX h a1 a2 a3 a4 cA sv js jv jd cc oc sd jn fb fl cr) [(cA, .int)] sz [.ref h, .int x, .int y]) (va_Qi (fun (r : Int32) (u : ja_SX) => (¬ vp_in x 212 ∧ r = -1 ∧ u = (sv, js, jv, jd, cc, oc, sd, jn, fb, fl, cr)) ∨ (vp_in x 212 ∧ oc = 17 ∧ r = -2 ∧ u = (sv, js, jv, jd, cc, oc, sd, jn, fb, fl, cr)) ∨ (vp_in x 212 ∧ oc < 17 ∧ ¬ (oc = 0 ∧ 7 < cc) ∧ r = nI (oc + 1) ∧ u = (sv, upd js (cc + oc) x, upd jv (cc + oc) y, upd jd (cc + oc) jn, cc, oc + 1, sd, jn, fb, fl, cr)) ∨ (vp_in x 212 ∧ oc = 0 ∧ 7 < cc ∧ r = nI 1 ∧ ∃ n, ja_run jd cc jn n ∧ u = (ja_ap js jv sv n, upd js 0 x, upd jv 0 y, upd jd 0 (nI 0), 0, 1, sd + jn, nI 0, nI (ja_ct (ja_ls js cc) cc), fl + nI 1, cr))) (ja_B (dC, dI) vwCl (va_A (ja_wX h a1 a2 a3 a4 cA sv js jv jd cc oc sd jn fb fl cr) sz) (ja_uX h a1 a2 a3 a4 cA)) (va_A (ja_wX h a1 a2 a3 a4 cA sv js jv jd cc oc sd jn fb fl cr) sz)) 0 0 (va_A (ja_wX h a1 a2 a3 a4 cA sv js jv jd cc oc sd jn fb fl cr) sz) := by
  refine Met.ofW (cc := cX0_change) (maxL := 3) (ret := (some .int)) (by decide) rfl ?_
  intro p e s m args below meth c s₁ B hml hv
  obtain ⟨rfl, hsz, hP, hK, hD0⟩ := hv
  have hx := B.exec
  have hb := B.bytes
  have hr := B.returns
  have hts := atoms_spec (ws := wsX0_change) B.pre
  have hown : s.vm.findClass RX0 = some m.cls := findClass_of_methodNamed B.named
  have hlocks := B.notSynchronized
  have hin : ∀ w ∈ u_ws RX0 TX0 11, w ∈ wsX0_change := by decide +kernel
  have fk26 := hts (.fieldLink RX0 26 "JournalShelf" "openChanges" "I") (by decide +kernel)
  have fk30 := hts (.fieldLink RX0 30 "JournalShelf" "committedChanges" "I") (by decide +kernel)
  subst hsz
  have hD := hD0.self (sz := s.heap.size)
  generalize hAe : va_A (ja_wX h a1 a2 a3 a4 cA sv js jv jd cc oc sd jn fb fl cr) s.heap.size = A at hD ⊢
  have hA : ∀ q : Nat, s.heap.size ≤ q → A q := fun q h => by rw [← hAe]; exact Or.inr h
  refine ja_st0 s.heap [] hP (va_S.rf (A := A)) (fun H locs hP hS => ?_)
  have hl := lv_entry ([.ref h, .int x, .int y]) (n := 3) (Nat.le_of_ble_eq_true rfl)
  rw [lg_entry_eq]
  generalize (lg_sl ([.ref h, .int x, .int y]) ++ List.replicate (3 - (lg_sl ([.ref h, .int x, .int y])).length) Slot.unset).toArray = ls at hl ⊢
  have hl : lv_has ls 3 [(0, .ref h), (1, .int x), (2, .int y)] := hl
  refine lv_iload_n hx hb dX0_change_0 rfl (lv_at hl 1 rfl) ?_
  refine ja_cS (As := [.int x]) (rest := []) ⟨hx, hb, hml, hown, hts⟩ (cX_isSlot l x) (va_cwS 1 hts gX0_change_X0_isSlot rfl rfl rfl (by decide +kernel) ⟨Nat.le_of_ble_eq_true rfl, Nat.le_of_ble_eq_true rfl⟩) rfl hl.1 rfl (Nat.le_of_ble_eq_true rfl) dX0_change_1 ⟨Nat.zero_le _, Nat.zero_le _⟩ (fun r1 hr1 => ?_)
  refine lv_if_ne hx hb dX0_change_4 (tgt := 9) (by decide) (fun h4 => ?_) (fun h4 => ?_)
  · have hsl : vp_in x 212 := Or.elim hr1 (fun q => q.2) (fun q => absurd (q.1.trans nI_0) h4)
    refine lv_aload_n hx hb dX0_change_9 rfl (lv_at hl 0 rfl) ?_
    refine va_get (D := (dC, dI)) (ci := 0) (v := .int (nI oc)) (C := RX0) (T := TX0) (N := 11) hx hb hts hin hown hK hP 0 rfl rfl 5 (by decide) fk26 (fun _ h9 => h9) rfl dX0_change_10 ?_
    refine lv_bipush (v := nI 17) hx hb dX0_change_13 (by decide +kernel) ?_
    refine ja_ilt hx hb dX0_change_15 (tgt := 21) (by decide) (by omega) (by omega) (fun h15 => ?_) (fun h15 => ?_)
    · refine lv_aload_n hx hb dX0_change_21 rfl (lv_at hl 0 rfl) ?_
      refine va_get (D := (dC, dI)) (ci := 0) (v := .int (nI oc)) (C := RX0) (T := TX0) (N := 11) hx hb hts hin hown hK hP 0 rfl rfl 5 (by decide) fk26 (fun _ h9 => h9) rfl dX0_change_22 ?_
      refine ja_zne hx hb dX0_change_25 (tgt := 41) (by decide) (by omega) (fun h25 => ?_) (fun h25 => ?_)
      · refine lv_aload_n hx hb dX0_change_41 rfl (lv_at hl 0 rfl) ?_
        refine lv_iload_n hx hb dX0_change_42 rfl (lv_at hl 1 rfl) ?_
        refine lv_iload_n hx hb dX0_change_43 rfl (lv_at hl 2 rfl) ?_
        refine ja_cV (wr := []) (As := [.int x, .int y]) (rest := []) ⟨hx, hb, hml, hown, hts⟩ (cX_appendChange l dC dI h a1 a2 a3 a4 cA H.size sv js jv jd cc oc sd jn fb fl cr x y (by omega)) (cwV 2 hts gX0_change_X0_appendChange rfl rfl rfl (by decide +kernel) ⟨Nat.le_of_ble_eq_true rfl, Nat.le_of_ble_eq_true rfl⟩) hK hP hP hD hS hA [0, 1, 2, 3, 4] [] rfl rfl (by decide) (by decide) (by decide) (ja_rcv (ci := 0) (q0 := 0) hK hP rfl rfl rfl) rfl hl.1 rfl (Nat.le_of_ble_eq_true rfl) dX0_change_44 ⟨Nat.zero_le _, Nat.zero_le _⟩ (fun u H locs hu hP hD hS => ?_)
        obtain rfl := hu
        have hP : va_P (dC, dI) vwCl (ja_wX h a1 a2 a3 a4 cA sv (upd js (cc + oc) x) (upd jv (cc + oc) y) (upd jd (cc + oc) jn) cc (oc + 1) sd jn fb fl cr) H := hP
        have hD : va_D A (ja_wX h a1 a2 a3 a4 cA sv (upd js (cc + oc) x) (upd jv (cc + oc) y) (upd jd (cc + oc) jn) cc (oc + 1) sd jn fb fl cr) := hD
        refine lv_aload_n hx hb dX0_change_47 rfl (lv_at hl 0 rfl) ?_
        refine va_get (D := (dC, dI)) (ci := 0) (v := .int (nI (oc + 1))) (C := RX0) (T := TX0) (N := 11) hx hb hts hin hown hK hP 0 rfl rfl 5 (by decide) fk26 (fun _ h9 => h9) rfl dX0_change_48 ?_
        exact W.iret (v := nI (oc + 1)) hx hb hr (fun t ht hW => ⟨⟨nI (oc + 1), (sv, (upd js (cc + oc) x), (upd jv (cc + oc) y), (upd jd (cc + oc) jn), cc, (oc + 1), sd, jn, fb, fl, cr), rfl, Or.inr (Or.inr (Or.inl ⟨hsl, by omega, by omega, rfl, rfl⟩)), by rw [ht]; exact hP, hD⟩, hS.F ht⟩) hS.2.2 dX0_change_51
      · have h_oc := h25
        refine lv_aload_n hx hb dX0_change_28 rfl (lv_at hl 0 rfl) ?_
        refine va_get (D := (dC, dI)) (ci := 0) (v := .int (nI cc)) (C := RX0) (T := TX0) (N := 11) hx hb hts hin hown hK hP 0 rfl rfl 4 (by decide) fk30 (fun _ h9 => h9) rfl dX0_change_29 ?_
        refine lv_bipush (v := nI 7) hx hb dX0_change_32 (by decide +kernel) ?_
        refine ja_ile hx hb dX0_change_34 (tgt := 41) (by decide) (by omega) (by omega) (fun h34 => ?_) (fun h34 => ?_)
        · refine lv_aload_n hx hb dX0_change_41 rfl (lv_at hl 0 rfl) ?_
          refine lv_iload_n hx hb dX0_change_42 rfl (lv_at hl 1 rfl) ?_
          refine lv_iload_n hx hb dX0_change_43 rfl (lv_at hl 2 rfl) ?_
          refine ja_cV (wr := []) (As := [.int x, .int y]) (rest := []) ⟨hx, hb, hml, hown, hts⟩ (cX_appendChange l dC dI h a1 a2 a3 a4 cA H.size sv js jv jd cc oc sd jn fb fl cr x y (by omega)) (cwV 2 hts gX0_change_X0_appendChange rfl rfl rfl (by decide +kernel) ⟨Nat.le_of_ble_eq_true rfl, Nat.le_of_ble_eq_true rfl⟩) hK hP hP hD hS hA [0, 1, 2, 3, 4] [] rfl rfl (by decide) (by decide) (by decide) (ja_rcv (ci := 0) (q0 := 0) hK hP rfl rfl rfl) rfl hl.1 rfl (Nat.le_of_ble_eq_true rfl) dX0_change_44 ⟨Nat.zero_le _, Nat.zero_le _⟩ (fun u H locs hu hP hD hS => ?_)
          obtain rfl := hu
          have hP : va_P (dC, dI) vwCl (ja_wX h a1 a2 a3 a4 cA sv (upd js (cc + oc) x) (upd jv (cc + oc) y) (upd jd (cc + oc) jn) cc (oc + 1) sd jn fb fl cr) H := hP
          have hD : va_D A (ja_wX h a1 a2 a3 a4 cA sv (upd js (cc + oc) x) (upd jv (cc + oc) y) (upd jd (cc + oc) jn) cc (oc + 1) sd jn fb fl cr) := hD
          refine lv_aload_n hx hb dX0_change_47 rfl (lv_at hl 0 rfl) ?_
          refine va_get (D := (dC, dI)) (ci := 0) (v := .int (nI (oc + 1))) (C := RX0) (T := TX0) (N := 11) hx hb hts hin hown hK hP 0 rfl rfl 5 (by decide) fk26 (fun _ h9 => h9) rfl dX0_change_48 ?_
          exact W.iret (v := nI (oc + 1)) hx hb hr (fun t ht hW => ⟨⟨nI (oc + 1), (sv, (upd js (cc + oc) x), (upd jv (cc + oc) y), (upd jd (cc + oc) jn), cc, (oc + 1), sd, jn, fb, fl, cr), rfl, Or.inr (Or.inr (Or.inl ⟨hsl, by omega, by omega, rfl, rfl⟩)), by rw [ht]; exact hP, hD⟩, hS.F ht⟩) hS.2.2 dX0_change_51
        · have h_cc := h34
          refine lv_aload_n hx hb dX0_change_37 rfl (lv_at hl 0 rfl) ?_
          refine ja_cV (wr := []) (As := []) (rest := []) ⟨hx, hb, hml, hown, hts⟩ (cX_flushDisk l dC dI h a1 a2 a3 a4 cA H.size sv js jv jd cc oc sd jn fb fl cr  hcc hjs) (cwV 0 hts gX0_change_X0_flushDisk rfl rfl rfl (by decide +kernel) ⟨Nat.le_of_ble_eq_true rfl, Nat.le_of_ble_eq_true rfl⟩) hK hP hP hD hS hA [0, 1, 2, 3, 4] [] rfl rfl (by decide) (by decide) (by decide) (ja_rcv (ci := 0) (q0 := 0) hK hP rfl rfl rfl) rfl hl.1 rfl (Nat.le_of_ble_eq_true rfl) dX0_change_38 ⟨Nat.zero_le _, Nat.zero_le _⟩ (fun u H locs hu hP hD hS => ?_)
          obtain ⟨n, hn, rfl⟩ := hu
          have hP : va_P (dC, dI) vwCl (ja_wX h a1 a2 a3 a4 cA (ja_ap js jv sv n) js jv jd 0 0 (sd + jn) (nI 0) (nI (ja_ct (ja_ls js cc) cc)) (fl + nI 1) cr) H := hP
          have hD : va_D A (ja_wX h a1 a2 a3 a4 cA (ja_ap js jv sv n) js jv jd 0 0 (sd + jn) (nI 0) (nI (ja_ct (ja_ls js cc) cc)) (fl + nI 1) cr) := hD
          refine lv_aload_n hx hb dX0_change_41 rfl (lv_at hl 0 rfl) ?_
          refine lv_iload_n hx hb dX0_change_42 rfl (lv_at hl 1 rfl) ?_
          refine lv_iload_n hx hb dX0_change_43 rfl (lv_at hl 2 rfl) ?_
          refine ja_cV (wr := []) (As := [.int x, .int y]) (rest := []) ⟨hx, hb, hml, hown, hts⟩ (cX_appendChange l dC dI h a1 a2 a3 a4 cA H.size (ja_ap js jv sv n) js jv jd 0 0 (sd + jn) (nI 0) (nI (ja_ct (ja_ls js cc) cc)) (fl + nI 1) cr x y (by omega)) (cwV 2 hts gX0_change_X0_appendChange rfl rfl rfl (by decide +kernel) ⟨Nat.le_of_ble_eq_true rfl, Nat.le_of_ble_eq_true rfl⟩) hK hP hP hD hS hA [0, 1, 2, 3, 4] [] rfl rfl (by decide) (by decide) (by decide) (ja_rcv (ci := 0) (q0 := 0) hK hP rfl rfl rfl) rfl hl.1 rfl (Nat.le_of_ble_eq_true rfl) dX0_change_44 ⟨Nat.zero_le _, Nat.zero_le _⟩ (fun u H locs hu hP hD hS => ?_)
          obtain rfl := hu
          have hP : va_P (dC, dI) vwCl (ja_wX h a1 a2 a3 a4 cA (ja_ap js jv sv n) (upd js (0 + 0) x) (upd jv (0 + 0) y) (upd jd (0 + 0) (nI 0)) 0 (0 + 1) (sd + jn) (nI 0) (nI (ja_ct (ja_ls js cc) cc)) (fl + nI 1) cr) H := hP
          have hD : va_D A (ja_wX h a1 a2 a3 a4 cA (ja_ap js jv sv n) (upd js (0 + 0) x) (upd jv (0 + 0) y) (upd jd (0 + 0) (nI 0)) 0 (0 + 1) (sd + jn) (nI 0) (nI (ja_ct (ja_ls js cc) cc)) (fl + nI 1) cr) := hD
          refine lv_aload_n hx hb dX0_change_47 rfl (lv_at hl 0 rfl) ?_
          refine va_get (D := (dC, dI)) (ci := 0) (v := .int (nI (0 + 1))) (C := RX0) (T := TX0) (N := 11) hx hb hts hin hown hK hP 0 rfl rfl 5 (by decide) fk26 (fun _ h9 => h9) rfl dX0_change_48 ?_
          exact W.iret (v := nI (0 + 1)) hx hb hr (fun t ht hW => ⟨⟨nI (0 + 1), ((ja_ap js jv sv n), (upd js (0 + 0) x), (upd jv (0 + 0) y), (upd jd (0 + 0) (nI 0)), 0, (0 + 1), (sd + jn), nI 0, (nI (ja_ct (ja_ls js cc) cc)), (fl + nI 1), cr), rfl, Or.inr (Or.inr (Or.inr ⟨hsl, h_oc, h_cc, rfl, n, hn, rfl⟩)), by rw [ht]; exact hP, hD⟩, hS.F ht⟩) hS.2.2 dX0_change_51
    · refine lv_bipush (v := (-2)) hx hb dX0_change_18 (by decide +kernel) ?_
      exact W.iret (v := (-2)) hx hb hr (fun t ht hW => ⟨⟨(-2), (sv, js, jv, jd, cc, oc, sd, jn, fb, fl, cr), rfl, Or.inr (Or.inl ⟨hsl, by omega, rfl, rfl⟩), by rw [ht]; exact hP, hD⟩, hS.F ht⟩) hS.2.2 dX0_change_20
  · refine lv_iconst (v := (-1)) hx hb dX0_change_7 (by decide +kernel) ?_
    exact W.iret (v := (-1)) hx hb hr (fun t ht hW => ⟨⟨(-1), (sv, js, jv, jd, cc, oc, sd, jn, fb, fl, cr), rfl, Or.inl ⟨Or.elim hr1 (fun q => absurd (q.1.symm.trans h4) ja_n10) (fun q => q.2), rfl, rfl⟩, by rw [ht]; exact hP, hD⟩, hS.F ht⟩) hS.2.2 dX0_change_8
set_option maxHeartbeats 1000000 in
set_option maxRecDepth 100000 in
/-- commit -/
theorem cX_commit (l : Launch) (dC : Nat → ClassId) (dI : Nat → Nat → Nat) (h a1 a2 a3 a4 : Nat) (cA : ClassId) (sz : Nat) (sv js jv jd : Nat → Int32) (cc : Nat) (oc : Nat) (sd : Int32) (jn : Int32) (fb : Int32) (fl : Int32) (cr : Int32)  (hcc : cc ≤ 24) (hoc : oc ≤ 17) : Met l yX0_commit wsX0_commit ({ frames := 0, cells := 0, slots := 0, locals := 0 }) (ja_Pw (dC, dI) vwCl (ja_wX h a1 a2 a3 a4 cA sv js jv jd cc oc sd jn fb fl cr) [(cA, .int)] sz [.ref h]) (va_Qi (fun (r : Int32) (u : ja_SX) => (oc = 0 ∧ r = -1 ∧ u = (sv, js, jv, jd, cc, oc, sd, jn, fb, fl, cr)) ∨ (oc ≠ 0 ∧ r = nI oc ∧ u = (sv, js, jv, jd, cc + oc, 0, sd, jn + nI 1, fb, fl, cr))) (ja_B (dC, dI) vwCl (va_A (ja_wX h a1 a2 a3 a4 cA sv js jv jd cc oc sd jn fb fl cr) sz) (ja_uX h a1 a2 a3 a4 cA)) (va_A (ja_wX h a1 a2 a3 a4 cA sv js jv jd cc oc sd jn fb fl cr) sz)) 0 0 (va_A (ja_wX h a1 a2 a3 a4 cA sv js jv jd cc oc sd jn fb fl cr) sz) := by
  refine Met.ofW (cc := cX0_commit) (maxL := 2) (ret := (some .int)) (by decide) rfl ?_
  intro p e s m args below meth c s₁ B hml hv
  obtain ⟨rfl, hsz, hP, hK, hD0⟩ := hv
  have hx := B.exec
  have hb := B.bytes
  have hr := B.returns
  have hts := atoms_spec (ws := wsX0_commit) B.pre
  have hown : s.vm.findClass RX0 = some m.cls := findClass_of_methodNamed B.named
  have hlocks := B.notSynchronized
  have hin : ∀ w ∈ u_ws RX0 TX0 11, w ∈ wsX0_commit := by decide +kernel
  have fk26 := hts (.fieldLink RX0 26 "JournalShelf" "openChanges" "I") (by decide +kernel)
  have fk30 := hts (.fieldLink RX0 30 "JournalShelf" "committedChanges" "I") (by decide +kernel)
  have fk40 := hts (.fieldLink RX0 40 "JournalShelf" "journalDeeds" "I") (by decide +kernel)
  subst hsz
  have hD := hD0.self (sz := s.heap.size)
  generalize hAe : va_A (ja_wX h a1 a2 a3 a4 cA sv js jv jd cc oc sd jn fb fl cr) s.heap.size = A at hD ⊢
  have hA : ∀ q : Nat, s.heap.size ≤ q → A q := fun q h => by rw [← hAe]; exact Or.inr h
  refine ja_st0 s.heap [] hP (va_S.rf (A := A)) (fun H locs hP hS => ?_)
  have hl := lv_entry ([.ref h]) (n := 2) (Nat.le_of_ble_eq_true rfl)
  rw [lg_entry_eq]
  generalize (lg_sl ([.ref h]) ++ List.replicate (2 - (lg_sl ([.ref h])).length) Slot.unset).toArray = ls at hl ⊢
  have hl : lv_has ls 2 [(0, .ref h)] := hl
  refine lv_aload_n hx hb dX0_commit_0 rfl (lv_at hl 0 rfl) ?_
  refine va_get (D := (dC, dI)) (ci := 0) (v := .int (nI oc)) (C := RX0) (T := TX0) (N := 11) hx hb hts hin hown hK hP 0 rfl rfl 5 (by decide) fk26 (fun _ h9 => h9) rfl dX0_commit_1 ?_
  refine ja_zne hx hb dX0_commit_4 (tgt := 9) (by decide) (by omega) (fun h4 => ?_) (fun h4 => ?_)
  · refine lv_aload_n hx hb dX0_commit_9 rfl (lv_at hl 0 rfl) ?_
    refine va_get (D := (dC, dI)) (ci := 0) (v := .int (nI oc)) (C := RX0) (T := TX0) (N := 11) hx hb hts hin hown hK hP 0 rfl rfl 5 (by decide) fk26 (fun _ h9 => h9) rfl dX0_commit_10 ?_
    refine lv_istore_n (lv' := [(1, .int (nI oc)), (0, .ref h)]) hx hb dX0_commit_13 rfl hl (by decide) rfl (fun ls hl => ?_)
    refine lv_aload_n hx hb dX0_commit_14 rfl (lv_at hl 1 rfl) ?_
    refine lv_dup hx hb dX0_commit_15 rfl ?_
    refine va_get (D := (dC, dI)) (ci := 0) (v := .int (nI cc)) (C := RX0) (T := TX0) (N := 11) hx hb hts hin hown hK hP 0 rfl rfl 4 (by decide) fk30 (fun _ h9 => h9) rfl dX0_commit_16 ?_
    refine lv_iload_n hx hb dX0_commit_19 rfl (lv_at hl 0 rfl) ?_
    refine lv_iadd hx hb dX0_commit_20 ?_
    refine ja_top (y := nI (cc + oc)) (nI_add _ _) ?_
    refine va_put (D := (dC, dI)) (ci := 0) (v := .int (nI (cc + oc))) (ty := .int) (C := RX0) (T := TX0) (N := 11) hx hb hts hin tyX0 tyX0_ok nmX0 hown hK hP hD hS 0 rfl rfl 4 (by decide) fk30 (fun _ h9 => h9) rfl (by decide +kernel) rfl rfl (Nat.le_of_ble_eq_true rfl) dX0_commit_21 (fun H locs hP hD hS => ?_)
    have hP : va_P (dC, dI) vwCl (ja_wX h a1 a2 a3 a4 cA sv js jv jd (cc + oc) oc sd jn fb fl cr) H := hP
    have hD : va_D A (ja_wX h a1 a2 a3 a4 cA sv js jv jd (cc + oc) oc sd jn fb fl cr) := hD
    refine lv_aload_n hx hb dX0_commit_24 rfl (lv_at hl 1 rfl) ?_
    refine lv_dup hx hb dX0_commit_25 rfl ?_
    refine va_get (D := (dC, dI)) (ci := 0) (v := .int jn) (C := RX0) (T := TX0) (N := 11) hx hb hts hin hown hK hP 0 rfl rfl 7 (by decide) fk40 (fun _ h9 => h9) rfl dX0_commit_26 ?_
    refine lv_iconst (v := nI 1) hx hb dX0_commit_29 (by decide +kernel) ?_
    refine lv_iadd hx hb dX0_commit_30 ?_
    refine va_put (D := (dC, dI)) (ci := 0) (v := .int (jn + nI 1)) (ty := .int) (C := RX0) (T := TX0) (N := 11) hx hb hts hin tyX0 tyX0_ok nmX0 hown hK hP hD hS 0 rfl rfl 7 (by decide) fk40 (fun _ h9 => h9) rfl (by decide +kernel) rfl rfl (Nat.le_of_ble_eq_true rfl) dX0_commit_31 (fun H locs hP hD hS => ?_)
    have hP : va_P (dC, dI) vwCl (ja_wX h a1 a2 a3 a4 cA sv js jv jd (cc + oc) oc sd (jn + nI 1) fb fl cr) H := hP
    have hD : va_D A (ja_wX h a1 a2 a3 a4 cA sv js jv jd (cc + oc) oc sd (jn + nI 1) fb fl cr) := hD
    refine lv_aload_n hx hb dX0_commit_34 rfl (lv_at hl 1 rfl) ?_
    refine lv_iconst (v := nI 0) hx hb dX0_commit_35 (by decide +kernel) ?_
    refine va_put (D := (dC, dI)) (ci := 0) (v := .int (nI 0)) (ty := .int) (C := RX0) (T := TX0) (N := 11) hx hb hts hin tyX0 tyX0_ok nmX0 hown hK hP hD hS 0 rfl rfl 5 (by decide) fk26 (fun _ h9 => h9) rfl (by decide +kernel) rfl rfl (Nat.le_of_ble_eq_true rfl) dX0_commit_36 (fun H locs hP hD hS => ?_)
    have hP : va_P (dC, dI) vwCl (ja_wX h a1 a2 a3 a4 cA sv js jv jd (cc + oc) 0 sd (jn + nI 1) fb fl cr) H := hP
    have hD : va_D A (ja_wX h a1 a2 a3 a4 cA sv js jv jd (cc + oc) 0 sd (jn + nI 1) fb fl cr) := hD
    refine lv_iload_n hx hb dX0_commit_39 rfl (lv_at hl 0 rfl) ?_
    exact W.iret (v := nI oc) hx hb hr (fun t ht hW => ⟨⟨nI oc, (sv, js, jv, jd, (cc + oc), 0, sd, (jn + nI 1), fb, fl, cr), rfl, Or.inr ⟨h4, rfl, rfl⟩, by rw [ht]; exact hP, hD⟩, hS.F ht⟩) hS.2.2 dX0_commit_40
  · refine lv_iconst (v := (-1)) hx hb dX0_commit_7 (by decide +kernel) ?_
    exact W.iret (v := (-1)) hx hb hr (fun t ht hW => ⟨⟨(-1), (sv, js, jv, jd, cc, oc, sd, jn, fb, fl, cr), rfl, Or.inl ⟨h4, rfl, rfl⟩, by rw [ht]; exact hP, hD⟩, hS.F ht⟩) hS.2.2 dX0_commit_8
set_option maxHeartbeats 1000000 in
set_option maxRecDepth 100000 in
/-- forget -/
theorem cX_forget (l : Launch) (dC : Nat → ClassId) (dI : Nat → Nat → Nat) (h a1 a2 a3 a4 : Nat) (cA : ClassId) (sz : Nat) (sv js jv jd : Nat → Int32) (cc : Nat) (oc : Nat) (sd : Int32) (jn : Int32) (fb : Int32) (fl : Int32) (cr : Int32)   : Met l yX0_forget wsX0_forget ({ frames := 0, cells := 0, slots := 0, locals := 0 }) (ja_Pw (dC, dI) vwCl (ja_wX h a1 a2 a3 a4 cA sv js jv jd cc oc sd jn fb fl cr) [(cA, .int)] sz [.ref h]) (va_Qi (fun (r : Int32) (u : ja_SX) => r = nI oc ∧ u = (sv, js, jv, jd, cc, 0, sd, jn, fb, fl, cr)) (ja_B (dC, dI) vwCl (va_A (ja_wX h a1 a2 a3 a4 cA sv js jv jd cc oc sd jn fb fl cr) sz) (ja_uX h a1 a2 a3 a4 cA)) (va_A (ja_wX h a1 a2 a3 a4 cA sv js jv jd cc oc sd jn fb fl cr) sz)) 0 0 (va_A (ja_wX h a1 a2 a3 a4 cA sv js jv jd cc oc sd jn fb fl cr) sz) := by
  refine Met.ofW (cc := cX0_forget) (maxL := 2) (ret := (some .int)) (by decide) rfl ?_
  intro p e s m args below meth c s₁ B hml hv
  obtain ⟨rfl, hsz, hP, hK, hD0⟩ := hv
  have hx := B.exec
  have hb := B.bytes
  have hr := B.returns
  have hts := atoms_spec (ws := wsX0_forget) B.pre
  have hown : s.vm.findClass RX0 = some m.cls := findClass_of_methodNamed B.named
  have hlocks := B.notSynchronized
  have hin : ∀ w ∈ u_ws RX0 TX0 11, w ∈ wsX0_forget := by decide +kernel
  have fk26 := hts (.fieldLink RX0 26 "JournalShelf" "openChanges" "I") (by decide +kernel)
  subst hsz
  have hD := hD0.self (sz := s.heap.size)
  generalize hAe : va_A (ja_wX h a1 a2 a3 a4 cA sv js jv jd cc oc sd jn fb fl cr) s.heap.size = A at hD ⊢
  have hA : ∀ q : Nat, s.heap.size ≤ q → A q := fun q h => by rw [← hAe]; exact Or.inr h
  refine ja_st0 s.heap [] hP (va_S.rf (A := A)) (fun H locs hP hS => ?_)
  have hl := lv_entry ([.ref h]) (n := 2) (Nat.le_of_ble_eq_true rfl)
  rw [lg_entry_eq]
  generalize (lg_sl ([.ref h]) ++ List.replicate (2 - (lg_sl ([.ref h])).length) Slot.unset).toArray = ls at hl ⊢
  have hl : lv_has ls 2 [(0, .ref h)] := hl
  refine lv_aload_n hx hb dX0_forget_0 rfl (lv_at hl 0 rfl) ?_
  refine va_get (D := (dC, dI)) (ci := 0) (v := .int (nI oc)) (C := RX0) (T := TX0) (N := 11) hx hb hts hin hown hK hP 0 rfl rfl 5 (by decide) fk26 (fun _ h9 => h9) rfl dX0_forget_1 ?_
  refine lv_istore_n (lv' := [(1, .int (nI oc)), (0, .ref h)]) hx hb dX0_forget_4 rfl hl (by decide) rfl (fun ls hl => ?_)
  refine lv_aload_n hx hb dX0_forget_5 rfl (lv_at hl 1 rfl) ?_
  refine lv_iconst (v := nI 0) hx hb dX0_forget_6 (by decide +kernel) ?_
  refine va_put (D := (dC, dI)) (ci := 0) (v := .int (nI 0)) (ty := .int) (C := RX0) (T := TX0) (N := 11) hx hb hts hin tyX0 tyX0_ok nmX0 hown hK hP hD hS 0 rfl rfl 5 (by decide) fk26 (fun _ h9 => h9) rfl (by decide +kernel) rfl rfl (Nat.le_of_ble_eq_true rfl) dX0_forget_7 (fun H locs hP hD hS => ?_)
  have hP : va_P (dC, dI) vwCl (ja_wX h a1 a2 a3 a4 cA sv js jv jd cc 0 sd jn fb fl cr) H := hP
  have hD : va_D A (ja_wX h a1 a2 a3 a4 cA sv js jv jd cc 0 sd jn fb fl cr) := hD
  refine lv_iload_n hx hb dX0_forget_10 rfl (lv_at hl 0 rfl) ?_
  exact W.iret (v := nI oc) hx hb hr (fun t ht hW => ⟨⟨nI oc, (sv, js, jv, jd, cc, 0, sd, jn, fb, fl, cr), rfl, ⟨rfl, rfl⟩, by rw [ht]; exact hP, hD⟩, hS.F ht⟩) hS.2.2 dX0_forget_11
set_option maxHeartbeats 1000000 in
set_option maxRecDepth 100000 in
/-- flush -/
theorem cX_flush (l : Launch) (dC : Nat → ClassId) (dI : Nat → Nat → Nat) (h a1 a2 a3 a4 : Nat) (cA : ClassId) (sz : Nat) (sv js jv jd : Nat → Int32) (cc : Nat) (oc : Nat) (sd : Int32) (jn : Int32) (fb : Int32) (fl : Int32) (cr : Int32)  (hcc : cc ≤ 24) (hjs : ∀ i, i < cc → vp_in (js i) 212) : Met l yX0_flush wsX0_flush ({ frames := 3, cells := 0, slots := 0, locals := 65 }) (ja_Pw (dC, dI) vwCl (ja_wX h a1 a2 a3 a4 cA sv js jv jd cc oc sd jn fb fl cr) [(cA, .int)] sz [.ref h]) (va_Qi (fun (r : Int32) (u : ja_SX) => r = jn ∧ ∃ n, ja_run jd cc jn n ∧ u = (ja_ap js jv sv n, js, jv, jd, 0, 0, sd + jn, nI 0, nI (ja_ct (ja_ls js cc) cc), fl + nI 1, cr)) (ja_B (dC, dI) vwCl (va_A (ja_wX h a1 a2 a3 a4 cA sv js jv jd cc oc sd jn fb fl cr) sz) (ja_uX h a1 a2 a3 a4 cA)) (va_A (ja_wX h a1 a2 a3 a4 cA sv js jv jd cc oc sd jn fb fl cr) sz)) 0 0 (va_A (ja_wX h a1 a2 a3 a4 cA sv js jv jd cc oc sd jn fb fl cr) sz) := by
  refine Met.ofW (cc := cX0_flush) (maxL := 2) (ret := (some .int)) (by decide) rfl ?_
  intro p e s m args below meth c s₁ B hml hv
  obtain ⟨rfl, hsz, hP, hK, hD0⟩ := hv
  have hx := B.exec
  have hb := B.bytes
  have hr := B.returns
  have hts := atoms_spec (ws := wsX0_flush) B.pre
  have hown : s.vm.findClass RX0 = some m.cls := findClass_of_methodNamed B.named
  have hlocks := B.notSynchronized
  have hin : ∀ w ∈ u_ws RX0 TX0 11, w ∈ wsX0_flush := by decide +kernel
  have fk40 := hts (.fieldLink RX0 40 "JournalShelf" "journalDeeds" "I") (by decide +kernel)
  subst hsz
  have hD := hD0.self (sz := s.heap.size)
  generalize hAe : va_A (ja_wX h a1 a2 a3 a4 cA sv js jv jd cc oc sd jn fb fl cr) s.heap.size = A at hD ⊢
  have hA : ∀ q : Nat, s.heap.size ≤ q → A q := fun q h => by rw [← hAe]; exact Or.inr h
  refine ja_st0 s.heap [] hP (va_S.rf (A := A)) (fun H locs hP hS => ?_)
  have hl := lv_entry ([.ref h]) (n := 2) (Nat.le_of_ble_eq_true rfl)
  rw [lg_entry_eq]
  generalize (lg_sl ([.ref h]) ++ List.replicate (2 - (lg_sl ([.ref h])).length) Slot.unset).toArray = ls at hl ⊢
  have hl : lv_has ls 2 [(0, .ref h)] := hl
  refine lv_aload_n hx hb dX0_flush_0 rfl (lv_at hl 0 rfl) ?_
  refine va_get (D := (dC, dI)) (ci := 0) (v := .int jn) (C := RX0) (T := TX0) (N := 11) hx hb hts hin hown hK hP 0 rfl rfl 7 (by decide) fk40 (fun _ h9 => h9) rfl dX0_flush_1 ?_
  refine lv_istore_n (lv' := [(1, .int jn), (0, .ref h)]) hx hb dX0_flush_4 rfl hl (by decide) rfl (fun ls hl => ?_)
  refine lv_aload_n hx hb dX0_flush_5 rfl (lv_at hl 1 rfl) ?_
  refine ja_cV (wr := []) (As := []) (rest := []) ⟨hx, hb, hml, hown, hts⟩ (cX_flushDisk l dC dI h a1 a2 a3 a4 cA H.size sv js jv jd cc oc sd jn fb fl cr  hcc hjs) (cwV 0 hts gX0_flush_X0_flushDisk rfl rfl rfl (by decide +kernel) ⟨Nat.le_of_ble_eq_true rfl, Nat.le_of_ble_eq_true rfl⟩) hK hP hP hD hS hA [0, 1, 2, 3, 4] [] rfl rfl (by decide) (by decide) (by decide) (ja_rcv (ci := 0) (q0 := 0) hK hP rfl rfl rfl) rfl hl.1 rfl (Nat.le_of_ble_eq_true rfl) dX0_flush_6 ⟨Nat.zero_le _, Nat.zero_le _⟩ (fun u H locs hu hP hD hS => ?_)
  obtain ⟨n, hn, rfl⟩ := hu
  have hP : va_P (dC, dI) vwCl (ja_wX h a1 a2 a3 a4 cA (ja_ap js jv sv n) js jv jd 0 0 (sd + jn) (nI 0) (nI (ja_ct (ja_ls js cc) cc)) (fl + nI 1) cr) H := hP
  have hD : va_D A (ja_wX h a1 a2 a3 a4 cA (ja_ap js jv sv n) js jv jd 0 0 (sd + jn) (nI 0) (nI (ja_ct (ja_ls js cc) cc)) (fl + nI 1) cr) := hD
  refine lv_iload_n hx hb dX0_flush_9 rfl (lv_at hl 0 rfl) ?_
  exact W.iret (v := jn) hx hb hr (fun t ht hW => ⟨⟨jn, ((ja_ap js jv sv n), js, jv, jd, 0, 0, (sd + jn), nI 0, (nI (ja_ct (ja_ls js cc) cc)), (fl + nI 1), cr), rfl, ⟨rfl, n, hn, rfl⟩, by rw [ht]; exact hP, hD⟩, hS.F ht⟩) hS.2.2 dX0_flush_10
set_option maxHeartbeats 1000000 in
set_option maxRecDepth 100000 in
/-- crash -/
theorem cX_crash (l : Launch) (dC : Nat → ClassId) (dI : Nat → Nat → Nat) (h a1 a2 a3 a4 : Nat) (cA : ClassId) (sz : Nat) (sv js jv jd : Nat → Int32) (cc : Nat) (oc : Nat) (sd : Int32) (jn : Int32) (fb : Int32) (fl : Int32) (cr : Int32) (mask part : Int32) (hcc : cc ≤ 24) (hjs : ∀ i, i < cc → vp_in (js i) 212) : Met l yX0_crash wsX0_crash ({ frames := 2, cells := 0, slots := 0, locals := 43 }) (ja_Pw (dC, dI) vwCl (ja_wX h a1 a2 a3 a4 cA sv js jv jd cc oc sd jn fb fl cr) [(cA, .int)] sz [.ref h, .int mask, .int part]) (va_Qi (fun (r : Int32) (u : ja_SX) => ((part < 0 ∨ nI 500 < part) ∧ r = -1 ∧ u = (sv, js, jv, jd, cc, oc, sd, jn, fb, fl, cr)) ∨ (¬ part < 0 ∧ ¬ nI 500 < part ∧ ∃ w n, ja_wd jd cc fb jn mask w ∧ ja_run jd cc w n ∧ r = jn - w ∧ u = (ja_ap js jv sv n, js, jv, jd, 0, 0, sd + w, nI 0, nI 0, fl, cr + nI 1))) (ja_B (dC, dI) vwCl (va_A (ja_wX h a1 a2 a3 a4 cA sv js jv jd cc oc sd jn fb fl cr) sz) (ja_uX h a1 a2 a3 a4 cA)) (va_A (ja_wX h a1 a2 a3 a4 cA sv js jv jd cc oc sd jn fb fl cr) sz)) 0 0 (va_A (ja_wX h a1 a2 a3 a4 cA sv js jv jd cc oc sd jn fb fl cr) sz) := by
  refine Met.ofW (cc := cX0_crash) (maxL := 5) (ret := (some .int)) (by decide) rfl ?_
  intro p e s m args below meth c s₁ B hml hv
  obtain ⟨rfl, hsz, hP, hK, hD0⟩ := hv
  have hx := B.exec
  have hb := B.bytes
  have hr := B.returns
  have hts := atoms_spec (ws := wsX0_crash) B.pre
  have hown : s.vm.findClass RX0 = some m.cls := findClass_of_methodNamed B.named
  have hlocks := B.notSynchronized
  have hin : ∀ w ∈ u_ws RX0 TX0 11, w ∈ wsX0_crash := by decide +kernel
  have fk40 := hts (.fieldLink RX0 40 "JournalShelf" "journalDeeds" "I") (by decide +kernel)
  have fk51 := hts (.fieldLink RX0 51 "JournalShelf" "flushBlocks" "I") (by decide +kernel)
  have fk54 := hts (.fieldLink RX0 54 "JournalShelf" "crashes" "I") (by decide +kernel)
  subst hsz
  have hD := hD0.self (sz := s.heap.size)
  generalize hAe : va_A (ja_wX h a1 a2 a3 a4 cA sv js jv jd cc oc sd jn fb fl cr) s.heap.size = A at hD ⊢
  have hA : ∀ q : Nat, s.heap.size ≤ q → A q := fun q h => by rw [← hAe]; exact Or.inr h
  refine ja_st0 s.heap [] hP (va_S.rf (A := A)) (fun H locs hP hS => ?_)
  have hl := lv_entry ([.ref h, .int mask, .int part]) (n := 5) (Nat.le_of_ble_eq_true rfl)
  rw [lg_entry_eq]
  generalize (lg_sl ([.ref h, .int mask, .int part]) ++ List.replicate (5 - (lg_sl ([.ref h, .int mask, .int part])).length) Slot.unset).toArray = ls at hl ⊢
  have hl : lv_has ls 5 [(0, .ref h), (1, .int mask), (2, .int part)] := hl
  refine lv_iload_n hx hb dX0_crash_0 rfl (lv_at hl 2 rfl) ?_
  refine lv_if_lt hx hb dX0_crash_1 (tgt := 11) (by decide) (fun h1 => ?_) (fun h1 => ?_)
  · refine lv_iconst (v := (-1)) hx hb dX0_crash_11 (by decide +kernel) ?_
    exact W.iret (v := (-1)) hx hb hr (fun t ht hW => ⟨⟨(-1), (sv, js, jv, jd, cc, oc, sd, jn, fb, fl, cr), rfl, Or.inl ⟨Or.inl h1, rfl, rfl⟩, by rw [ht]; exact hP, hD⟩, hS.F ht⟩) hS.2.2 dX0_crash_12
  · have hp0 := h1
    refine lv_iload_n hx hb dX0_crash_4 rfl (lv_at hl 2 rfl) ?_
    refine lv_sipush (v := nI 500) hx hb dX0_crash_5 (by decide +kernel) ?_
    refine lv_icmp_le hx hb dX0_crash_8 (tgt := 13) (by decide) (fun h8 => ?_) (fun h8 => ?_)
    · have hp1 := Int32.not_lt.mpr h8
      refine lv_aload_n hx hb dX0_crash_13 rfl (lv_at hl 0 rfl) ?_
      refine lv_iload_n hx hb dX0_crash_14 rfl (lv_at hl 1 rfl) ?_
      refine ja_cR (As := [.int mask]) (rest := []) ⟨hx, hb, hml, hown, hts⟩ (cX_wholeDeeds l dC dI h a1 a2 a3 a4 cA sv js jv jd cc oc sd jn fb fl cr mask hcc) (cwV 1 hts gX0_crash_X0_wholeDeeds rfl rfl rfl (by decide +kernel) ⟨Nat.le_of_ble_eq_true rfl, Nat.le_of_ble_eq_true rfl⟩) hK hP (ja_rcv (ci := 0) (q0 := 0) hK hP rfl rfl rfl) rfl hl.1 rfl (Nat.le_of_ble_eq_true rfl) dX0_crash_15 ⟨Nat.zero_le _, Nat.zero_le _⟩ (fun r15 hr15 => ?_)
      refine lv_istore_n (lv' := [(3, .int r15), (0, .ref h), (1, .int mask), (2, .int part)]) hx hb dX0_crash_18 rfl hl (by decide) rfl (fun ls hl => ?_)
      refine lv_aload_n hx hb dX0_crash_19 rfl (lv_at hl 1 rfl) ?_
      refine va_get (D := (dC, dI)) (ci := 0) (v := .int jn) (C := RX0) (T := TX0) (N := 11) hx hb hts hin hown hK hP 0 rfl rfl 7 (by decide) fk40 (fun _ h9 => h9) rfl dX0_crash_20 ?_
      refine lv_iload_n hx hb dX0_crash_23 rfl (lv_at hl 0 rfl) ?_
      refine lv_isub hx hb dX0_crash_24 ?_
      refine lv_istore (lv' := [(4, .int (jn - r15)), (3, .int r15), (0, .ref h), (1, .int mask), (2, .int part)]) hx hb dX0_crash_25 hl (by decide) rfl (fun ls hl => ?_)
      refine lv_aload_n hx hb dX0_crash_27 rfl (lv_at hl 2 rfl) ?_
      refine lv_iload_n hx hb dX0_crash_28 rfl (lv_at hl 1 rfl) ?_
      refine ja_cV (wr := []) (As := [.int r15]) (rest := []) ⟨hx, hb, hml, hown, hts⟩ (cX_makeSafe l dC dI h a1 a2 a3 a4 cA H.size sv js jv jd cc oc sd jn fb fl cr r15 hcc hjs) (cwV 1 hts gX0_crash_X0_makeSafe rfl rfl rfl (by decide +kernel) ⟨Nat.le_of_ble_eq_true rfl, Nat.le_of_ble_eq_true rfl⟩) hK hP hP hD hS hA [0, 1, 2, 3, 4] [] rfl rfl (by decide) (by decide) (by decide) (ja_rcv (ci := 0) (q0 := 0) hK hP rfl rfl rfl) rfl hl.1 rfl (Nat.le_of_ble_eq_true rfl) dX0_crash_29 ⟨Nat.zero_le _, Nat.zero_le _⟩ (fun u H locs hu hP hD hS => ?_)
      obtain ⟨n, hn, rfl⟩ := hu
      have hP : va_P (dC, dI) vwCl (ja_wX h a1 a2 a3 a4 cA (ja_ap js jv sv n) js jv jd 0 0 (sd + r15) (nI 0) fb fl cr) H := hP
      have hD : va_D A (ja_wX h a1 a2 a3 a4 cA (ja_ap js jv sv n) js jv jd 0 0 (sd + r15) (nI 0) fb fl cr) := hD
      refine lv_aload_n hx hb dX0_crash_32 rfl (lv_at hl 2 rfl) ?_
      refine lv_iconst (v := nI 0) hx hb dX0_crash_33 (by decide +kernel) ?_
      refine va_put (D := (dC, dI)) (ci := 0) (v := .int (nI 0)) (ty := .int) (C := RX0) (T := TX0) (N := 11) hx hb hts hin tyX0 tyX0_ok nmX0 hown hK hP hD hS 0 rfl rfl 8 (by decide) fk51 (fun _ h9 => h9) rfl (by decide +kernel) rfl rfl (Nat.le_of_ble_eq_true rfl) dX0_crash_34 (fun H locs hP hD hS => ?_)
      have hP : va_P (dC, dI) vwCl (ja_wX h a1 a2 a3 a4 cA (ja_ap js jv sv n) js jv jd 0 0 (sd + r15) (nI 0) (nI 0) fl cr) H := hP
      have hD : va_D A (ja_wX h a1 a2 a3 a4 cA (ja_ap js jv sv n) js jv jd 0 0 (sd + r15) (nI 0) (nI 0) fl cr) := hD
      refine lv_aload_n hx hb dX0_crash_37 rfl (lv_at hl 2 rfl) ?_
      refine lv_dup hx hb dX0_crash_38 rfl ?_
      refine va_get (D := (dC, dI)) (ci := 0) (v := .int cr) (C := RX0) (T := TX0) (N := 11) hx hb hts hin hown hK hP 0 rfl rfl 10 (by decide) fk54 (fun _ h9 => h9) rfl dX0_crash_39 ?_
      refine lv_iconst (v := nI 1) hx hb dX0_crash_42 (by decide +kernel) ?_
      refine lv_iadd hx hb dX0_crash_43 ?_
      refine va_put (D := (dC, dI)) (ci := 0) (v := .int (cr + nI 1)) (ty := .int) (C := RX0) (T := TX0) (N := 11) hx hb hts hin tyX0 tyX0_ok nmX0 hown hK hP hD hS 0 rfl rfl 10 (by decide) fk54 (fun _ h9 => h9) rfl (by decide +kernel) rfl rfl (Nat.le_of_ble_eq_true rfl) dX0_crash_44 (fun H locs hP hD hS => ?_)
      have hP : va_P (dC, dI) vwCl (ja_wX h a1 a2 a3 a4 cA (ja_ap js jv sv n) js jv jd 0 0 (sd + r15) (nI 0) (nI 0) fl (cr + nI 1)) H := hP
      have hD : va_D A (ja_wX h a1 a2 a3 a4 cA (ja_ap js jv sv n) js jv jd 0 0 (sd + r15) (nI 0) (nI 0) fl (cr + nI 1)) := hD
      refine lv_iload hx hb dX0_crash_47 (lv_at hl 0 rfl) ?_
      exact W.iret (v := (jn - r15)) hx hb hr (fun t ht hW => ⟨⟨(jn - r15), ((ja_ap js jv sv n), js, jv, jd, 0, 0, (sd + r15), nI 0, nI 0, fl, (cr + nI 1)), rfl, Or.inr ⟨hp0, hp1, r15, n, hr15, hn, rfl, rfl⟩, by rw [ht]; exact hP, hD⟩, hS.F ht⟩) hS.2.2 dX0_crash_49
    · refine lv_iconst (v := (-1)) hx hb dX0_crash_11 (by decide +kernel) ?_
      exact W.iret (v := (-1)) hx hb hr (fun t ht hW => ⟨⟨(-1), (sv, js, jv, jd, cc, oc, sd, jn, fb, fl, cr), rfl, Or.inl ⟨Or.inr (Int32.not_le.mp h8), rfl, rfl⟩, by rw [ht]; exact hP, hD⟩, hS.F ht⟩) hS.2.2 dX0_crash_12
set_option maxHeartbeats 1000000 in
set_option maxRecDepth 100000 in
/-- get -/
theorem cX_get (l : Launch) (dC : Nat → ClassId) (dI : Nat → Nat → Nat) (h a1 a2 a3 a4 : Nat) (cA : ClassId) (sv js jv jd : Nat → Int32) (cc : Nat) (oc : Nat) (sd : Int32) (jn : Int32) (fb : Int32) (fl : Int32) (cr : Int32) (x : Int32) (hcc : cc ≤ 24) : Met l yX0_get wsX0_get ({ frames := 1, cells := 0, slots := 0, locals := 20 }) (ja_Pr (dC, dI) vwCl (ja_wX h a1 a2 a3 a4 cA sv js jv jd cc oc sd jn fb fl cr) [(cA, .int)] [.ref h, .int x]) (vp_Si (fun r => (¬ vp_in x 212 ∧ r = nI 0) ∨ (vp_in x 212 ∧ ((∃ i, i < cc ∧ js i = x ∧ (∀ j, i < j → j < cc → js j ≠ x) ∧ r = jv i) ∨ ((∀ j, j < cc → js j ≠ x) ∧ r = sv x.toNatClampNeg))))) 0 0 (fun _ => False) := by
  refine Met.ofW (cc := cX0_get) (maxL := 3) (ret := (some .int)) (by decide) rfl ?_
  intro p e s m args below meth c s₁ B hml hv
  obtain ⟨rfl, hP, hK⟩ := hv
  have hx := B.exec
  have hb := B.bytes
  have hr := B.returns
  have hts := atoms_spec (ws := wsX0_get) B.pre
  have hown : s.vm.findClass RX0 = some m.cls := findClass_of_methodNamed B.named
  have hlocks := B.notSynchronized
  have hin : ∀ w ∈ u_ws RX0 TX0 11, w ∈ wsX0_get := by decide +kernel
  have fk9 := hts (.fieldLink RX0 9 "JournalShelf" "safeValue" "[I") (by decide +kernel)
  have fk13 := hts (.fieldLink RX0 13 "JournalShelf" "journalSlot" "[I") (by decide +kernel)
  have fk16 := hts (.fieldLink RX0 16 "JournalShelf" "journalValue" "[I") (by decide +kernel)
  have fk30 := hts (.fieldLink RX0 30 "JournalShelf" "committedChanges" "I") (by decide +kernel)
  have hl := lv_entry ([.ref h, .int x]) (n := 3) (Nat.le_of_ble_eq_true rfl)
  rw [lg_entry_eq]
  generalize (lg_sl ([.ref h, .int x]) ++ List.replicate (3 - (lg_sl ([.ref h, .int x])).length) Slot.unset).toArray = ls at hl ⊢
  have hl : lv_has ls 3 [(0, .ref h), (1, .int x)] := hl
  refine lv_iload_n hx hb dX0_get_0 rfl (lv_at hl 1 rfl) ?_
  refine ja_cS (As := [.int x]) (rest := []) ⟨hx, hb, hml, hown, hts⟩ (cX_isSlot l x) (va_cwS 1 hts gX0_get_X0_isSlot rfl rfl rfl (by decide +kernel) ⟨Nat.le_of_ble_eq_true rfl, Nat.le_of_ble_eq_true rfl⟩) rfl hl.1 rfl (Nat.le_of_ble_eq_true rfl) dX0_get_1 ⟨Nat.zero_le _, Nat.zero_le _⟩ (fun r1 hr1 => ?_)
  refine lv_if_ne hx hb dX0_get_4 (tgt := 9) (by decide) (fun h4 => ?_) (fun h4 => ?_)
  · have hsl : vp_in x 212 := Or.elim hr1 (fun q => q.2) (fun q => absurd (q.1.trans nI_0) h4)
    refine lv_aload_n hx hb dX0_get_9 rfl (lv_at hl 0 rfl) ?_
    refine va_get (D := (dC, dI)) (ci := 0) (v := .int (nI cc)) (C := RX0) (T := TX0) (N := 11) hx hb hts hin hown hK hP 0 rfl rfl 4 (by decide) fk30 (fun _ h9 => h9) rfl dX0_get_10 ?_
    refine lv_iconst (v := nI 1) hx hb dX0_get_13 (by decide +kernel) ?_
    refine lv_isub hx hb dX0_get_14 ?_
    refine ja_top (y := nI cc - 1) (congrArg (nI cc - ·) (by decide +kernel)) ?_
    refine lv_istore_n (lv' := [(2, .int (nI cc - 1)), (0, .ref h), (1, .int x)]) hx hb dX0_get_15 rfl hl (by decide) rfl (fun ls hl => ?_)
    refine ja_lpR 16 (fun (k : Nat) ls => lv_has ls 3 [(2, .int (nI k - 1)), (0, .ref h), (1, .int x)] ∧ k ≤ cc ∧ (∀ j, k ≤ j → j < cc → js j ≠ x)) (fun k => k) ?_ cc ls ⟨lv_sub hl [0, 1, 2] rfl, Nat.le_refl _, (fun j h1 h2 => absurd h1 (by omega))⟩
    intro k ls hI ih0
    obtain ⟨hl, hi, hq⟩ := hI
    have hl : lv_has ls 3 [(2, .int (nI k - 1)), (0, .ref h), (1, .int x)] := hl
    refine lv_iload_n hx hb dX0_get_16 rfl (lv_at hl 0 rfl) ?_
    refine lv_if_lt hx hb dX0_get_17 (tgt := 43) (by decide) (fun h17 => ?_) (fun h17 => ?_)
    · have hk0 : k = 0 := ja_pneg (by omega) h17
      refine lv_aload_n hx hb dX0_get_43 rfl (lv_at hl 1 rfl) ?_
      refine va_get (D := (dC, dI)) (ci := 0) (v := .ref a1) (C := RX0) (T := TX0) (N := 11) hx hb hts hin hown hK hP 0 rfl rfl 0 (by decide) fk9 (fun _ h9 => h9) rfl dX0_get_44 ?_
      refine lv_iload_n hx hb dX0_get_47 rfl (lv_at hl 2 rfl) ?_
      refine va_iald hx hb hK hP 1 0 rfl rfl hsl dX0_get_48 ?_
      exact W.iret (v := (sv x.toNatClampNeg)) hx hb hr (fun t ht hW => ⟨_, rfl, Or.inr ⟨hsl, Or.inr ⟨fun j hj => hq j (by omega) hj, rfl⟩⟩, ht⟩) (fun q h => by cases h) dX0_get_49
    · obtain ⟨kk, rfl⟩ : ∃ kk, k = kk + 1 := ja_ppos (by omega) h17
      have hl : lv_has ls 3 [(2, .int (nI kk)), (0, .ref h), (1, .int x)] := by have h9 := hl; rw [nI_pred kk] at h9; exact h9
      refine lv_aload_n hx hb dX0_get_20 rfl (lv_at hl 1 rfl) ?_
      refine va_get (D := (dC, dI)) (ci := 0) (v := .ref a2) (C := RX0) (T := TX0) (N := 11) hx hb hts hin hown hK hP 0 rfl rfl 1 (by decide) fk13 (fun _ h9 => h9) rfl dX0_get_21 ?_
      refine lv_iload_n hx hb dX0_get_24 rfl (lv_at hl 0 rfl) ?_
      refine ja_ald hx hb hK hP 2 0 rfl rfl (by omega) (by decide) dX0_get_25 ?_
      refine lv_iload_n hx hb dX0_get_26 rfl (lv_at hl 2 rfl) ?_
      refine lv_icmp_ne hx hb dX0_get_27 (tgt := 37) (by decide) (fun h27 => ?_) (fun h27 => ?_)
      · have hne := h27
        -- iinc
        refine lv_iinc (k := 0) (v := (nI kk - 1)) (lv' := [(2, .int (nI kk - 1)), (0, .ref h), (1, .int x)]) hx hb dX0_get_37 hl rfl (ja_dec _) (by decide) rfl (fun ls hl => ?_)
        refine lv_goto (tgt := 16) hx hb dX0_get_40 (by decide) ?_
        exact ih0 kk ls ⟨lv_sub hl [0, 1, 2] rfl, (by omega), (fun j h1 h2 => by rcases Nat.lt_or_eq_of_le h1 with h3 | h3; exact hq j h3 h2; rw [← h3]; exact hne)⟩ (show kk < (kk + 1) by omega)
      · refine lv_aload_n hx hb dX0_get_30 rfl (lv_at hl 1 rfl) ?_
        refine va_get (D := (dC, dI)) (ci := 0) (v := .ref a3) (C := RX0) (T := TX0) (N := 11) hx hb hts hin hown hK hP 0 rfl rfl 2 (by decide) fk16 (fun _ h9 => h9) rfl dX0_get_31 ?_
        refine lv_iload_n hx hb dX0_get_34 rfl (lv_at hl 0 rfl) ?_
        refine ja_ald hx hb hK hP 3 0 rfl rfl (by omega) (by decide) dX0_get_35 ?_
        exact W.iret (v := (jv kk)) hx hb hr (fun t ht hW => ⟨_, rfl, Or.inr ⟨hsl, Or.inl ⟨kk, by omega, h27, fun j h1 h2 => hq j h1 h2, rfl⟩⟩, ht⟩) (fun q h => by cases h) dX0_get_36
  · refine lv_iconst (v := nI 0) hx hb dX0_get_7 (by decide +kernel) ?_
    exact W.iret (v := nI 0) hx hb hr (fun t ht hW => ⟨_, rfl, Or.inl ⟨Or.elim hr1 (fun q => absurd (q.1.symm.trans h4) ja_n10) (fun q => q.2), rfl⟩, ht⟩) (fun q h => by cases h) dX0_get_8
set_option maxHeartbeats 1000000 in
set_option maxRecDepth 100000 in
/-- torn -/
theorem cX_torn (l : Launch) (dC : Nat → ClassId) (dI : Nat → Nat → Nat) (h a1 a2 a3 a4 : Nat) (cA : ClassId) (sv js jv jd : Nat → Int32) (cc : Nat) (oc : Nat) (sd : Int32) (jn : Int32) (fb : Int32) (fl : Int32) (cr : Int32)   : Met l yX0_torn wsX0_torn ({ frames := 0, cells := 0, slots := 0, locals := 0 }) (ja_Pr (dC, dI) vwCl (ja_wX h a1 a2 a3 a4 cA sv js jv jd cc oc sd jn fb fl cr) [(cA, .int)] [.ref h]) (vp_Si (fun r => r = nI 0)) 0 0 (fun _ => False) := by
  refine Met.ofW (cc := cX0_torn) (maxL := 1) (ret := (some .int)) (by decide) rfl ?_
  intro p e s m args below meth c s₁ B hml hv
  obtain ⟨rfl, hP, hK⟩ := hv
  have hx := B.exec
  have hb := B.bytes
  have hr := B.returns
  have hts := atoms_spec (ws := wsX0_torn) B.pre
  have hown : s.vm.findClass RX0 = some m.cls := findClass_of_methodNamed B.named
  have hlocks := B.notSynchronized
  have hl := lv_entry ([.ref h]) (n := 1) (Nat.le_of_ble_eq_true rfl)
  rw [lg_entry_eq]
  generalize (lg_sl ([.ref h]) ++ List.replicate (1 - (lg_sl ([.ref h])).length) Slot.unset).toArray = ls at hl ⊢
  have hl : lv_has ls 1 [(0, .ref h)] := hl
  refine lv_iconst (v := nI 0) hx hb dX0_torn_0 (by decide +kernel) ?_
  exact W.iret (v := nI 0) hx hb hr (fun t ht hW => ⟨_, rfl, rfl, ht⟩) (fun q h => by cases h) dX0_torn_1
set_option maxHeartbeats 1000000 in
set_option maxRecDepth 100000 in
/-- count -/
theorem cX_count (l : Launch) (dC : Nat → ClassId) (dI : Nat → Nat → Nat) (h a1 a2 a3 a4 : Nat) (cA : ClassId) (sv js jv jd : Nat → Int32) (cc : Nat) (oc : Nat) (sd : Int32) (jn : Int32) (fb : Int32) (fl : Int32) (cr : Int32) (x : Int32)  : Met l yX0_count wsX0_count ({ frames := 0, cells := 0, slots := 0, locals := 0 }) (ja_Pr (dC, dI) vwCl (ja_wX h a1 a2 a3 a4 cA sv js jv jd cc oc sd jn fb fl cr) [(cA, .int)] [.ref h, .int x]) (vp_Si (fun r => r = ja_sel x (sd + jn) jn (fb + nI cc) (nI oc) fl cr)) 0 0 (fun _ => False) := by
  refine Met.ofW (cc := cX0_count) (maxL := 2) (ret := (some .int)) (by decide) rfl ?_
  intro p e s m args below meth c s₁ B hml hv
  obtain ⟨rfl, hP, hK⟩ := hv
  have hx := B.exec
  have hb := B.bytes
  have hr := B.returns
  have hts := atoms_spec (ws := wsX0_count) B.pre
  have hown : s.vm.findClass RX0 = some m.cls := findClass_of_methodNamed B.named
  have hlocks := B.notSynchronized
  have hin : ∀ w ∈ u_ws RX0 TX0 11, w ∈ wsX0_count := by decide +kernel
  have fk26 := hts (.fieldLink RX0 26 "JournalShelf" "openChanges" "I") (by decide +kernel)
  have fk30 := hts (.fieldLink RX0 30 "JournalShelf" "committedChanges" "I") (by decide +kernel)
  have fk40 := hts (.fieldLink RX0 40 "JournalShelf" "journalDeeds" "I") (by decide +kernel)
  have fk51 := hts (.fieldLink RX0 51 "JournalShelf" "flushBlocks" "I") (by decide +kernel)
  have fk54 := hts (.fieldLink RX0 54 "JournalShelf" "crashes" "I") (by decide +kernel)
  have fk57 := hts (.fieldLink RX0 57 "JournalShelf" "safeDeeds" "I") (by decide +kernel)
  have fk60 := hts (.fieldLink RX0 60 "JournalShelf" "flushes" "I") (by decide +kernel)
  have hl := lv_entry ([.ref h, .int x]) (n := 2) (Nat.le_of_ble_eq_true rfl)
  rw [lg_entry_eq]
  generalize (lg_sl ([.ref h, .int x]) ++ List.replicate (2 - (lg_sl ([.ref h, .int x])).length) Slot.unset).toArray = ls at hl ⊢
  have hl : lv_has ls 2 [(0, .ref h), (1, .int x)] := hl
  refine lv_iload_n hx hb dX0_count_0 rfl (lv_at hl 1 rfl) ?_
  rcases pk_ix x (n := 6) (by decide) with hw | hw | ⟨j, hj, rfl⟩
  · refine lv_tableOut (tgt := 80) hx hb dX0_count_1 (Or.inl (by have := Int32.lt_iff_toInt_lt.mp hw; simpa using this)) (by decide) ?_
    refine lv_iconst (v := (-1)) hx hb dX0_count_80 (by decide +kernel) ?_
    exact W.iret (v := (-1)) hx hb hr (fun t ht hW => ⟨_, rfl, (ja_selD (Or.inl hw)).symm, ht⟩) (fun q h => by cases h) dX0_count_81
  · refine lv_tableOut (tgt := 80) hx hb dX0_count_1 (Or.inr (by have h := Int32.le_iff_toInt_le.mp hw; rw [nI_toInt (by decide)] at h; omega)) (by decide) ?_
    refine lv_iconst (v := (-1)) hx hb dX0_count_80 (by decide +kernel) ?_
    exact W.iret (v := (-1)) hx hb hr (fun t ht hW => ⟨_, rfl, (ja_selD (Or.inr hw)).symm, ht⟩) (fun q h => by cases h) dX0_count_81
  · obtain rfl | rfl | rfl | rfl | rfl | rfl : j = 0 ∨ j = 1 ∨ j = 2 ∨ j = 3 ∨ j = 4 ∨ j = 5 := by omega
    · refine lv_tableIn (off := 39) (tgt := 40) hx hb dX0_count_1 (by decide +kernel) (by decide +kernel) (by decide +kernel) (by decide) ?_
      refine lv_aload_n hx hb dX0_count_40 rfl (lv_at hl 0 rfl) ?_
      refine va_get (D := (dC, dI)) (ci := 0) (v := .int sd) (C := RX0) (T := TX0) (N := 11) hx hb hts hin hown hK hP 0 rfl rfl 6 (by decide) fk57 (fun _ h9 => h9) rfl dX0_count_41 ?_
      refine lv_aload_n hx hb dX0_count_44 rfl (lv_at hl 0 rfl) ?_
      refine va_get (D := (dC, dI)) (ci := 0) (v := .int jn) (C := RX0) (T := TX0) (N := 11) hx hb hts hin hown hK hP 0 rfl rfl 7 (by decide) fk40 (fun _ h9 => h9) rfl dX0_count_45 ?_
      refine lv_iadd hx hb dX0_count_48 ?_
      exact W.iret (v := (sd + jn)) hx hb hr (fun t ht hW => ⟨_, rfl, ja_sel0.symm, ht⟩) (fun q h => by cases h) dX0_count_49
    · refine lv_tableIn (off := 49) (tgt := 50) hx hb dX0_count_1 (by decide +kernel) (by decide +kernel) (by decide +kernel) (by decide) ?_
      refine lv_aload_n hx hb dX0_count_50 rfl (lv_at hl 0 rfl) ?_
      refine va_get (D := (dC, dI)) (ci := 0) (v := .int jn) (C := RX0) (T := TX0) (N := 11) hx hb hts hin hown hK hP 0 rfl rfl 7 (by decide) fk40 (fun _ h9 => h9) rfl dX0_count_51 ?_
      exact W.iret (v := jn) hx hb hr (fun t ht hW => ⟨_, rfl, ja_sel1.symm, ht⟩) (fun q h => by cases h) dX0_count_54
    · refine lv_tableIn (off := 54) (tgt := 55) hx hb dX0_count_1 (by decide +kernel) (by decide +kernel) (by decide +kernel) (by decide) ?_
      refine lv_aload_n hx hb dX0_count_55 rfl (lv_at hl 0 rfl) ?_
      refine va_get (D := (dC, dI)) (ci := 0) (v := .int fb) (C := RX0) (T := TX0) (N := 11) hx hb hts hin hown hK hP 0 rfl rfl 8 (by decide) fk51 (fun _ h9 => h9) rfl dX0_count_56 ?_
      refine lv_aload_n hx hb dX0_count_59 rfl (lv_at hl 0 rfl) ?_
      refine va_get (D := (dC, dI)) (ci := 0) (v := .int (nI cc)) (C := RX0) (T := TX0) (N := 11) hx hb hts hin hown hK hP 0 rfl rfl 4 (by decide) fk30 (fun _ h9 => h9) rfl dX0_count_60 ?_
      refine lv_iadd hx hb dX0_count_63 ?_
      exact W.iret (v := (fb + nI cc)) hx hb hr (fun t ht hW => ⟨_, rfl, ja_sel2.symm, ht⟩) (fun q h => by cases h) dX0_count_64
    · refine lv_tableIn (off := 64) (tgt := 65) hx hb dX0_count_1 (by decide +kernel) (by decide +kernel) (by decide +kernel) (by decide) ?_
      refine lv_aload_n hx hb dX0_count_65 rfl (lv_at hl 0 rfl) ?_
      refine va_get (D := (dC, dI)) (ci := 0) (v := .int (nI oc)) (C := RX0) (T := TX0) (N := 11) hx hb hts hin hown hK hP 0 rfl rfl 5 (by decide) fk26 (fun _ h9 => h9) rfl dX0_count_66 ?_
      exact W.iret (v := nI oc) hx hb hr (fun t ht hW => ⟨_, rfl, ja_sel3.symm, ht⟩) (fun q h => by cases h) dX0_count_69
    · refine lv_tableIn (off := 69) (tgt := 70) hx hb dX0_count_1 (by decide +kernel) (by decide +kernel) (by decide +kernel) (by decide) ?_
      refine lv_aload_n hx hb dX0_count_70 rfl (lv_at hl 0 rfl) ?_
      refine va_get (D := (dC, dI)) (ci := 0) (v := .int fl) (C := RX0) (T := TX0) (N := 11) hx hb hts hin hown hK hP 0 rfl rfl 9 (by decide) fk60 (fun _ h9 => h9) rfl dX0_count_71 ?_
      exact W.iret (v := fl) hx hb hr (fun t ht hW => ⟨_, rfl, ja_sel4.symm, ht⟩) (fun q h => by cases h) dX0_count_74
    · refine lv_tableIn (off := 74) (tgt := 75) hx hb dX0_count_1 (by decide +kernel) (by decide +kernel) (by decide +kernel) (by decide) ?_
      refine lv_aload_n hx hb dX0_count_75 rfl (lv_at hl 0 rfl) ?_
      refine va_get (D := (dC, dI)) (ci := 0) (v := .int cr) (C := RX0) (T := TX0) (N := 11) hx hb hts hin hown hK hP 0 rfl rfl 10 (by decide) fk54 (fun _ h9 => h9) rfl dX0_count_76 ?_
      exact W.iret (v := cr) hx hb hr (fun t ht hW => ⟨_, rfl, ja_sel5.symm, ht⟩) (fun q h => by cases h) dX0_count_79
end
section
set_option maxHeartbeats 1000000 in
set_option maxRecDepth 100000 in
/-- settle -/
theorem cM_settle (l : Launch) (dC : Nat → ClassId) (dI : Nat → Nat → Nat) (h a1 a2 a3 a4 a5 a6 a7 : Nat) (cA : ClassId) (sz : Nat) (fd nw sl vl la os ov : Nat → Int32) (ch : Nat) (hm : Int32) (ow : Nat) (de : Int32) (si : Int32) (fl : Int32) (cr : Int32)   : Met l yX1_settle wsX1_settle ({ frames := 0, cells := 0, slots := 0, locals := 0 }) (ja_Pw (dC, dI) vwCl (ja_wM h a1 a2 a3 a4 a5 a6 a7 cA fd nw sl vl la os ov ch hm ow de si fl cr) [(cA, .int)] sz [.ref h]) (va_Qv (fun u : ja_SM => u = (ja_cp nw fd 212, nw, sl, vl, la, os, ov, 0, hm, ow, de, nI 0, fl, cr)) (ja_B (dC, dI) vwCl (va_A (ja_wM h a1 a2 a3 a4 a5 a6 a7 cA fd nw sl vl la os ov ch hm ow de si fl cr) sz) (ja_uM h a1 a2 a3 a4 a5 a6 a7 cA)) (va_A (ja_wM h a1 a2 a3 a4 a5 a6 a7 cA fd nw sl vl la os ov ch hm ow de si fl cr) sz)) 0 0 (va_A (ja_wM h a1 a2 a3 a4 a5 a6 a7 cA fd nw sl vl la os ov ch hm ow de si fl cr) sz) := by
  refine Met.ofW (cc := cX1_settle) (maxL := 2) (ret := none) (by decide) rfl ?_
  intro p e s m args below meth c s₁ B hml hv
  obtain ⟨rfl, hsz, hP, hK, hD0⟩ := hv
  have hx := B.exec
  have hb := B.bytes
  have hr := B.returns
  have hts := atoms_spec (ws := wsX1_settle) B.pre
  have hown : s.vm.findClass RX1 = some m.cls := findClass_of_methodNamed B.named
  have hlocks := B.notSynchronized
  have hin : ∀ w ∈ u_ws RX1 TX1 14, w ∈ wsX1_settle := by decide +kernel
  have fk9 := hts (.fieldLink RX1 9 "JournalShelfModel" "flushed" "[I") (by decide +kernel)
  have fk13 := hts (.fieldLink RX1 13 "JournalShelfModel" "now" "[I") (by decide +kernel)
  have fk31 := hts (.fieldLink RX1 31 "JournalShelfModel" "changes" "I") (by decide +kernel)
  have fk35 := hts (.fieldLink RX1 35 "JournalShelfModel" "since" "I") (by decide +kernel)
  subst hsz
  have hD := hD0.self (sz := s.heap.size)
  generalize hAe : va_A (ja_wM h a1 a2 a3 a4 a5 a6 a7 cA fd nw sl vl la os ov ch hm ow de si fl cr) s.heap.size = A at hD ⊢
  have hA : ∀ q : Nat, s.heap.size ≤ q → A q := fun q h => by rw [← hAe]; exact Or.inr h
  refine ja_st0 s.heap [] hP (va_S.rf (A := A)) (fun H locs hP hS => ?_)
  have hl := lv_entry ([.ref h]) (n := 2) (Nat.le_of_ble_eq_true rfl)
  rw [lg_entry_eq]
  generalize (lg_sl ([.ref h]) ++ List.replicate (2 - (lg_sl ([.ref h])).length) Slot.unset).toArray = ls at hl ⊢
  have hl : lv_has ls 2 [(0, .ref h)] := hl
  refine lv_iconst (v := nI 0) hx hb dX1_settle_0 (by decide +kernel) ?_
  refine lv_istore_n (lv' := [(1, .int (nI 0)), (0, .ref h)]) hx hb dX1_settle_1 rfl hl (by decide) rfl (fun ls hl => ?_)
  have hP : va_P (dC, dI) vwCl (ja_wM h a1 a2 a3 a4 a5 a6 a7 cA (ja_cp nw fd 0) nw sl vl la os ov ch hm ow de si fl cr) H := by rw [ja_cp_0]; exact hP
  have hD : va_D A (ja_wM h a1 a2 a3 a4 a5 a6 a7 cA (ja_cp nw fd 0) nw sl vl la os ov ch hm ow de si fl cr) := by rw [ja_cp_0]; exact hD
  refine ja_lpW 2 (fun (i : Nat) ls H locs => lv_has ls 2 [(1, .int (nI i)), (0, .ref h)] ∧ va_P (dC, dI) vwCl (ja_wM h a1 a2 a3 a4 a5 a6 a7 cA (ja_cp nw fd i) nw sl vl la os ov ch hm ow de si fl cr) H ∧ va_D A (ja_wM h a1 a2 a3 a4 a5 a6 a7 cA (ja_cp nw fd i) nw sl vl la os ov ch hm ow de si fl cr) ∧ va_S A s.heap H locs ∧ i ≤ 212) (fun i => 212 - (i)) ?_ 0 ls H locs ⟨lv_sub hl [0, 1] rfl, hP, hD, hS, Nat.zero_le _⟩
  intro i ls H locs hI ih0
  obtain ⟨hl, hP, hD, hS, hi⟩ := hI
  have hl : lv_has ls 2 [(1, .int (nI i)), (0, .ref h)] := hl
  have hP : va_P (dC, dI) vwCl (ja_wM h a1 a2 a3 a4 a5 a6 a7 cA (ja_cp nw fd i) nw sl vl la os ov ch hm ow de si fl cr) H := hP
  have hD : va_D A (ja_wM h a1 a2 a3 a4 a5 a6 a7 cA (ja_cp nw fd i) nw sl vl la os ov ch hm ow de si fl cr) := hD
  refine lv_iload_n hx hb dX1_settle_2 rfl (lv_at hl 0 rfl) ?_
  refine lv_sipush (v := nI 212) hx hb dX1_settle_3 (by decide +kernel) ?_
  refine ja_ige hx hb dX1_settle_6 (tgt := 27) (by decide) (by omega) (by omega) (fun h6 => ?_) (fun h6 => ?_)
  · have hi2 : i = 212 := by omega
    subst hi2
    have hP : va_P (dC, dI) vwCl (ja_wM h a1 a2 a3 a4 a5 a6 a7 cA (ja_cp nw fd 212) nw sl vl la os ov ch hm ow de si fl cr) H := hP
    have hD : va_D A (ja_wM h a1 a2 a3 a4 a5 a6 a7 cA (ja_cp nw fd 212) nw sl vl la os ov ch hm ow de si fl cr) := hD
    refine lv_aload_n hx hb dX1_settle_27 rfl (lv_at hl 1 rfl) ?_
    refine lv_iconst (v := nI 0) hx hb dX1_settle_28 (by decide +kernel) ?_
    refine va_put (D := (dC, dI)) (ci := 1) (v := .int (nI 0)) (ty := .int) (C := RX1) (T := TX1) (N := 14) hx hb hts hin tyX1 tyX1_ok nmX1 hown hK hP hD hS 0 rfl rfl 5 (by decide) fk31 (fun _ h9 => h9) rfl (by decide +kernel) rfl rfl (Nat.le_of_ble_eq_true rfl) dX1_settle_29 (fun H locs hP hD hS => ?_)
    have hP : va_P (dC, dI) vwCl (ja_wM h a1 a2 a3 a4 a5 a6 a7 cA (ja_cp nw fd 212) nw sl vl la os ov 0 hm ow de si fl cr) H := hP
    have hD : va_D A (ja_wM h a1 a2 a3 a4 a5 a6 a7 cA (ja_cp nw fd 212) nw sl vl la os ov 0 hm ow de si fl cr) := hD
    refine lv_aload_n hx hb dX1_settle_32 rfl (lv_at hl 1 rfl) ?_
    refine lv_iconst (v := nI 0) hx hb dX1_settle_33 (by decide +kernel) ?_
    refine va_put (D := (dC, dI)) (ci := 1) (v := .int (nI 0)) (ty := .int) (C := RX1) (T := TX1) (N := 14) hx hb hts hin tyX1 tyX1_ok nmX1 hown hK hP hD hS 0 rfl rfl 11 (by decide) fk35 (fun _ h9 => h9) rfl (by decide +kernel) rfl rfl (Nat.le_of_ble_eq_true rfl) dX1_settle_34 (fun H locs hP hD hS => ?_)
    have hP : va_P (dC, dI) vwCl (ja_wM h a1 a2 a3 a4 a5 a6 a7 cA (ja_cp nw fd 212) nw sl vl la os ov 0 hm ow de (nI 0) fl cr) H := hP
    have hD : va_D A (ja_wM h a1 a2 a3 a4 a5 a6 a7 cA (ja_cp nw fd 212) nw sl vl la os ov 0 hm ow de (nI 0) fl cr) := hD
    exact W.vret hx hb hr (fun t ht hW => ⟨⟨((ja_cp nw fd 212), nw, sl, vl, la, os, ov, 0, hm, ow, de, nI 0, fl, cr), rfl, rfl, by rw [ht]; exact hP, hD⟩, hS.F ht⟩) hS.2.2 dX1_settle_37
  · refine lv_aload_n hx hb dX1_settle_9 rfl (lv_at hl 1 rfl) ?_
    refine va_get (D := (dC, dI)) (ci := 1) (v := .ref a1) (C := RX1) (T := TX1) (N := 14) hx hb hts hin hown hK hP 0 rfl rfl 0 (by decide) fk9 (fun _ h9 => h9) rfl dX1_settle_10 ?_
    refine lv_iload_n hx hb dX1_settle_13 rfl (lv_at hl 0 rfl) ?_
    refine lv_aload_n hx hb dX1_settle_14 rfl (lv_at hl 1 rfl) ?_
    refine va_get (D := (dC, dI)) (ci := 1) (v := .ref a2) (C := RX1) (T := TX1) (N := 14) hx hb hts hin hown hK hP 0 rfl rfl 1 (by decide) fk13 (fun _ h9 => h9) rfl dX1_settle_15 ?_
    refine lv_iload_n hx hb dX1_settle_18 rfl (lv_at hl 0 rfl) ?_
    refine ja_ald hx hb hK hP 2 0 rfl rfl (by omega) (by decide) dX1_settle_19 ?_
    refine ja_ast hx hb hK hP hD hS 1 0 rfl rfl (by omega) (by decide) dX1_settle_20 (fun H locs hP hD hS => ?_)
    have hP : va_P (dC, dI) vwCl (ja_wM h a1 a2 a3 a4 a5 a6 a7 cA (upd (ja_cp nw fd i) i (nw i)) nw sl vl la os ov ch hm ow de si fl cr) H := hP
    have hD : va_D A (ja_wM h a1 a2 a3 a4 a5 a6 a7 cA (upd (ja_cp nw fd i) i (nw i)) nw sl vl la os ov ch hm ow de si fl cr) := hD
    -- iinc
    refine lv_iinc (k := 0) (v := nI (i + 1)) (lv' := [(1, .int (nI (i + 1))), (0, .ref h)]) hx hb dX1_settle_21 hl rfl (ja_inc1 _) (by decide) rfl (fun ls hl => ?_)
    refine lv_goto (tgt := 2) hx hb dX1_settle_24 (by decide) ?_
    exact ih0 (i + 1) ls H locs ⟨lv_sub hl [0, 1] rfl, (show va_P (dC, dI) vwCl (ja_wM h a1 a2 a3 a4 a5 a6 a7 cA (ja_cp nw fd (i + 1)) nw sl vl la os ov ch hm ow de si fl cr) H by rw [← ja_cp_s]; exact hP), (show va_D A (ja_wM h a1 a2 a3 a4 a5 a6 a7 cA (ja_cp nw fd (i + 1)) nw sl vl la os ov ch hm ow de si fl cr) by rw [← ja_cp_s]; exact hD), hS, (by omega)⟩ (show 212 - (i + 1) < 212 - (i) by omega)
set_option maxHeartbeats 1000000 in
set_option maxRecDepth 100000 in
/-- distinct -/
theorem cM_distinct (l : Launch) (dC : Nat → ClassId) (dI : Nat → Nat → Nat) (h a1 a2 a3 a4 a5 a6 a7 : Nat) (cA : ClassId) (fd nw sl vl la os ov : Nat → Int32) (ch : Nat) (hm : Int32) (ow : Nat) (de : Int32) (si : Int32) (fl : Int32) (cr : Int32)  (hch : ch ≤ 24) : Met l yX1_distinct wsX1_distinct ({ frames := 0, cells := 0, slots := 0, locals := 0 }) (ja_Pr (dC, dI) vwCl (ja_wM h a1 a2 a3 a4 a5 a6 a7 cA fd nw sl vl la os ov ch hm ow de si fl cr) [(cA, .int)] [.ref h]) (vp_Si (fun r => r = nI (ja_ct (fun k => ja_fs sl k k) ch))) 0 0 (fun _ => False) := by
  refine Met.ofW (cc := cX1_distinct) (maxL := 5) (ret := (some .int)) (by decide) rfl ?_
  intro p e s m args below meth c s₁ B hml hv
  obtain ⟨rfl, hP, hK⟩ := hv
  have hx := B.exec
  have hb := B.bytes
  have hr := B.returns
  have hts := atoms_spec (ws := wsX1_distinct) B.pre
  have hown : s.vm.findClass RX1 = some m.cls := findClass_of_methodNamed B.named
  have hlocks := B.notSynchronized
  have hin : ∀ w ∈ u_ws RX1 TX1 14, w ∈ wsX1_distinct := by decide +kernel
  have fk16 := hts (.fieldLink RX1 16 "JournalShelfModel" "slot" "[I") (by decide +kernel)
  have fk31 := hts (.fieldLink RX1 31 "JournalShelfModel" "changes" "I") (by decide +kernel)
  have hl := lv_entry ([.ref h]) (n := 5) (Nat.le_of_ble_eq_true rfl)
  rw [lg_entry_eq]
  generalize (lg_sl ([.ref h]) ++ List.replicate (5 - (lg_sl ([.ref h])).length) Slot.unset).toArray = ls at hl ⊢
  have hl : lv_has ls 5 [(0, .ref h)] := hl
  refine lv_iconst (v := nI 0) hx hb dX1_distinct_0 (by decide +kernel) ?_
  refine lv_istore_n (lv' := [(1, .int (nI 0)), (0, .ref h)]) hx hb dX1_distinct_1 rfl hl (by decide) rfl (fun ls hl => ?_)
  refine lv_iconst (v := nI 0) hx hb dX1_distinct_2 (by decide +kernel) ?_
  refine lv_istore_n (lv' := [(2, .int (nI 0)), (1, .int (nI 0)), (0, .ref h)]) hx hb dX1_distinct_3 rfl hl (by decide) rfl (fun ls hl => ?_)
  refine ja_lpR 4 (fun (k : Nat) ls => lv_has ls 5 [(2, .int (nI k)), (1, .int (nI (ja_ct (fun k => ja_fs sl k k) k))), (0, .ref h)] ∧ k ≤ ch) (fun k => ch - (k)) ?_ 0 ls ⟨lv_sub hl [0, 1, 2] rfl, Nat.zero_le _⟩
  intro k ls hI ih0
  obtain ⟨hl, hi⟩ := hI
  have hl : lv_has ls 5 [(2, .int (nI k)), (1, .int (nI (ja_ct (fun k => ja_fs sl k k) k))), (0, .ref h)] := hl
  refine lv_iload_n hx hb dX1_distinct_4 rfl (lv_at hl 0 rfl) ?_
  refine lv_aload_n hx hb dX1_distinct_5 rfl (lv_at hl 2 rfl) ?_
  refine va_get (D := (dC, dI)) (ci := 1) (v := .int (nI ch)) (C := RX1) (T := TX1) (N := 14) hx hb hts hin hown hK hP 0 rfl rfl 5 (by decide) fk31 (fun _ h9 => h9) rfl dX1_distinct_6 ?_
  refine ja_ige hx hb dX1_distinct_9 (tgt := 60) (by decide) (by omega) (by omega) (fun h9 => ?_) (fun h9 => ?_)
  · have hic : k = ch := by omega
    refine lv_iload_n hx hb dX1_distinct_60 rfl (lv_at hl 1 rfl) ?_
    exact W.iret (v := nI (ja_ct (fun k => ja_fs sl k k) k)) hx hb hr (fun t ht hW => ⟨_, rfl, by rw [hic], ht⟩) (fun q h => by cases h) dX1_distinct_61
  · refine lv_iconst (v := nI 1) hx hb dX1_distinct_12 (by decide +kernel) ?_
    refine lv_istore_n (lv' := [(3, .int (nI 1)), (2, .int (nI k)), (1, .int (nI (ja_ct (fun k => ja_fs sl k k) k))), (0, .ref h)]) hx hb dX1_distinct_13 rfl hl (by decide) rfl (fun ls hl => ?_)
    refine lv_iconst (v := nI 0) hx hb dX1_distinct_14 (by decide +kernel) ?_
    refine lv_istore (lv' := [(4, .int (nI 0)), (3, .int (nI 1)), (2, .int (nI k)), (1, .int (nI (ja_ct (fun k => ja_fs sl k k) k))), (0, .ref h)]) hx hb dX1_distinct_15 hl (by decide) rfl (fun ls hl => ?_)
    refine ja_lpR 17 (fun (i : Nat) ls => lv_has ls 5 [(4, .int (nI i)), (3, .int (ja_b (ja_fs sl k i))), (2, .int (nI k)), (1, .int (nI (ja_ct (fun k => ja_fs sl k k) k))), (0, .ref h)] ∧ i ≤ k) (fun i => k - (i)) ?_ 0 ls ⟨lv_sub hl [0, 1, 2, 3, 4] rfl, Nat.zero_le _⟩
    intro i ls hI ih1
    obtain ⟨hl, hj⟩ := hI
    have hl : lv_has ls 5 [(4, .int (nI i)), (3, .int (ja_b (ja_fs sl k i))), (2, .int (nI k)), (1, .int (nI (ja_ct (fun k => ja_fs sl k k) k))), (0, .ref h)] := hl
    refine lv_iload hx hb dX1_distinct_17 (lv_at hl 0 rfl) ?_
    refine lv_iload_n hx hb dX1_distinct_19 rfl (lv_at hl 2 rfl) ?_
    refine ja_ige hx hb dX1_distinct_20 (tgt := 47) (by decide) (by omega) (by omega) (fun h20 => ?_) (fun h20 => ?_)
    · have hik : k = i := by omega
      subst hik
      have hl : lv_has ls 5 [(4, .int (nI k)), (3, .int (ja_b (ja_fs sl k k))), (2, .int (nI k)), (1, .int (nI (ja_ct (fun k => ja_fs sl k k) k))), (0, .ref h)] := hl
      refine lv_iload_n hx hb dX1_distinct_47 rfl (lv_at hl 1 rfl) ?_
      refine lv_if_eq hx hb dX1_distinct_48 (tgt := 54) (by decide) (fun h48 => ?_) (fun h48 => ?_)
      · have he : ja_ct (fun k => ja_fs sl k k) (k + 1) = ja_ct (fun k => ja_fs sl k k) k := ja_ct_f (ja_b_0 h48)
        -- iinc
        refine lv_iinc (k := 2) (v := nI (k + 1)) (lv' := [(2, .int (nI (k + 1))), (4, .int (nI k)), (3, .int (ja_b (ja_fs sl k k))), (1, .int (nI (ja_ct (fun k => ja_fs sl k k) k))), (0, .ref h)]) hx hb dX1_distinct_54 hl rfl (ja_inc1 _) (by decide) rfl (fun ls hl => ?_)
        refine lv_goto (tgt := 4) hx hb dX1_distinct_57 (by decide) ?_
        exact ih0 (k + 1) ls ⟨(show lv_has ls 5 [(2, .int (nI (k + 1))), (1, .int (nI (ja_ct (fun k => ja_fs sl k k) (k + 1)))), (0, .ref h)] by rw [he]; exact lv_sub hl [0, 3, 4] rfl), (by omega)⟩ (show ch - (k + 1) < ch - (k) by omega)
      · have he : ja_ct (fun k => ja_fs sl k k) (k + 1) = ja_ct (fun k => ja_fs sl k k) k + 1 := ja_ct_t (ja_b_1 h48)
        -- iinc
        refine lv_iinc (k := 3) (v := nI ((ja_ct (fun k => ja_fs sl k k) k) + 1)) (lv' := [(1, .int (nI ((ja_ct (fun k => ja_fs sl k k) k) + 1))), (4, .int (nI k)), (3, .int (ja_b (ja_fs sl k k))), (2, .int (nI k)), (0, .ref h)]) hx hb dX1_distinct_51 hl rfl (ja_inc1 _) (by decide) rfl (fun ls hl => ?_)
        -- iinc
        refine lv_iinc (k := 3) (v := nI (k + 1)) (lv' := [(2, .int (nI (k + 1))), (1, .int (nI ((ja_ct (fun k => ja_fs sl k k) k) + 1))), (4, .int (nI k)), (3, .int (ja_b (ja_fs sl k k))), (0, .ref h)]) hx hb dX1_distinct_54 hl rfl (ja_inc1 _) (by decide) rfl (fun ls hl => ?_)
        refine lv_goto (tgt := 4) hx hb dX1_distinct_57 (by decide) ?_
        exact ih0 (k + 1) ls ⟨(show lv_has ls 5 [(2, .int (nI (k + 1))), (1, .int (nI (ja_ct (fun k => ja_fs sl k k) (k + 1)))), (0, .ref h)] by rw [he]; exact lv_sub hl [0, 1, 4] rfl), (by omega)⟩ (show ch - (k + 1) < ch - (k) by omega)
    · refine lv_aload_n hx hb dX1_distinct_23 rfl (lv_at hl 4 rfl) ?_
      refine va_get (D := (dC, dI)) (ci := 1) (v := .ref a3) (C := RX1) (T := TX1) (N := 14) hx hb hts hin hown hK hP 0 rfl rfl 2 (by decide) fk16 (fun _ h9 => h9) rfl dX1_distinct_24 ?_
      refine lv_iload hx hb dX1_distinct_27 (lv_at hl 0 rfl) ?_
      refine ja_ald hx hb hK hP 3 0 rfl rfl (by omega) (by decide) dX1_distinct_29 ?_
      refine lv_aload_n hx hb dX1_distinct_30 rfl (lv_at hl 4 rfl) ?_
      refine va_get (D := (dC, dI)) (ci := 1) (v := .ref a3) (C := RX1) (T := TX1) (N := 14) hx hb hts hin hown hK hP 0 rfl rfl 2 (by decide) fk16 (fun _ h9 => h9) rfl dX1_distinct_31 ?_
      refine lv_iload_n hx hb dX1_distinct_34 rfl (lv_at hl 2 rfl) ?_
      refine ja_ald hx hb hK hP 3 0 rfl rfl (by omega) (by decide) dX1_distinct_35 ?_
      refine lv_icmp_ne hx hb dX1_distinct_36 (tgt := 41) (by decide) (fun h36 => ?_) (fun h36 => ?_)
      · have he := ja_bfs_n h36
        -- iinc
        refine lv_iinc (k := 0) (v := nI (i + 1)) (lv' := [(4, .int (nI (i + 1))), (3, .int (ja_b (ja_fs sl k i))), (2, .int (nI k)), (1, .int (nI (ja_ct (fun k => ja_fs sl k k) k))), (0, .ref h)]) hx hb dX1_distinct_41 hl rfl (ja_inc1 _) (by decide) rfl (fun ls hl => ?_)
        refine lv_goto (tgt := 17) hx hb dX1_distinct_44 (by decide) ?_
        exact ih1 (i + 1) ls ⟨(show lv_has ls 5 [(4, .int (nI (i + 1))), (3, .int (ja_b (ja_fs sl k (i + 1)))), (2, .int (nI k)), (1, .int (nI (ja_ct (fun k => ja_fs sl k k) k))), (0, .ref h)] by rw [he]; exact lv_sub hl [0, 1, 2, 3, 4] rfl), (by omega)⟩ (show k - (i + 1) < k - (i) by omega)
      · have he := ja_bfs_e h36
        refine lv_iconst (v := nI 0) hx hb dX1_distinct_39 (by decide +kernel) ?_
        refine lv_istore_n (lv' := [(3, .int (nI 0)), (4, .int (nI i)), (2, .int (nI k)), (1, .int (nI (ja_ct (fun k => ja_fs sl k k) k))), (0, .ref h)]) hx hb dX1_distinct_40 rfl hl (by decide) rfl (fun ls hl => ?_)
        -- iinc
        refine lv_iinc (k := 1) (v := nI (i + 1)) (lv' := [(4, .int (nI (i + 1))), (3, .int (nI 0)), (2, .int (nI k)), (1, .int (nI (ja_ct (fun k => ja_fs sl k k) k))), (0, .ref h)]) hx hb dX1_distinct_41 hl rfl (ja_inc1 _) (by decide) rfl (fun ls hl => ?_)
        refine lv_goto (tgt := 17) hx hb dX1_distinct_44 (by decide) ?_
        exact ih1 (i + 1) ls ⟨(show lv_has ls 5 [(4, .int (nI (i + 1))), (3, .int (ja_b (ja_fs sl k (i + 1)))), (2, .int (nI k)), (1, .int (nI (ja_ct (fun k => ja_fs sl k k) k))), (0, .ref h)] by rw [he]; exact lv_sub hl [0, 1, 2, 3, 4] rfl), (by omega)⟩ (show k - (i + 1) < k - (i) by omega)
set_option maxHeartbeats 1000000 in
set_option maxRecDepth 100000 in
/-- flush -/
theorem cM_flush (l : Launch) (dC : Nat → ClassId) (dI : Nat → Nat → Nat) (h a1 a2 a3 a4 a5 a6 a7 : Nat) (cA : ClassId) (sz : Nat) (fd nw sl vl la os ov : Nat → Int32) (ch : Nat) (hm : Int32) (ow : Nat) (de : Int32) (si : Int32) (fl : Int32) (cr : Int32)  (hch : ch ≤ 24) : Met l yX1_flush wsX1_flush ({ frames := 1, cells := 0, slots := 0, locals := 24 }) (ja_Pw (dC, dI) vwCl (ja_wM h a1 a2 a3 a4 a5 a6 a7 cA fd nw sl vl la os ov ch hm ow de si fl cr) [(cA, .int)] sz [.ref h]) (va_Qi (fun (r : Int32) (u : ja_SM) => r = si ∧ u = (ja_cp nw fd 212, nw, sl, vl, la, os, ov, 0, nI (ja_ct (fun k => ja_fs sl k k) ch), 0, de, nI 0, fl + nI 1, cr)) (ja_B (dC, dI) vwCl (va_A (ja_wM h a1 a2 a3 a4 a5 a6 a7 cA fd nw sl vl la os ov ch hm ow de si fl cr) sz) (ja_uM h a1 a2 a3 a4 a5 a6 a7 cA)) (va_A (ja_wM h a1 a2 a3 a4 a5 a6 a7 cA fd nw sl vl la os ov ch hm ow de si fl cr) sz)) 0 0 (va_A (ja_wM h a1 a2 a3 a4 a5 a6 a7 cA fd nw sl vl la os ov ch hm ow de si fl cr) sz) := by
  refine Met.ofW (cc := cX1_flush) (maxL := 2) (ret := (some .int)) (by decide) rfl ?_
  intro p e s m args below meth c s₁ B hml hv
  obtain ⟨rfl, hsz, hP, hK, hD0⟩ := hv
  have hx := B.exec
  have hb := B.bytes
  have hr := B.returns
  have hts := atoms_spec (ws := wsX1_flush) B.pre
  have hown : s.vm.findClass RX1 = some m.cls := findClass_of_methodNamed B.named
  have hlocks := B.notSynchronized
  have hin : ∀ w ∈ u_ws RX1 TX1 14, w ∈ wsX1_flush := by decide +kernel
  have fk35 := hts (.fieldLink RX1 35 "JournalShelfModel" "since" "I") (by decide +kernel)
  have fk38 := hts (.fieldLink RX1 38 "JournalShelfModel" "own" "I") (by decide +kernel)
  have fk51 := hts (.fieldLink RX1 51 "JournalShelfModel" "homes" "I") (by decide +kernel)
  have fk57 := hts (.fieldLink RX1 57 "JournalShelfModel" "flushes" "I") (by decide +kernel)
  subst hsz
  have hD := hD0.self (sz := s.heap.size)
  generalize hAe : va_A (ja_wM h a1 a2 a3 a4 a5 a6 a7 cA fd nw sl vl la os ov ch hm ow de si fl cr) s.heap.size = A at hD ⊢
  have hA : ∀ q : Nat, s.heap.size ≤ q → A q := fun q h => by rw [← hAe]; exact Or.inr h
  refine ja_st0 s.heap [] hP (va_S.rf (A := A)) (fun H locs hP hS => ?_)
  have hl := lv_entry ([.ref h]) (n := 2) (Nat.le_of_ble_eq_true rfl)
  rw [lg_entry_eq]
  generalize (lg_sl ([.ref h]) ++ List.replicate (2 - (lg_sl ([.ref h])).length) Slot.unset).toArray = ls at hl ⊢
  have hl : lv_has ls 2 [(0, .ref h)] := hl
  refine lv_aload_n hx hb dX1_flush_0 rfl (lv_at hl 0 rfl) ?_
  refine va_get (D := (dC, dI)) (ci := 1) (v := .int si) (C := RX1) (T := TX1) (N := 14) hx hb hts hin hown hK hP 0 rfl rfl 11 (by decide) fk35 (fun _ h9 => h9) rfl dX1_flush_1 ?_
  refine lv_istore_n (lv' := [(1, .int si), (0, .ref h)]) hx hb dX1_flush_4 rfl hl (by decide) rfl (fun ls hl => ?_)
  refine lv_aload_n hx hb dX1_flush_5 rfl (lv_at hl 1 rfl) ?_
  refine lv_iconst (v := nI 0) hx hb dX1_flush_6 (by decide +kernel) ?_
  refine va_put (D := (dC, dI)) (ci := 1) (v := .int (nI 0)) (ty := .int) (C := RX1) (T := TX1) (N := 14) hx hb hts hin tyX1 tyX1_ok nmX1 hown hK hP hD hS 0 rfl rfl 9 (by decide) fk38 (fun _ h9 => h9) rfl (by decide +kernel) rfl rfl (Nat.le_of_ble_eq_true rfl) dX1_flush_7 (fun H locs hP hD hS => ?_)
  have hP : va_P (dC, dI) vwCl (ja_wM h a1 a2 a3 a4 a5 a6 a7 cA fd nw sl vl la os ov ch hm 0 de si fl cr) H := hP
  have hD : va_D A (ja_wM h a1 a2 a3 a4 a5 a6 a7 cA fd nw sl vl la os ov ch hm 0 de si fl cr) := hD
  refine lv_aload_n hx hb dX1_flush_10 rfl (lv_at hl 1 rfl) ?_
  refine lv_aload_n hx hb dX1_flush_11 rfl (lv_at hl 1 rfl) ?_
  refine ja_cR (As := []) (rest := [.ref h]) ⟨hx, hb, hml, hown, hts⟩ (cM_distinct l dC dI h a1 a2 a3 a4 a5 a6 a7 cA fd nw sl vl la os ov ch hm 0 de si fl cr  hch) (cwV 0 hts gX1_flush_X1_distinct rfl rfl rfl (by decide +kernel) ⟨Nat.le_of_ble_eq_true rfl, Nat.le_of_ble_eq_true rfl⟩) hK hP (ja_rcv (ci := 1) (q0 := 0) hK hP rfl rfl rfl) rfl hl.1 rfl (Nat.le_of_ble_eq_true rfl) dX1_flush_12 ⟨Nat.zero_le _, Nat.zero_le _⟩ (fun r12 hr12 => ?_)
  have hr12 : r12 = nI (ja_ct (fun k => ja_fs sl k k) ch) := hr12
  subst hr12
  refine va_put (D := (dC, dI)) (ci := 1) (v := .int (nI (ja_ct (fun k => ja_fs sl k k) ch))) (ty := .int) (C := RX1) (T := TX1) (N := 14) hx hb hts hin tyX1 tyX1_ok nmX1 hown hK hP hD hS 0 rfl rfl 6 (by decide) fk51 (fun _ h9 => h9) rfl (by decide +kernel) rfl rfl (Nat.le_of_ble_eq_true rfl) dX1_flush_15 (fun H locs hP hD hS => ?_)
  have hP : va_P (dC, dI) vwCl (ja_wM h a1 a2 a3 a4 a5 a6 a7 cA fd nw sl vl la os ov ch (nI (ja_ct (fun k => ja_fs sl k k) ch)) 0 de si fl cr) H := hP
  have hD : va_D A (ja_wM h a1 a2 a3 a4 a5 a6 a7 cA fd nw sl vl la os ov ch (nI (ja_ct (fun k => ja_fs sl k k) ch)) 0 de si fl cr) := hD
  refine lv_aload_n hx hb dX1_flush_18 rfl (lv_at hl 1 rfl) ?_
  refine ja_cV (wr := []) (As := []) (rest := []) ⟨hx, hb, hml, hown, hts⟩ (cM_settle l dC dI h a1 a2 a3 a4 a5 a6 a7 cA H.size fd nw sl vl la os ov ch (nI (ja_ct (fun k => ja_fs sl k k) ch)) 0 de si fl cr  ) (cwV 0 hts gX1_flush_X1_settle rfl rfl rfl (by decide +kernel) ⟨Nat.le_of_ble_eq_true rfl, Nat.le_of_ble_eq_true rfl⟩) hK hP hP hD hS hA [0, 1, 2, 3, 4, 5, 6, 7] [] rfl rfl (by decide) (by decide) (by decide) (ja_rcv (ci := 1) (q0 := 0) hK hP rfl rfl rfl) rfl hl.1 rfl (Nat.le_of_ble_eq_true rfl) dX1_flush_19 ⟨Nat.zero_le _, Nat.zero_le _⟩ (fun u H locs hu hP hD hS => ?_)
  obtain rfl := hu
  have hP : va_P (dC, dI) vwCl (ja_wM h a1 a2 a3 a4 a5 a6 a7 cA (ja_cp nw fd 212) nw sl vl la os ov 0 (nI (ja_ct (fun k => ja_fs sl k k) ch)) 0 de (nI 0) fl cr) H := hP
  have hD : va_D A (ja_wM h a1 a2 a3 a4 a5 a6 a7 cA (ja_cp nw fd 212) nw sl vl la os ov 0 (nI (ja_ct (fun k => ja_fs sl k k) ch)) 0 de (nI 0) fl cr) := hD
  refine lv_aload_n hx hb dX1_flush_22 rfl (lv_at hl 1 rfl) ?_
  refine lv_dup hx hb dX1_flush_23 rfl ?_
  refine va_get (D := (dC, dI)) (ci := 1) (v := .int fl) (C := RX1) (T := TX1) (N := 14) hx hb hts hin hown hK hP 0 rfl rfl 12 (by decide) fk57 (fun _ h9 => h9) rfl dX1_flush_24 ?_
  refine lv_iconst (v := nI 1) hx hb dX1_flush_27 (by decide +kernel) ?_
  refine lv_iadd hx hb dX1_flush_28 ?_
  refine va_put (D := (dC, dI)) (ci := 1) (v := .int (fl + nI 1)) (ty := .int) (C := RX1) (T := TX1) (N := 14) hx hb hts hin tyX1 tyX1_ok nmX1 hown hK hP hD hS 0 rfl rfl 12 (by decide) fk57 (fun _ h9 => h9) rfl (by decide +kernel) rfl rfl (Nat.le_of_ble_eq_true rfl) dX1_flush_29 (fun H locs hP hD hS => ?_)
  have hP : va_P (dC, dI) vwCl (ja_wM h a1 a2 a3 a4 a5 a6 a7 cA (ja_cp nw fd 212) nw sl vl la os ov 0 (nI (ja_ct (fun k => ja_fs sl k k) ch)) 0 de (nI 0) (fl + nI 1) cr) H := hP
  have hD : va_D A (ja_wM h a1 a2 a3 a4 a5 a6 a7 cA (ja_cp nw fd 212) nw sl vl la os ov 0 (nI (ja_ct (fun k => ja_fs sl k k) ch)) 0 de (nI 0) (fl + nI 1) cr) := hD
  refine lv_iload_n hx hb dX1_flush_32 rfl (lv_at hl 0 rfl) ?_
  exact W.iret (v := si) hx hb hr (fun t ht hW => ⟨⟨si, ((ja_cp nw fd 212), nw, sl, vl, la, os, ov, 0, nI (ja_ct (fun k => ja_fs sl k k) ch), 0, de, nI 0, (fl + nI 1), cr), rfl, ⟨rfl, rfl⟩, by rw [ht]; exact hP, hD⟩, hS.F ht⟩) hS.2.2 dX1_flush_33
set_option maxHeartbeats 1000000 in
set_option maxRecDepth 100000 in
/-- change -/
theorem cM_change (l : Launch) (dC : Nat → ClassId) (dI : Nat → Nat → Nat) (h a1 a2 a3 a4 a5 a6 a7 : Nat) (cA : ClassId) (sz : Nat) (fd nw sl vl la os ov : Nat → Int32) (ch : Nat) (hm : Int32) (ow : Nat) (de : Int32) (si : Int32) (fl : Int32) (cr : Int32) (x y : Int32) (hch : ch ≤ 24) (how : ow ≤ 17) : Met l yX1_change wsX1_change ({ frames := 2, cells := 0, slots := 0, locals := 45 }) (ja_Pw (dC, dI) vwCl (ja_wM h a1 a2 a3 a4 a5 a6 a7 cA fd nw sl vl la os ov ch hm ow de si fl cr) [(cA, .int)] sz [.ref h, .int x, .int y]) (va_Qi (fun (r : Int32) (u : ja_SM) => (¬ vp_in x 212 ∧ r = -1 ∧ u = (fd, nw, sl, vl, la, os, ov, ch, hm, ow, de, si, fl, cr)) ∨ (vp_in x 212 ∧ ow = 17 ∧ r = -2 ∧ u = (fd, nw, sl, vl, la, os, ov, ch, hm, ow, de, si, fl, cr)) ∨ (vp_in x 212 ∧ ow < 17 ∧ ¬ (ow = 0 ∧ 7 < ch) ∧ r = nI (ow + 1) ∧ u = (fd, nw, sl, vl, la, upd os ow x, upd ov ow y, ch, hm, ow + 1, de, si, fl, cr)) ∨ (vp_in x 212 ∧ ow = 0 ∧ 7 < ch ∧ r = nI 1 ∧ u = (ja_cp nw fd 212, nw, sl, vl, la, upd os 0 x, upd ov 0 y, 0, nI (ja_ct (fun k => ja_fs sl k k) ch), 1, de, nI 0, fl + nI 1, cr))) (ja_B (dC, dI) vwCl (va_A (ja_wM h a1 a2 a3 a4 a5 a6 a7 cA fd nw sl vl la os ov ch hm ow de si fl cr) sz) (ja_uM h a1 a2 a3 a4 a5 a6 a7 cA)) (va_A (ja_wM h a1 a2 a3 a4 a5 a6 a7 cA fd nw sl vl la os ov ch hm ow de si fl cr) sz)) 0 0 (va_A (ja_wM h a1 a2 a3 a4 a5 a6 a7 cA fd nw sl vl la os ov ch hm ow de si fl cr) sz) := by
  refine Met.ofW (cc := cX1_change) (maxL := 3) (ret := (some .int)) (by decide) rfl ?_
  intro p e s m args below meth c s₁ B hml hv
  obtain ⟨rfl, hsz, hP, hK, hD0⟩ := hv
  have hx := B.exec
  have hb := B.bytes
  have hr := B.returns
  have hts := atoms_spec (ws := wsX1_change) B.pre
  have hown : s.vm.findClass RX1 = some m.cls := findClass_of_methodNamed B.named
  have hlocks := B.notSynchronized
  have hin : ∀ w ∈ u_ws RX1 TX1 14, w ∈ wsX1_change := by decide +kernel
  have fk25 := hts (.fieldLink RX1 25 "JournalShelfModel" "ownSlot" "[I") (by decide +kernel)
  have fk28 := hts (.fieldLink RX1 28 "JournalShelfModel" "ownValue" "[I") (by decide +kernel)
  have fk31 := hts (.fieldLink RX1 31 "JournalShelfModel" "changes" "I") (by decide +kernel)
  have fk38 := hts (.fieldLink RX1 38 "JournalShelfModel" "own" "I") (by decide +kernel)
  subst hsz
  have hD := hD0.self (sz := s.heap.size)
  generalize hAe : va_A (ja_wM h a1 a2 a3 a4 a5 a6 a7 cA fd nw sl vl la os ov ch hm ow de si fl cr) s.heap.size = A at hD ⊢
  have hA : ∀ q : Nat, s.heap.size ≤ q → A q := fun q h => by rw [← hAe]; exact Or.inr h
  refine ja_st0 s.heap [] hP (va_S.rf (A := A)) (fun H locs hP hS => ?_)
  have hl := lv_entry ([.ref h, .int x, .int y]) (n := 3) (Nat.le_of_ble_eq_true rfl)
  rw [lg_entry_eq]
  generalize (lg_sl ([.ref h, .int x, .int y]) ++ List.replicate (3 - (lg_sl ([.ref h, .int x, .int y])).length) Slot.unset).toArray = ls at hl ⊢
  have hl : lv_has ls 3 [(0, .ref h), (1, .int x), (2, .int y)] := hl
  refine lv_iload_n hx hb dX1_change_0 rfl (lv_at hl 1 rfl) ?_
  refine lv_if_lt hx hb dX1_change_1 (tgt := 11) (by decide) (fun h1 => ?_) (fun h1 => ?_)
  · refine lv_iconst (v := (-1)) hx hb dX1_change_11 (by decide +kernel) ?_
    exact W.iret (v := (-1)) hx hb hr (fun t ht hW => ⟨⟨(-1), (fd, nw, sl, vl, la, os, ov, ch, hm, ow, de, si, fl, cr), rfl, Or.inl ⟨ja_neg h1, rfl, rfl⟩, by rw [ht]; exact hP, hD⟩, hS.F ht⟩) hS.2.2 dX1_change_12
  · have hp0 := h1
    refine lv_iload_n hx hb dX1_change_4 rfl (lv_at hl 1 rfl) ?_
    refine lv_sipush (v := nI 212) hx hb dX1_change_5 (by decide +kernel) ?_
    refine lv_icmp_lt hx hb dX1_change_8 (tgt := 13) (by decide) (fun h8 => ?_) (fun h8 => ?_)
    · have hsl : vp_in x 212 := ja_inL hp0 h8
      refine lv_aload_n hx hb dX1_change_13 rfl (lv_at hl 0 rfl) ?_
      refine va_get (D := (dC, dI)) (ci := 1) (v := .int (nI ow)) (C := RX1) (T := TX1) (N := 14) hx hb hts hin hown hK hP 0 rfl rfl 9 (by decide) fk38 (fun _ h9 => h9) rfl dX1_change_14 ?_
      refine lv_bipush (v := nI 17) hx hb dX1_change_17 (by decide +kernel) ?_
      refine ja_ine hx hb dX1_change_19 (tgt := 25) (by decide) (by omega) (by omega) (fun h19 => ?_) (fun h19 => ?_)
      · have h_17 := h19
        refine lv_aload_n hx hb dX1_change_25 rfl (lv_at hl 0 rfl) ?_
        refine va_get (D := (dC, dI)) (ci := 1) (v := .int (nI ow)) (C := RX1) (T := TX1) (N := 14) hx hb hts hin hown hK hP 0 rfl rfl 9 (by decide) fk38 (fun _ h9 => h9) rfl dX1_change_26 ?_
        refine ja_zne hx hb dX1_change_29 (tgt := 46) (by decide) (by omega) (fun h29 => ?_) (fun h29 => ?_)
        · refine lv_aload_n hx hb dX1_change_46 rfl (lv_at hl 0 rfl) ?_
          refine va_get (D := (dC, dI)) (ci := 1) (v := .ref a6) (C := RX1) (T := TX1) (N := 14) hx hb hts hin hown hK hP 0 rfl rfl 7 (by decide) fk25 (fun _ h9 => h9) rfl dX1_change_47 ?_
          refine lv_aload_n hx hb dX1_change_50 rfl (lv_at hl 0 rfl) ?_
          refine va_get (D := (dC, dI)) (ci := 1) (v := .int (nI ow)) (C := RX1) (T := TX1) (N := 14) hx hb hts hin hown hK hP 0 rfl rfl 9 (by decide) fk38 (fun _ h9 => h9) rfl dX1_change_51 ?_
          refine lv_iload_n hx hb dX1_change_54 rfl (lv_at hl 1 rfl) ?_
          refine ja_ast hx hb hK hP hD hS 6 0 rfl rfl (by omega) (by decide) dX1_change_55 (fun H locs hP hD hS => ?_)
          have hP : va_P (dC, dI) vwCl (ja_wM h a1 a2 a3 a4 a5 a6 a7 cA fd nw sl vl la (upd os ow x) ov ch hm ow de si fl cr) H := hP
          have hD : va_D A (ja_wM h a1 a2 a3 a4 a5 a6 a7 cA fd nw sl vl la (upd os ow x) ov ch hm ow de si fl cr) := hD
          refine lv_aload_n hx hb dX1_change_56 rfl (lv_at hl 0 rfl) ?_
          refine va_get (D := (dC, dI)) (ci := 1) (v := .ref a7) (C := RX1) (T := TX1) (N := 14) hx hb hts hin hown hK hP 0 rfl rfl 8 (by decide) fk28 (fun _ h9 => h9) rfl dX1_change_57 ?_
          refine lv_aload_n hx hb dX1_change_60 rfl (lv_at hl 0 rfl) ?_
          refine va_get (D := (dC, dI)) (ci := 1) (v := .int (nI ow)) (C := RX1) (T := TX1) (N := 14) hx hb hts hin hown hK hP 0 rfl rfl 9 (by decide) fk38 (fun _ h9 => h9) rfl dX1_change_61 ?_
          refine lv_iload_n hx hb dX1_change_64 rfl (lv_at hl 2 rfl) ?_
          refine ja_ast hx hb hK hP hD hS 7 0 rfl rfl (by omega) (by decide) dX1_change_65 (fun H locs hP hD hS => ?_)
          have hP : va_P (dC, dI) vwCl (ja_wM h a1 a2 a3 a4 a5 a6 a7 cA fd nw sl vl la (upd os ow x) (upd ov ow y) ch hm ow de si fl cr) H := hP
          have hD : va_D A (ja_wM h a1 a2 a3 a4 a5 a6 a7 cA fd nw sl vl la (upd os ow x) (upd ov ow y) ch hm ow de si fl cr) := hD
          refine lv_aload_n hx hb dX1_change_66 rfl (lv_at hl 0 rfl) ?_
          refine lv_dup hx hb dX1_change_67 rfl ?_
          refine va_get (D := (dC, dI)) (ci := 1) (v := .int (nI ow)) (C := RX1) (T := TX1) (N := 14) hx hb hts hin hown hK hP 0 rfl rfl 9 (by decide) fk38 (fun _ h9 => h9) rfl dX1_change_68 ?_
          refine lv_iconst (v := nI 1) hx hb dX1_change_71 (by decide +kernel) ?_
          refine lv_iadd hx hb dX1_change_72 ?_
          refine ja_top (y := nI (ow + 1)) (nI_add _ _) ?_
          refine va_put (D := (dC, dI)) (ci := 1) (v := .int (nI (ow + 1))) (ty := .int) (C := RX1) (T := TX1) (N := 14) hx hb hts hin tyX1 tyX1_ok nmX1 hown hK hP hD hS 0 rfl rfl 9 (by decide) fk38 (fun _ h9 => h9) rfl (by decide +kernel) rfl rfl (Nat.le_of_ble_eq_true rfl) dX1_change_73 (fun H locs hP hD hS => ?_)
          have hP : va_P (dC, dI) vwCl (ja_wM h a1 a2 a3 a4 a5 a6 a7 cA fd nw sl vl la (upd os ow x) (upd ov ow y) ch hm (ow + 1) de si fl cr) H := hP
          have hD : va_D A (ja_wM h a1 a2 a3 a4 a5 a6 a7 cA fd nw sl vl la (upd os ow x) (upd ov ow y) ch hm (ow + 1) de si fl cr) := hD
          refine lv_aload_n hx hb dX1_change_76 rfl (lv_at hl 0 rfl) ?_
          refine va_get (D := (dC, dI)) (ci := 1) (v := .int (nI (ow + 1))) (C := RX1) (T := TX1) (N := 14) hx hb hts hin hown hK hP 0 rfl rfl 9 (by decide) fk38 (fun _ h9 => h9) rfl dX1_change_77 ?_
          exact W.iret (v := nI (ow + 1)) hx hb hr (fun t ht hW => ⟨⟨nI (ow + 1), (fd, nw, sl, vl, la, (upd os ow x), (upd ov ow y), ch, hm, (ow + 1), de, si, fl, cr), rfl, Or.inr (Or.inr (Or.inl ⟨hsl, by omega, by omega, rfl, rfl⟩)), by rw [ht]; exact hP, hD⟩, hS.F ht⟩) hS.2.2 dX1_change_80
        · have h_ow := h29
          refine lv_aload_n hx hb dX1_change_32 rfl (lv_at hl 0 rfl) ?_
          refine va_get (D := (dC, dI)) (ci := 1) (v := .int (nI ch)) (C := RX1) (T := TX1) (N := 14) hx hb hts hin hown hK hP 0 rfl rfl 5 (by decide) fk31 (fun _ h9 => h9) rfl dX1_change_33 ?_
          refine lv_bipush (v := nI 7) hx hb dX1_change_36 (by decide +kernel) ?_
          refine ja_ile hx hb dX1_change_38 (tgt := 46) (by decide) (by omega) (by omega) (fun h38 => ?_) (fun h38 => ?_)
          · refine lv_aload_n hx hb dX1_change_46 rfl (lv_at hl 0 rfl) ?_
            refine va_get (D := (dC, dI)) (ci := 1) (v := .ref a6) (C := RX1) (T := TX1) (N := 14) hx hb hts hin hown hK hP 0 rfl rfl 7 (by decide) fk25 (fun _ h9 => h9) rfl dX1_change_47 ?_
            refine lv_aload_n hx hb dX1_change_50 rfl (lv_at hl 0 rfl) ?_
            refine va_get (D := (dC, dI)) (ci := 1) (v := .int (nI ow)) (C := RX1) (T := TX1) (N := 14) hx hb hts hin hown hK hP 0 rfl rfl 9 (by decide) fk38 (fun _ h9 => h9) rfl dX1_change_51 ?_
            refine lv_iload_n hx hb dX1_change_54 rfl (lv_at hl 1 rfl) ?_
            refine ja_ast hx hb hK hP hD hS 6 0 rfl rfl (by omega) (by decide) dX1_change_55 (fun H locs hP hD hS => ?_)
            have hP : va_P (dC, dI) vwCl (ja_wM h a1 a2 a3 a4 a5 a6 a7 cA fd nw sl vl la (upd os ow x) ov ch hm ow de si fl cr) H := hP
            have hD : va_D A (ja_wM h a1 a2 a3 a4 a5 a6 a7 cA fd nw sl vl la (upd os ow x) ov ch hm ow de si fl cr) := hD
            refine lv_aload_n hx hb dX1_change_56 rfl (lv_at hl 0 rfl) ?_
            refine va_get (D := (dC, dI)) (ci := 1) (v := .ref a7) (C := RX1) (T := TX1) (N := 14) hx hb hts hin hown hK hP 0 rfl rfl 8 (by decide) fk28 (fun _ h9 => h9) rfl dX1_change_57 ?_
            refine lv_aload_n hx hb dX1_change_60 rfl (lv_at hl 0 rfl) ?_
            refine va_get (D := (dC, dI)) (ci := 1) (v := .int (nI ow)) (C := RX1) (T := TX1) (N := 14) hx hb hts hin hown hK hP 0 rfl rfl 9 (by decide) fk38 (fun _ h9 => h9) rfl dX1_change_61 ?_
            refine lv_iload_n hx hb dX1_change_64 rfl (lv_at hl 2 rfl) ?_
            refine ja_ast hx hb hK hP hD hS 7 0 rfl rfl (by omega) (by decide) dX1_change_65 (fun H locs hP hD hS => ?_)
            have hP : va_P (dC, dI) vwCl (ja_wM h a1 a2 a3 a4 a5 a6 a7 cA fd nw sl vl la (upd os ow x) (upd ov ow y) ch hm ow de si fl cr) H := hP
            have hD : va_D A (ja_wM h a1 a2 a3 a4 a5 a6 a7 cA fd nw sl vl la (upd os ow x) (upd ov ow y) ch hm ow de si fl cr) := hD
            refine lv_aload_n hx hb dX1_change_66 rfl (lv_at hl 0 rfl) ?_
            refine lv_dup hx hb dX1_change_67 rfl ?_
            refine va_get (D := (dC, dI)) (ci := 1) (v := .int (nI ow)) (C := RX1) (T := TX1) (N := 14) hx hb hts hin hown hK hP 0 rfl rfl 9 (by decide) fk38 (fun _ h9 => h9) rfl dX1_change_68 ?_
            refine lv_iconst (v := nI 1) hx hb dX1_change_71 (by decide +kernel) ?_
            refine lv_iadd hx hb dX1_change_72 ?_
            refine ja_top (y := nI (ow + 1)) (nI_add _ _) ?_
            refine va_put (D := (dC, dI)) (ci := 1) (v := .int (nI (ow + 1))) (ty := .int) (C := RX1) (T := TX1) (N := 14) hx hb hts hin tyX1 tyX1_ok nmX1 hown hK hP hD hS 0 rfl rfl 9 (by decide) fk38 (fun _ h9 => h9) rfl (by decide +kernel) rfl rfl (Nat.le_of_ble_eq_true rfl) dX1_change_73 (fun H locs hP hD hS => ?_)
            have hP : va_P (dC, dI) vwCl (ja_wM h a1 a2 a3 a4 a5 a6 a7 cA fd nw sl vl la (upd os ow x) (upd ov ow y) ch hm (ow + 1) de si fl cr) H := hP
            have hD : va_D A (ja_wM h a1 a2 a3 a4 a5 a6 a7 cA fd nw sl vl la (upd os ow x) (upd ov ow y) ch hm (ow + 1) de si fl cr) := hD
            refine lv_aload_n hx hb dX1_change_76 rfl (lv_at hl 0 rfl) ?_
            refine va_get (D := (dC, dI)) (ci := 1) (v := .int (nI (ow + 1))) (C := RX1) (T := TX1) (N := 14) hx hb hts hin hown hK hP 0 rfl rfl 9 (by decide) fk38 (fun _ h9 => h9) rfl dX1_change_77 ?_
            exact W.iret (v := nI (ow + 1)) hx hb hr (fun t ht hW => ⟨⟨nI (ow + 1), (fd, nw, sl, vl, la, (upd os ow x), (upd ov ow y), ch, hm, (ow + 1), de, si, fl, cr), rfl, Or.inr (Or.inr (Or.inl ⟨hsl, by omega, by omega, rfl, rfl⟩)), by rw [ht]; exact hP, hD⟩, hS.F ht⟩) hS.2.2 dX1_change_80
          · have h_ch := h38
            refine lv_aload_n hx hb dX1_change_41 rfl (lv_at hl 0 rfl) ?_
            refine ja_cW (wr := []) (As := []) (rest := []) ⟨hx, hb, hml, hown, hts⟩ (cM_flush l dC dI h a1 a2 a3 a4 a5 a6 a7 cA H.size fd nw sl vl la os ov ch hm ow de si fl cr  hch) (cwV 0 hts gX1_change_X1_flush rfl rfl rfl (by decide +kernel) ⟨Nat.le_of_ble_eq_true rfl, Nat.le_of_ble_eq_true rfl⟩) hK hP hP hD hS hA [0, 1, 2, 3, 4, 5, 6, 7] [] rfl rfl (by decide) (by decide) (by decide) (ja_rcv (ci := 1) (q0 := 0) hK hP rfl rfl rfl) rfl hl.1 rfl (Nat.le_of_ble_eq_true rfl) dX1_change_42 ⟨Nat.zero_le _, Nat.zero_le _⟩ (fun r42 u H locs hu hP hD hS => ?_)
            obtain ⟨-, rfl⟩ := hu
            have hP : va_P (dC, dI) vwCl (ja_wM h a1 a2 a3 a4 a5 a6 a7 cA (ja_cp nw fd 212) nw sl vl la os ov 0 (nI (ja_ct (fun k => ja_fs sl k k) ch)) 0 de (nI 0) (fl + nI 1) cr) H := hP
            have hD : va_D A (ja_wM h a1 a2 a3 a4 a5 a6 a7 cA (ja_cp nw fd 212) nw sl vl la os ov 0 (nI (ja_ct (fun k => ja_fs sl k k) ch)) 0 de (nI 0) (fl + nI 1) cr) := hD
            refine lv_pop hx hb dX1_change_45 rfl ?_
            refine lv_aload_n hx hb dX1_change_46 rfl (lv_at hl 0 rfl) ?_
            refine va_get (D := (dC, dI)) (ci := 1) (v := .ref a6) (C := RX1) (T := TX1) (N := 14) hx hb hts hin hown hK hP 0 rfl rfl 7 (by decide) fk25 (fun _ h9 => h9) rfl dX1_change_47 ?_
            refine lv_aload_n hx hb dX1_change_50 rfl (lv_at hl 0 rfl) ?_
            refine va_get (D := (dC, dI)) (ci := 1) (v := .int (nI 0)) (C := RX1) (T := TX1) (N := 14) hx hb hts hin hown hK hP 0 rfl rfl 9 (by decide) fk38 (fun _ h9 => h9) rfl dX1_change_51 ?_
            refine lv_iload_n hx hb dX1_change_54 rfl (lv_at hl 1 rfl) ?_
            refine ja_ast hx hb hK hP hD hS 6 0 rfl rfl (by omega) (by decide) dX1_change_55 (fun H locs hP hD hS => ?_)
            have hP : va_P (dC, dI) vwCl (ja_wM h a1 a2 a3 a4 a5 a6 a7 cA (ja_cp nw fd 212) nw sl vl la (upd os 0 x) ov 0 (nI (ja_ct (fun k => ja_fs sl k k) ch)) 0 de (nI 0) (fl + nI 1) cr) H := hP
            have hD : va_D A (ja_wM h a1 a2 a3 a4 a5 a6 a7 cA (ja_cp nw fd 212) nw sl vl la (upd os 0 x) ov 0 (nI (ja_ct (fun k => ja_fs sl k k) ch)) 0 de (nI 0) (fl + nI 1) cr) := hD
            refine lv_aload_n hx hb dX1_change_56 rfl (lv_at hl 0 rfl) ?_
            refine va_get (D := (dC, dI)) (ci := 1) (v := .ref a7) (C := RX1) (T := TX1) (N := 14) hx hb hts hin hown hK hP 0 rfl rfl 8 (by decide) fk28 (fun _ h9 => h9) rfl dX1_change_57 ?_
            refine lv_aload_n hx hb dX1_change_60 rfl (lv_at hl 0 rfl) ?_
            refine va_get (D := (dC, dI)) (ci := 1) (v := .int (nI 0)) (C := RX1) (T := TX1) (N := 14) hx hb hts hin hown hK hP 0 rfl rfl 9 (by decide) fk38 (fun _ h9 => h9) rfl dX1_change_61 ?_
            refine lv_iload_n hx hb dX1_change_64 rfl (lv_at hl 2 rfl) ?_
            refine ja_ast hx hb hK hP hD hS 7 0 rfl rfl (by omega) (by decide) dX1_change_65 (fun H locs hP hD hS => ?_)
            have hP : va_P (dC, dI) vwCl (ja_wM h a1 a2 a3 a4 a5 a6 a7 cA (ja_cp nw fd 212) nw sl vl la (upd os 0 x) (upd ov 0 y) 0 (nI (ja_ct (fun k => ja_fs sl k k) ch)) 0 de (nI 0) (fl + nI 1) cr) H := hP
            have hD : va_D A (ja_wM h a1 a2 a3 a4 a5 a6 a7 cA (ja_cp nw fd 212) nw sl vl la (upd os 0 x) (upd ov 0 y) 0 (nI (ja_ct (fun k => ja_fs sl k k) ch)) 0 de (nI 0) (fl + nI 1) cr) := hD
            refine lv_aload_n hx hb dX1_change_66 rfl (lv_at hl 0 rfl) ?_
            refine lv_dup hx hb dX1_change_67 rfl ?_
            refine va_get (D := (dC, dI)) (ci := 1) (v := .int (nI 0)) (C := RX1) (T := TX1) (N := 14) hx hb hts hin hown hK hP 0 rfl rfl 9 (by decide) fk38 (fun _ h9 => h9) rfl dX1_change_68 ?_
            refine lv_iconst (v := nI 1) hx hb dX1_change_71 (by decide +kernel) ?_
            refine lv_iadd hx hb dX1_change_72 ?_
            refine ja_top (y := nI (0 + 1)) (nI_add _ _) ?_
            refine va_put (D := (dC, dI)) (ci := 1) (v := .int (nI (0 + 1))) (ty := .int) (C := RX1) (T := TX1) (N := 14) hx hb hts hin tyX1 tyX1_ok nmX1 hown hK hP hD hS 0 rfl rfl 9 (by decide) fk38 (fun _ h9 => h9) rfl (by decide +kernel) rfl rfl (Nat.le_of_ble_eq_true rfl) dX1_change_73 (fun H locs hP hD hS => ?_)
            have hP : va_P (dC, dI) vwCl (ja_wM h a1 a2 a3 a4 a5 a6 a7 cA (ja_cp nw fd 212) nw sl vl la (upd os 0 x) (upd ov 0 y) 0 (nI (ja_ct (fun k => ja_fs sl k k) ch)) (0 + 1) de (nI 0) (fl + nI 1) cr) H := hP
            have hD : va_D A (ja_wM h a1 a2 a3 a4 a5 a6 a7 cA (ja_cp nw fd 212) nw sl vl la (upd os 0 x) (upd ov 0 y) 0 (nI (ja_ct (fun k => ja_fs sl k k) ch)) (0 + 1) de (nI 0) (fl + nI 1) cr) := hD
            refine lv_aload_n hx hb dX1_change_76 rfl (lv_at hl 0 rfl) ?_
            refine va_get (D := (dC, dI)) (ci := 1) (v := .int (nI (0 + 1))) (C := RX1) (T := TX1) (N := 14) hx hb hts hin hown hK hP 0 rfl rfl 9 (by decide) fk38 (fun _ h9 => h9) rfl dX1_change_77 ?_
            exact W.iret (v := nI (0 + 1)) hx hb hr (fun t ht hW => ⟨⟨nI (0 + 1), ((ja_cp nw fd 212), nw, sl, vl, la, (upd os 0 x), (upd ov 0 y), 0, (nI (ja_ct (fun k => ja_fs sl k k) ch)), (0 + 1), de, nI 0, (fl + nI 1), cr), rfl, Or.inr (Or.inr (Or.inr ⟨hsl, h_ow, h_ch, rfl, rfl⟩)), by rw [ht]; exact hP, hD⟩, hS.F ht⟩) hS.2.2 dX1_change_80
      · refine lv_bipush (v := (-2)) hx hb dX1_change_22 (by decide +kernel) ?_
        exact W.iret (v := (-2)) hx hb hr (fun t ht hW => ⟨⟨(-2), (fd, nw, sl, vl, la, os, ov, ch, hm, ow, de, si, fl, cr), rfl, Or.inr (Or.inl ⟨hsl, h19, rfl, rfl⟩), by rw [ht]; exact hP, hD⟩, hS.F ht⟩) hS.2.2 dX1_change_24
    · refine lv_iconst (v := (-1)) hx hb dX1_change_11 (by decide +kernel) ?_
      exact W.iret (v := (-1)) hx hb hr (fun t ht hW => ⟨⟨(-1), (fd, nw, sl, vl, la, os, ov, ch, hm, ow, de, si, fl, cr), rfl, Or.inl ⟨ja_out (Int32.not_lt.mp h8), rfl, rfl⟩, by rw [ht]; exact hP, hD⟩, hS.F ht⟩) hS.2.2 dX1_change_12
set_option maxHeartbeats 1000000 in
set_option maxRecDepth 100000 in
/-- commit -/
theorem cM_commit (l : Launch) (dC : Nat → ClassId) (dI : Nat → Nat → Nat) (h a1 a2 a3 a4 a5 a6 a7 : Nat) (cA : ClassId) (sz : Nat) (fd nw sl vl la os ov : Nat → Int32) (ch : Nat) (hm : Int32) (ow : Nat) (de : Int32) (si : Int32) (fl : Int32) (cr : Int32)  (how : ow ≤ 17) (hco : ch + ow ≤ 24) (hos : ∀ i, i < ow → vp_in (os i) 212) : Met l yX1_commit wsX1_commit ({ frames := 0, cells := 0, slots := 0, locals := 0 }) (ja_Pw (dC, dI) vwCl (ja_wM h a1 a2 a3 a4 a5 a6 a7 cA fd nw sl vl la os ov ch hm ow de si fl cr) [(cA, .int)] sz [.ref h]) (va_Qi (fun (r : Int32) (u : ja_SM) => (ow = 0 ∧ r = -1 ∧ u = (fd, nw, sl, vl, la, os, ov, ch, hm, ow, de, si, fl, cr)) ∨ (ow ≠ 0 ∧ r = nI ow ∧ u = (fd, ja_ap os ov nw ow, ja_pt sl os ch ow, ja_pt vl ov ch ow, ja_pt la (ja_lm ow) ch ow, os, ov, ch + ow, hm, 0, de + nI 1, si + nI 1, fl, cr))) (ja_B (dC, dI) vwCl (va_A (ja_wM h a1 a2 a3 a4 a5 a6 a7 cA fd nw sl vl la os ov ch hm ow de si fl cr) sz) (ja_uM h a1 a2 a3 a4 a5 a6 a7 cA)) (va_A (ja_wM h a1 a2 a3 a4 a5 a6 a7 cA fd nw sl vl la os ov ch hm ow de si fl cr) sz)) 0 0 (va_A (ja_wM h a1 a2 a3 a4 a5 a6 a7 cA fd nw sl vl la os ov ch hm ow de si fl cr) sz) := by
  refine Met.ofW (cc := cX1_commit) (maxL := 3) (ret := (some .int)) (by decide) rfl ?_
  intro p e s m args below meth c s₁ B hml hv
  obtain ⟨rfl, hsz, hP, hK, hD0⟩ := hv
  have hx := B.exec
  have hb := B.bytes
  have hr := B.returns
  have hts := atoms_spec (ws := wsX1_commit) B.pre
  have hown : s.vm.findClass RX1 = some m.cls := findClass_of_methodNamed B.named
  have hlocks := B.notSynchronized
  have hin : ∀ w ∈ u_ws RX1 TX1 14, w ∈ wsX1_commit := by decide +kernel
  have fk13 := hts (.fieldLink RX1 13 "JournalShelfModel" "now" "[I") (by decide +kernel)
  have fk16 := hts (.fieldLink RX1 16 "JournalShelfModel" "slot" "[I") (by decide +kernel)
  have fk19 := hts (.fieldLink RX1 19 "JournalShelfModel" "value" "[I") (by decide +kernel)
  have fk22 := hts (.fieldLink RX1 22 "JournalShelfModel" "lastOf" "[I") (by decide +kernel)
  have fk25 := hts (.fieldLink RX1 25 "JournalShelfModel" "ownSlot" "[I") (by decide +kernel)
  have fk28 := hts (.fieldLink RX1 28 "JournalShelfModel" "ownValue" "[I") (by decide +kernel)
  have fk31 := hts (.fieldLink RX1 31 "JournalShelfModel" "changes" "I") (by decide +kernel)
  have fk35 := hts (.fieldLink RX1 35 "JournalShelfModel" "since" "I") (by decide +kernel)
  have fk38 := hts (.fieldLink RX1 38 "JournalShelfModel" "own" "I") (by decide +kernel)
  have fk45 := hts (.fieldLink RX1 45 "JournalShelfModel" "deeds" "I") (by decide +kernel)
  subst hsz
  have hD := hD0.self (sz := s.heap.size)
  generalize hAe : va_A (ja_wM h a1 a2 a3 a4 a5 a6 a7 cA fd nw sl vl la os ov ch hm ow de si fl cr) s.heap.size = A at hD ⊢
  have hA : ∀ q : Nat, s.heap.size ≤ q → A q := fun q h => by rw [← hAe]; exact Or.inr h
  refine ja_st0 s.heap [] hP (va_S.rf (A := A)) (fun H locs hP hS => ?_)
  have hl := lv_entry ([.ref h]) (n := 3) (Nat.le_of_ble_eq_true rfl)
  rw [lg_entry_eq]
  generalize (lg_sl ([.ref h]) ++ List.replicate (3 - (lg_sl ([.ref h])).length) Slot.unset).toArray = ls at hl ⊢
  have hl : lv_has ls 3 [(0, .ref h)] := hl
  refine lv_aload_n hx hb dX1_commit_0 rfl (lv_at hl 0 rfl) ?_
  refine va_get (D := (dC, dI)) (ci := 1) (v := .int (nI ow)) (C := RX1) (T := TX1) (N := 14) hx hb hts hin hown hK hP 0 rfl rfl 9 (by decide) fk38 (fun _ h9 => h9) rfl dX1_commit_1 ?_
  refine lv_istore_n (lv' := [(1, .int (nI ow)), (0, .ref h)]) hx hb dX1_commit_4 rfl hl (by decide) rfl (fun ls hl => ?_)
  refine lv_iload_n hx hb dX1_commit_5 rfl (lv_at hl 0 rfl) ?_
  refine ja_zne hx hb dX1_commit_6 (tgt := 11) (by decide) (by omega) (fun h6 => ?_) (fun h6 => ?_)
  · have hw0 := h6
    refine lv_iconst (v := nI 0) hx hb dX1_commit_11 (by decide +kernel) ?_
    refine lv_istore_n (lv' := [(2, .int (nI 0)), (1, .int (nI ow)), (0, .ref h)]) hx hb dX1_commit_12 rfl hl (by decide) rfl (fun ls hl => ?_)
    refine ja_lpW 13 (fun (k : Nat) ls H locs => lv_has ls 3 [(2, .int (nI k)), (1, .int (nI ow)), (0, .ref h)] ∧ va_P (dC, dI) vwCl (ja_wM h a1 a2 a3 a4 a5 a6 a7 cA fd (ja_ap os ov nw k) (ja_pt sl os ch k) (ja_pt vl ov ch k) (ja_pt la (ja_lm ow) ch k) os ov (ch + k) hm ow de si fl cr) H ∧ va_D A (ja_wM h a1 a2 a3 a4 a5 a6 a7 cA fd (ja_ap os ov nw k) (ja_pt sl os ch k) (ja_pt vl ov ch k) (ja_pt la (ja_lm ow) ch k) os ov (ch + k) hm ow de si fl cr) ∧ va_S A s.heap H locs ∧ k ≤ ow) (fun k => ow - (k)) ?_ 0 ls H locs ⟨lv_sub hl [0, 1, 2] rfl, hP, hD, hS, Nat.zero_le _⟩
    intro k ls H locs hI ih0
    obtain ⟨hl, hP, hD, hS, hi⟩ := hI
    have hl : lv_has ls 3 [(2, .int (nI k)), (1, .int (nI ow)), (0, .ref h)] := hl
    have hP : va_P (dC, dI) vwCl (ja_wM h a1 a2 a3 a4 a5 a6 a7 cA fd (ja_ap os ov nw k) (ja_pt sl os ch k) (ja_pt vl ov ch k) (ja_pt la (ja_lm ow) ch k) os ov (ch + k) hm ow de si fl cr) H := hP
    have hD : va_D A (ja_wM h a1 a2 a3 a4 a5 a6 a7 cA fd (ja_ap os ov nw k) (ja_pt sl os ch k) (ja_pt vl ov ch k) (ja_pt la (ja_lm ow) ch k) os ov (ch + k) hm ow de si fl cr) := hD
    refine lv_iload_n hx hb dX1_commit_13 rfl (lv_at hl 0 rfl) ?_
    refine lv_iload_n hx hb dX1_commit_14 rfl (lv_at hl 1 rfl) ?_
    refine ja_ige hx hb dX1_commit_15 (tgt := 102) (by decide) (by omega) (by omega) (fun h15 => ?_) (fun h15 => ?_)
    · have hk2 : k = ow := by omega
      obtain rfl : ow = k := hk2.symm
      have hl : lv_has ls 3 [(2, .int (nI ow)), (1, .int (nI ow)), (0, .ref h)] := hl
      have hP : va_P (dC, dI) vwCl (ja_wM h a1 a2 a3 a4 a5 a6 a7 cA fd (ja_ap os ov nw ow) (ja_pt sl os ch ow) (ja_pt vl ov ch ow) (ja_pt la (ja_lm ow) ch ow) os ov (ch + ow) hm ow de si fl cr) H := hP
      have hD : va_D A (ja_wM h a1 a2 a3 a4 a5 a6 a7 cA fd (ja_ap os ov nw ow) (ja_pt sl os ch ow) (ja_pt vl ov ch ow) (ja_pt la (ja_lm ow) ch ow) os ov (ch + ow) hm ow de si fl cr) := hD
      refine lv_aload_n hx hb dX1_commit_102 rfl (lv_at hl 2 rfl) ?_
      refine lv_iconst (v := nI 0) hx hb dX1_commit_103 (by decide +kernel) ?_
      refine va_put (D := (dC, dI)) (ci := 1) (v := .int (nI 0)) (ty := .int) (C := RX1) (T := TX1) (N := 14) hx hb hts hin tyX1 tyX1_ok nmX1 hown hK hP hD hS 0 rfl rfl 9 (by decide) fk38 (fun _ h9 => h9) rfl (by decide +kernel) rfl rfl (Nat.le_of_ble_eq_true rfl) dX1_commit_104 (fun H locs hP hD hS => ?_)
      have hP : va_P (dC, dI) vwCl (ja_wM h a1 a2 a3 a4 a5 a6 a7 cA fd (ja_ap os ov nw ow) (ja_pt sl os ch ow) (ja_pt vl ov ch ow) (ja_pt la (ja_lm ow) ch ow) os ov (ch + ow) hm 0 de si fl cr) H := hP
      have hD : va_D A (ja_wM h a1 a2 a3 a4 a5 a6 a7 cA fd (ja_ap os ov nw ow) (ja_pt sl os ch ow) (ja_pt vl ov ch ow) (ja_pt la (ja_lm ow) ch ow) os ov (ch + ow) hm 0 de si fl cr) := hD
      refine lv_aload_n hx hb dX1_commit_107 rfl (lv_at hl 2 rfl) ?_
      refine lv_dup hx hb dX1_commit_108 rfl ?_
      refine va_get (D := (dC, dI)) (ci := 1) (v := .int de) (C := RX1) (T := TX1) (N := 14) hx hb hts hin hown hK hP 0 rfl rfl 10 (by decide) fk45 (fun _ h9 => h9) rfl dX1_commit_109 ?_
      refine lv_iconst (v := nI 1) hx hb dX1_commit_112 (by decide +kernel) ?_
      refine lv_iadd hx hb dX1_commit_113 ?_
      refine va_put (D := (dC, dI)) (ci := 1) (v := .int (de + nI 1)) (ty := .int) (C := RX1) (T := TX1) (N := 14) hx hb hts hin tyX1 tyX1_ok nmX1 hown hK hP hD hS 0 rfl rfl 10 (by decide) fk45 (fun _ h9 => h9) rfl (by decide +kernel) rfl rfl (Nat.le_of_ble_eq_true rfl) dX1_commit_114 (fun H locs hP hD hS => ?_)
      have hP : va_P (dC, dI) vwCl (ja_wM h a1 a2 a3 a4 a5 a6 a7 cA fd (ja_ap os ov nw ow) (ja_pt sl os ch ow) (ja_pt vl ov ch ow) (ja_pt la (ja_lm ow) ch ow) os ov (ch + ow) hm 0 (de + nI 1) si fl cr) H := hP
      have hD : va_D A (ja_wM h a1 a2 a3 a4 a5 a6 a7 cA fd (ja_ap os ov nw ow) (ja_pt sl os ch ow) (ja_pt vl ov ch ow) (ja_pt la (ja_lm ow) ch ow) os ov (ch + ow) hm 0 (de + nI 1) si fl cr) := hD
      refine lv_aload_n hx hb dX1_commit_117 rfl (lv_at hl 2 rfl) ?_
      refine lv_dup hx hb dX1_commit_118 rfl ?_
      refine va_get (D := (dC, dI)) (ci := 1) (v := .int si) (C := RX1) (T := TX1) (N := 14) hx hb hts hin hown hK hP 0 rfl rfl 11 (by decide) fk35 (fun _ h9 => h9) rfl dX1_commit_119 ?_
      refine lv_iconst (v := nI 1) hx hb dX1_commit_122 (by decide +kernel) ?_
      refine lv_iadd hx hb dX1_commit_123 ?_
      refine va_put (D := (dC, dI)) (ci := 1) (v := .int (si + nI 1)) (ty := .int) (C := RX1) (T := TX1) (N := 14) hx hb hts hin tyX1 tyX1_ok nmX1 hown hK hP hD hS 0 rfl rfl 11 (by decide) fk35 (fun _ h9 => h9) rfl (by decide +kernel) rfl rfl (Nat.le_of_ble_eq_true rfl) dX1_commit_124 (fun H locs hP hD hS => ?_)
      have hP : va_P (dC, dI) vwCl (ja_wM h a1 a2 a3 a4 a5 a6 a7 cA fd (ja_ap os ov nw ow) (ja_pt sl os ch ow) (ja_pt vl ov ch ow) (ja_pt la (ja_lm ow) ch ow) os ov (ch + ow) hm 0 (de + nI 1) (si + nI 1) fl cr) H := hP
      have hD : va_D A (ja_wM h a1 a2 a3 a4 a5 a6 a7 cA fd (ja_ap os ov nw ow) (ja_pt sl os ch ow) (ja_pt vl ov ch ow) (ja_pt la (ja_lm ow) ch ow) os ov (ch + ow) hm 0 (de + nI 1) (si + nI 1) fl cr) := hD
      refine lv_iload_n hx hb dX1_commit_127 rfl (lv_at hl 1 rfl) ?_
      exact W.iret (v := nI ow) hx hb hr (fun t ht hW => ⟨⟨nI ow, (fd, (ja_ap os ov nw ow), (ja_pt sl os ch ow), (ja_pt vl ov ch ow), (ja_pt la (ja_lm ow) ch ow), os, ov, (ch + ow), hm, 0, (de + nI 1), (si + nI 1), fl, cr), rfl, Or.inr ⟨hw0, rfl, rfl⟩, by rw [ht]; exact hP, hD⟩, hS.F ht⟩) hS.2.2 dX1_commit_128
    · refine lv_aload_n hx hb dX1_commit_18 rfl (lv_at hl 2 rfl) ?_
      refine va_get (D := (dC, dI)) (ci := 1) (v := .ref a3) (C := RX1) (T := TX1) (N := 14) hx hb hts hin hown hK hP 0 rfl rfl 2 (by decide) fk16 (fun _ h9 => h9) rfl dX1_commit_19 ?_
      refine lv_aload_n hx hb dX1_commit_22 rfl (lv_at hl 2 rfl) ?_
      refine va_get (D := (dC, dI)) (ci := 1) (v := .int (nI (ch + k))) (C := RX1) (T := TX1) (N := 14) hx hb hts hin hown hK hP 0 rfl rfl 5 (by decide) fk31 (fun _ h9 => h9) rfl dX1_commit_23 ?_
      refine lv_aload_n hx hb dX1_commit_26 rfl (lv_at hl 2 rfl) ?_
      refine va_get (D := (dC, dI)) (ci := 1) (v := .ref a6) (C := RX1) (T := TX1) (N := 14) hx hb hts hin hown hK hP 0 rfl rfl 7 (by decide) fk25 (fun _ h9 => h9) rfl dX1_commit_27 ?_
      refine lv_iload_n hx hb dX1_commit_30 rfl (lv_at hl 0 rfl) ?_
      refine ja_ald hx hb hK hP 6 0 rfl rfl (by omega) (by decide) dX1_commit_31 ?_
      refine ja_ast hx hb hK hP hD hS 3 0 rfl rfl (by omega) (by decide) dX1_commit_32 (fun H locs hP hD hS => ?_)
      have hP : va_P (dC, dI) vwCl (ja_wM h a1 a2 a3 a4 a5 a6 a7 cA fd (ja_ap os ov nw k) (upd (ja_pt sl os ch k) (ch + k) (os k)) (ja_pt vl ov ch k) (ja_pt la (ja_lm ow) ch k) os ov (ch + k) hm ow de si fl cr) H := hP
      have hD : va_D A (ja_wM h a1 a2 a3 a4 a5 a6 a7 cA fd (ja_ap os ov nw k) (upd (ja_pt sl os ch k) (ch + k) (os k)) (ja_pt vl ov ch k) (ja_pt la (ja_lm ow) ch k) os ov (ch + k) hm ow de si fl cr) := hD
      refine lv_aload_n hx hb dX1_commit_33 rfl (lv_at hl 2 rfl) ?_
      refine va_get (D := (dC, dI)) (ci := 1) (v := .ref a4) (C := RX1) (T := TX1) (N := 14) hx hb hts hin hown hK hP 0 rfl rfl 3 (by decide) fk19 (fun _ h9 => h9) rfl dX1_commit_34 ?_
      refine lv_aload_n hx hb dX1_commit_37 rfl (lv_at hl 2 rfl) ?_
      refine va_get (D := (dC, dI)) (ci := 1) (v := .int (nI (ch + k))) (C := RX1) (T := TX1) (N := 14) hx hb hts hin hown hK hP 0 rfl rfl 5 (by decide) fk31 (fun _ h9 => h9) rfl dX1_commit_38 ?_
      refine lv_aload_n hx hb dX1_commit_41 rfl (lv_at hl 2 rfl) ?_
      refine va_get (D := (dC, dI)) (ci := 1) (v := .ref a7) (C := RX1) (T := TX1) (N := 14) hx hb hts hin hown hK hP 0 rfl rfl 8 (by decide) fk28 (fun _ h9 => h9) rfl dX1_commit_42 ?_
      refine lv_iload_n hx hb dX1_commit_45 rfl (lv_at hl 0 rfl) ?_
      refine ja_ald hx hb hK hP 7 0 rfl rfl (by omega) (by decide) dX1_commit_46 ?_
      refine ja_ast hx hb hK hP hD hS 4 0 rfl rfl (by omega) (by decide) dX1_commit_47 (fun H locs hP hD hS => ?_)
      have hP : va_P (dC, dI) vwCl (ja_wM h a1 a2 a3 a4 a5 a6 a7 cA fd (ja_ap os ov nw k) (upd (ja_pt sl os ch k) (ch + k) (os k)) (upd (ja_pt vl ov ch k) (ch + k) (ov k)) (ja_pt la (ja_lm ow) ch k) os ov (ch + k) hm ow de si fl cr) H := hP
      have hD : va_D A (ja_wM h a1 a2 a3 a4 a5 a6 a7 cA fd (ja_ap os ov nw k) (upd (ja_pt sl os ch k) (ch + k) (os k)) (upd (ja_pt vl ov ch k) (ch + k) (ov k)) (ja_pt la (ja_lm ow) ch k) os ov (ch + k) hm ow de si fl cr) := hD
      refine lv_aload_n hx hb dX1_commit_48 rfl (lv_at hl 2 rfl) ?_
      refine va_get (D := (dC, dI)) (ci := 1) (v := .ref a5) (C := RX1) (T := TX1) (N := 14) hx hb hts hin hown hK hP 0 rfl rfl 4 (by decide) fk22 (fun _ h9 => h9) rfl dX1_commit_49 ?_
      refine lv_aload_n hx hb dX1_commit_52 rfl (lv_at hl 2 rfl) ?_
      refine va_get (D := (dC, dI)) (ci := 1) (v := .int (nI (ch + k))) (C := RX1) (T := TX1) (N := 14) hx hb hts hin hown hK hP 0 rfl rfl 5 (by decide) fk31 (fun _ h9 => h9) rfl dX1_commit_53 ?_
      refine lv_iload_n hx hb dX1_commit_56 rfl (lv_at hl 0 rfl) ?_
      refine lv_iload_n hx hb dX1_commit_57 rfl (lv_at hl 1 rfl) ?_
      refine lv_iconst (v := nI 1) hx hb dX1_commit_58 (by decide +kernel) ?_
      refine lv_isub hx hb dX1_commit_59 ?_
      refine ja_top (y := nI (ow - 1)) (pk_sub (by omega)) ?_
      refine ja_ine hx hb dX1_commit_60 (tgt := 67) (by decide) (by omega) (by omega) (fun h60 => ?_) (fun h60 => ?_)
      · refine lv_iconst (v := nI 0) hx hb dX1_commit_67 (by decide +kernel) ?_
        refine ja_top (y := ja_lm ow k) (ja_lm_f (by omega)) ?_
        refine ja_ast hx hb hK hP hD hS 5 0 rfl rfl (by omega) (by decide) dX1_commit_68 (fun H locs hP hD hS => ?_)
        have hP : va_P (dC, dI) vwCl (ja_wM h a1 a2 a3 a4 a5 a6 a7 cA fd (ja_ap os ov nw k) (upd (ja_pt sl os ch k) (ch + k) (os k)) (upd (ja_pt vl ov ch k) (ch + k) (ov k)) (upd (ja_pt la (ja_lm ow) ch k) (ch + k) (ja_lm ow k)) os ov (ch + k) hm ow de si fl cr) H := hP
        have hD : va_D A (ja_wM h a1 a2 a3 a4 a5 a6 a7 cA fd (ja_ap os ov nw k) (upd (ja_pt sl os ch k) (ch + k) (os k)) (upd (ja_pt vl ov ch k) (ch + k) (ov k)) (upd (ja_pt la (ja_lm ow) ch k) (ch + k) (ja_lm ow k)) os ov (ch + k) hm ow de si fl cr) := hD
        refine lv_aload_n hx hb dX1_commit_69 rfl (lv_at hl 2 rfl) ?_
        refine lv_dup hx hb dX1_commit_70 rfl ?_
        refine va_get (D := (dC, dI)) (ci := 1) (v := .int (nI (ch + k))) (C := RX1) (T := TX1) (N := 14) hx hb hts hin hown hK hP 0 rfl rfl 5 (by decide) fk31 (fun _ h9 => h9) rfl dX1_commit_71 ?_
        refine lv_iconst (v := nI 1) hx hb dX1_commit_74 (by decide +kernel) ?_
        refine lv_iadd hx hb dX1_commit_75 ?_
        refine ja_top (y := nI ((ch + k) + 1)) (nI_add _ _) ?_
        refine va_put (D := (dC, dI)) (ci := 1) (v := .int (nI ((ch + k) + 1))) (ty := .int) (C := RX1) (T := TX1) (N := 14) hx hb hts hin tyX1 tyX1_ok nmX1 hown hK hP hD hS 0 rfl rfl 5 (by decide) fk31 (fun _ h9 => h9) rfl (by decide +kernel) rfl rfl (Nat.le_of_ble_eq_true rfl) dX1_commit_76 (fun H locs hP hD hS => ?_)
        have hP : va_P (dC, dI) vwCl (ja_wM h a1 a2 a3 a4 a5 a6 a7 cA fd (ja_ap os ov nw k) (upd (ja_pt sl os ch k) (ch + k) (os k)) (upd (ja_pt vl ov ch k) (ch + k) (ov k)) (upd (ja_pt la (ja_lm ow) ch k) (ch + k) (ja_lm ow k)) os ov ((ch + k) + 1) hm ow de si fl cr) H := hP
        have hD : va_D A (ja_wM h a1 a2 a3 a4 a5 a6 a7 cA fd (ja_ap os ov nw k) (upd (ja_pt sl os ch k) (ch + k) (os k)) (upd (ja_pt vl ov ch k) (ch + k) (ov k)) (upd (ja_pt la (ja_lm ow) ch k) (ch + k) (ja_lm ow k)) os ov ((ch + k) + 1) hm ow de si fl cr) := hD
        refine lv_aload_n hx hb dX1_commit_79 rfl (lv_at hl 2 rfl) ?_
        refine va_get (D := (dC, dI)) (ci := 1) (v := .ref a2) (C := RX1) (T := TX1) (N := 14) hx hb hts hin hown hK hP 0 rfl rfl 1 (by decide) fk13 (fun _ h9 => h9) rfl dX1_commit_80 ?_
        refine lv_aload_n hx hb dX1_commit_83 rfl (lv_at hl 2 rfl) ?_
        refine va_get (D := (dC, dI)) (ci := 1) (v := .ref a6) (C := RX1) (T := TX1) (N := 14) hx hb hts hin hown hK hP 0 rfl rfl 7 (by decide) fk25 (fun _ h9 => h9) rfl dX1_commit_84 ?_
        refine lv_iload_n hx hb dX1_commit_87 rfl (lv_at hl 0 rfl) ?_
        refine ja_ald hx hb hK hP 6 0 rfl rfl (by omega) (by decide) dX1_commit_88 ?_
        refine lv_aload_n hx hb dX1_commit_89 rfl (lv_at hl 2 rfl) ?_
        refine va_get (D := (dC, dI)) (ci := 1) (v := .ref a7) (C := RX1) (T := TX1) (N := 14) hx hb hts hin hown hK hP 0 rfl rfl 8 (by decide) fk28 (fun _ h9 => h9) rfl dX1_commit_90 ?_
        refine lv_iload_n hx hb dX1_commit_93 rfl (lv_at hl 0 rfl) ?_
        refine ja_ald hx hb hK hP 7 0 rfl rfl (by omega) (by decide) dX1_commit_94 ?_
        refine va_iast hx hb hK hP hD hS 2 0 rfl rfl (hos k (by omega)) dX1_commit_95 (fun H locs hP hD hS => ?_)
        have hP : va_P (dC, dI) vwCl (ja_wM h a1 a2 a3 a4 a5 a6 a7 cA fd (upd (ja_ap os ov nw k) (os k).toNatClampNeg (ov k)) (upd (ja_pt sl os ch k) (ch + k) (os k)) (upd (ja_pt vl ov ch k) (ch + k) (ov k)) (upd (ja_pt la (ja_lm ow) ch k) (ch + k) (ja_lm ow k)) os ov ((ch + k) + 1) hm ow de si fl cr) H := hP
        have hD : va_D A (ja_wM h a1 a2 a3 a4 a5 a6 a7 cA fd (upd (ja_ap os ov nw k) (os k).toNatClampNeg (ov k)) (upd (ja_pt sl os ch k) (ch + k) (os k)) (upd (ja_pt vl ov ch k) (ch + k) (ov k)) (upd (ja_pt la (ja_lm ow) ch k) (ch + k) (ja_lm ow k)) os ov ((ch + k) + 1) hm ow de si fl cr) := hD
        -- iinc
        refine lv_iinc (k := 0) (v := nI (k + 1)) (lv' := [(2, .int (nI (k + 1))), (1, .int (nI ow)), (0, .ref h)]) hx hb dX1_commit_96 hl rfl (ja_inc1 _) (by decide) rfl (fun ls hl => ?_)
        refine lv_goto (tgt := 13) hx hb dX1_commit_99 (by decide) ?_
        exact ih0 (k + 1) ls H locs ⟨lv_sub hl [0, 1, 2] rfl, hP, hD, hS, (by omega)⟩ (show ow - (k + 1) < ow - (k) by omega)
      · refine lv_iconst (v := nI 1) hx hb dX1_commit_63 (by decide +kernel) ?_
        refine lv_goto (tgt := 68) hx hb dX1_commit_64 (by decide) ?_
        refine ja_top (y := ja_lm ow k) (ja_lm_t (by omega)) ?_
        refine ja_ast hx hb hK hP hD hS 5 0 rfl rfl (by omega) (by decide) dX1_commit_68 (fun H locs hP hD hS => ?_)
        have hP : va_P (dC, dI) vwCl (ja_wM h a1 a2 a3 a4 a5 a6 a7 cA fd (ja_ap os ov nw k) (upd (ja_pt sl os ch k) (ch + k) (os k)) (upd (ja_pt vl ov ch k) (ch + k) (ov k)) (upd (ja_pt la (ja_lm ow) ch k) (ch + k) (ja_lm ow k)) os ov (ch + k) hm ow de si fl cr) H := hP
        have hD : va_D A (ja_wM h a1 a2 a3 a4 a5 a6 a7 cA fd (ja_ap os ov nw k) (upd (ja_pt sl os ch k) (ch + k) (os k)) (upd (ja_pt vl ov ch k) (ch + k) (ov k)) (upd (ja_pt la (ja_lm ow) ch k) (ch + k) (ja_lm ow k)) os ov (ch + k) hm ow de si fl cr) := hD
        refine lv_aload_n hx hb dX1_commit_69 rfl (lv_at hl 2 rfl) ?_
        refine lv_dup hx hb dX1_commit_70 rfl ?_
        refine va_get (D := (dC, dI)) (ci := 1) (v := .int (nI (ch + k))) (C := RX1) (T := TX1) (N := 14) hx hb hts hin hown hK hP 0 rfl rfl 5 (by decide) fk31 (fun _ h9 => h9) rfl dX1_commit_71 ?_
        refine lv_iconst (v := nI 1) hx hb dX1_commit_74 (by decide +kernel) ?_
        refine lv_iadd hx hb dX1_commit_75 ?_
        refine ja_top (y := nI ((ch + k) + 1)) (nI_add _ _) ?_
        refine va_put (D := (dC, dI)) (ci := 1) (v := .int (nI ((ch + k) + 1))) (ty := .int) (C := RX1) (T := TX1) (N := 14) hx hb hts hin tyX1 tyX1_ok nmX1 hown hK hP hD hS 0 rfl rfl 5 (by decide) fk31 (fun _ h9 => h9) rfl (by decide +kernel) rfl rfl (Nat.le_of_ble_eq_true rfl) dX1_commit_76 (fun H locs hP hD hS => ?_)
        have hP : va_P (dC, dI) vwCl (ja_wM h a1 a2 a3 a4 a5 a6 a7 cA fd (ja_ap os ov nw k) (upd (ja_pt sl os ch k) (ch + k) (os k)) (upd (ja_pt vl ov ch k) (ch + k) (ov k)) (upd (ja_pt la (ja_lm ow) ch k) (ch + k) (ja_lm ow k)) os ov ((ch + k) + 1) hm ow de si fl cr) H := hP
        have hD : va_D A (ja_wM h a1 a2 a3 a4 a5 a6 a7 cA fd (ja_ap os ov nw k) (upd (ja_pt sl os ch k) (ch + k) (os k)) (upd (ja_pt vl ov ch k) (ch + k) (ov k)) (upd (ja_pt la (ja_lm ow) ch k) (ch + k) (ja_lm ow k)) os ov ((ch + k) + 1) hm ow de si fl cr) := hD
        refine lv_aload_n hx hb dX1_commit_79 rfl (lv_at hl 2 rfl) ?_
        refine va_get (D := (dC, dI)) (ci := 1) (v := .ref a2) (C := RX1) (T := TX1) (N := 14) hx hb hts hin hown hK hP 0 rfl rfl 1 (by decide) fk13 (fun _ h9 => h9) rfl dX1_commit_80 ?_
        refine lv_aload_n hx hb dX1_commit_83 rfl (lv_at hl 2 rfl) ?_
        refine va_get (D := (dC, dI)) (ci := 1) (v := .ref a6) (C := RX1) (T := TX1) (N := 14) hx hb hts hin hown hK hP 0 rfl rfl 7 (by decide) fk25 (fun _ h9 => h9) rfl dX1_commit_84 ?_
        refine lv_iload_n hx hb dX1_commit_87 rfl (lv_at hl 0 rfl) ?_
        refine ja_ald hx hb hK hP 6 0 rfl rfl (by omega) (by decide) dX1_commit_88 ?_
        refine lv_aload_n hx hb dX1_commit_89 rfl (lv_at hl 2 rfl) ?_
        refine va_get (D := (dC, dI)) (ci := 1) (v := .ref a7) (C := RX1) (T := TX1) (N := 14) hx hb hts hin hown hK hP 0 rfl rfl 8 (by decide) fk28 (fun _ h9 => h9) rfl dX1_commit_90 ?_
        refine lv_iload_n hx hb dX1_commit_93 rfl (lv_at hl 0 rfl) ?_
        refine ja_ald hx hb hK hP 7 0 rfl rfl (by omega) (by decide) dX1_commit_94 ?_
        refine va_iast hx hb hK hP hD hS 2 0 rfl rfl (hos k (by omega)) dX1_commit_95 (fun H locs hP hD hS => ?_)
        have hP : va_P (dC, dI) vwCl (ja_wM h a1 a2 a3 a4 a5 a6 a7 cA fd (upd (ja_ap os ov nw k) (os k).toNatClampNeg (ov k)) (upd (ja_pt sl os ch k) (ch + k) (os k)) (upd (ja_pt vl ov ch k) (ch + k) (ov k)) (upd (ja_pt la (ja_lm ow) ch k) (ch + k) (ja_lm ow k)) os ov ((ch + k) + 1) hm ow de si fl cr) H := hP
        have hD : va_D A (ja_wM h a1 a2 a3 a4 a5 a6 a7 cA fd (upd (ja_ap os ov nw k) (os k).toNatClampNeg (ov k)) (upd (ja_pt sl os ch k) (ch + k) (os k)) (upd (ja_pt vl ov ch k) (ch + k) (ov k)) (upd (ja_pt la (ja_lm ow) ch k) (ch + k) (ja_lm ow k)) os ov ((ch + k) + 1) hm ow de si fl cr) := hD
        -- iinc
        refine lv_iinc (k := 0) (v := nI (k + 1)) (lv' := [(2, .int (nI (k + 1))), (1, .int (nI ow)), (0, .ref h)]) hx hb dX1_commit_96 hl rfl (ja_inc1 _) (by decide) rfl (fun ls hl => ?_)
        refine lv_goto (tgt := 13) hx hb dX1_commit_99 (by decide) ?_
        exact ih0 (k + 1) ls H locs ⟨lv_sub hl [0, 1, 2] rfl, hP, hD, hS, (by omega)⟩ (show ow - (k + 1) < ow - (k) by omega)
  · refine lv_iconst (v := (-1)) hx hb dX1_commit_9 (by decide +kernel) ?_
    exact W.iret (v := (-1)) hx hb hr (fun t ht hW => ⟨⟨(-1), (fd, nw, sl, vl, la, os, ov, ch, hm, ow, de, si, fl, cr), rfl, Or.inl ⟨h6, rfl, rfl⟩, by rw [ht]; exact hP, hD⟩, hS.F ht⟩) hS.2.2 dX1_commit_10
set_option maxHeartbeats 1000000 in
set_option maxRecDepth 100000 in
/-- forget -/
theorem cM_forget (l : Launch) (dC : Nat → ClassId) (dI : Nat → Nat → Nat) (h a1 a2 a3 a4 a5 a6 a7 : Nat) (cA : ClassId) (sz : Nat) (fd nw sl vl la os ov : Nat → Int32) (ch : Nat) (hm : Int32) (ow : Nat) (de : Int32) (si : Int32) (fl : Int32) (cr : Int32)   : Met l yX1_forget wsX1_forget ({ frames := 0, cells := 0, slots := 0, locals := 0 }) (ja_Pw (dC, dI) vwCl (ja_wM h a1 a2 a3 a4 a5 a6 a7 cA fd nw sl vl la os ov ch hm ow de si fl cr) [(cA, .int)] sz [.ref h]) (va_Qi (fun (r : Int32) (u : ja_SM) => r = nI ow ∧ u = (fd, nw, sl, vl, la, os, ov, ch, hm, 0, de, si, fl, cr)) (ja_B (dC, dI) vwCl (va_A (ja_wM h a1 a2 a3 a4 a5 a6 a7 cA fd nw sl vl la os ov ch hm ow de si fl cr) sz) (ja_uM h a1 a2 a3 a4 a5 a6 a7 cA)) (va_A (ja_wM h a1 a2 a3 a4 a5 a6 a7 cA fd nw sl vl la os ov ch hm ow de si fl cr) sz)) 0 0 (va_A (ja_wM h a1 a2 a3 a4 a5 a6 a7 cA fd nw sl vl la os ov ch hm ow de si fl cr) sz) := by
  refine Met.ofW (cc := cX1_forget) (maxL := 2) (ret := (some .int)) (by decide) rfl ?_
  intro p e s m args below meth c s₁ B hml hv
  obtain ⟨rfl, hsz, hP, hK, hD0⟩ := hv
  have hx := B.exec
  have hb := B.bytes
  have hr := B.returns
  have hts := atoms_spec (ws := wsX1_forget) B.pre
  have hown : s.vm.findClass RX1 = some m.cls := findClass_of_methodNamed B.named
  have hlocks := B.notSynchronized
  have hin : ∀ w ∈ u_ws RX1 TX1 14, w ∈ wsX1_forget := by decide +kernel
  have fk38 := hts (.fieldLink RX1 38 "JournalShelfModel" "own" "I") (by decide +kernel)
  subst hsz
  have hD := hD0.self (sz := s.heap.size)
  generalize hAe : va_A (ja_wM h a1 a2 a3 a4 a5 a6 a7 cA fd nw sl vl la os ov ch hm ow de si fl cr) s.heap.size = A at hD ⊢
  have hA : ∀ q : Nat, s.heap.size ≤ q → A q := fun q h => by rw [← hAe]; exact Or.inr h
  refine ja_st0 s.heap [] hP (va_S.rf (A := A)) (fun H locs hP hS => ?_)
  have hl := lv_entry ([.ref h]) (n := 2) (Nat.le_of_ble_eq_true rfl)
  rw [lg_entry_eq]
  generalize (lg_sl ([.ref h]) ++ List.replicate (2 - (lg_sl ([.ref h])).length) Slot.unset).toArray = ls at hl ⊢
  have hl : lv_has ls 2 [(0, .ref h)] := hl
  refine lv_aload_n hx hb dX1_forget_0 rfl (lv_at hl 0 rfl) ?_
  refine va_get (D := (dC, dI)) (ci := 1) (v := .int (nI ow)) (C := RX1) (T := TX1) (N := 14) hx hb hts hin hown hK hP 0 rfl rfl 9 (by decide) fk38 (fun _ h9 => h9) rfl dX1_forget_1 ?_
  refine lv_istore_n (lv' := [(1, .int (nI ow)), (0, .ref h)]) hx hb dX1_forget_4 rfl hl (by decide) rfl (fun ls hl => ?_)
  refine lv_aload_n hx hb dX1_forget_5 rfl (lv_at hl 1 rfl) ?_
  refine lv_iconst (v := nI 0) hx hb dX1_forget_6 (by decide +kernel) ?_
  refine va_put (D := (dC, dI)) (ci := 1) (v := .int (nI 0)) (ty := .int) (C := RX1) (T := TX1) (N := 14) hx hb hts hin tyX1 tyX1_ok nmX1 hown hK hP hD hS 0 rfl rfl 9 (by decide) fk38 (fun _ h9 => h9) rfl (by decide +kernel) rfl rfl (Nat.le_of_ble_eq_true rfl) dX1_forget_7 (fun H locs hP hD hS => ?_)
  have hP : va_P (dC, dI) vwCl (ja_wM h a1 a2 a3 a4 a5 a6 a7 cA fd nw sl vl la os ov ch hm 0 de si fl cr) H := hP
  have hD : va_D A (ja_wM h a1 a2 a3 a4 a5 a6 a7 cA fd nw sl vl la os ov ch hm 0 de si fl cr) := hD
  refine lv_iload_n hx hb dX1_forget_10 rfl (lv_at hl 0 rfl) ?_
  exact W.iret (v := nI ow) hx hb hr (fun t ht hW => ⟨⟨nI ow, (fd, nw, sl, vl, la, os, ov, ch, hm, 0, de, si, fl, cr), rfl, ⟨rfl, rfl⟩, by rw [ht]; exact hP, hD⟩, hS.F ht⟩) hS.2.2 dX1_forget_11
set_option maxHeartbeats 1000000 in
set_option maxRecDepth 100000 in
/-- crash -/
theorem cM_crash (l : Launch) (dC : Nat → ClassId) (dI : Nat → Nat → Nat) (h a1 a2 a3 a4 a5 a6 a7 : Nat) (cA : ClassId) (sz : Nat) (fd nw sl vl la os ov : Nat → Int32) (ch : Nat) (hm : Int32) (ow : Nat) (de : Int32) (si : Int32) (fl : Int32) (cr : Int32) (mask part : Int32) (hch : ch ≤ 24) (hsl : ∀ i, i < ch → vp_in (sl i) 212) : Met l yX1_crash wsX1_crash ({ frames := 1, cells := 0, slots := 0, locals := 21 }) (ja_Pw (dC, dI) vwCl (ja_wM h a1 a2 a3 a4 a5 a6 a7 cA fd nw sl vl la os ov ch hm ow de si fl cr) [(cA, .int)] sz [.ref h, .int mask, .int part]) (va_Qi (fun (r : Int32) (u : ja_SM) => ((part < 0 ∨ nI 500 < part) ∧ r = -1 ∧ u = (fd, nw, sl, vl, la, os, ov, ch, hm, ow, de, si, fl, cr)) ∨ (¬ part < 0 ∧ ¬ nI 500 < part ∧ r = si - nI (ja_kp (ja_z mask hm) la ch) ∧ u = (ja_cp (ja_ap sl vl (ja_cp fd nw 212) (ja_wh (ja_z mask hm) la ch)) fd 212, ja_ap sl vl (ja_cp fd nw 212) (ja_wh (ja_z mask hm) la ch), sl, vl, la, os, ov, 0, nI 0, 0, de - (si - nI (ja_kp (ja_z mask hm) la ch)), nI 0, fl, cr + nI 1))) (ja_B (dC, dI) vwCl (va_A (ja_wM h a1 a2 a3 a4 a5 a6 a7 cA fd nw sl vl la os ov ch hm ow de si fl cr) sz) (ja_uM h a1 a2 a3 a4 a5 a6 a7 cA)) (va_A (ja_wM h a1 a2 a3 a4 a5 a6 a7 cA fd nw sl vl la os ov ch hm ow de si fl cr) sz)) 0 0 (va_A (ja_wM h a1 a2 a3 a4 a5 a6 a7 cA fd nw sl vl la os ov ch hm ow de si fl cr) sz) := by
  refine Met.ofW (cc := cX1_crash) (maxL := 7) (ret := (some .int)) (by decide) rfl ?_
  intro p e s m args below meth c s₁ B hml hv
  obtain ⟨rfl, hsz, hP, hK, hD0⟩ := hv
  have hx := B.exec
  have hb := B.bytes
  have hr := B.returns
  have hts := atoms_spec (ws := wsX1_crash) B.pre
  have hown : s.vm.findClass RX1 = some m.cls := findClass_of_methodNamed B.named
  have hlocks := B.notSynchronized
  have hin : ∀ w ∈ u_ws RX1 TX1 14, w ∈ wsX1_crash := by decide +kernel
  have fk9 := hts (.fieldLink RX1 9 "JournalShelfModel" "flushed" "[I") (by decide +kernel)
  have fk13 := hts (.fieldLink RX1 13 "JournalShelfModel" "now" "[I") (by decide +kernel)
  have fk16 := hts (.fieldLink RX1 16 "JournalShelfModel" "slot" "[I") (by decide +kernel)
  have fk19 := hts (.fieldLink RX1 19 "JournalShelfModel" "value" "[I") (by decide +kernel)
  have fk22 := hts (.fieldLink RX1 22 "JournalShelfModel" "lastOf" "[I") (by decide +kernel)
  have fk31 := hts (.fieldLink RX1 31 "JournalShelfModel" "changes" "I") (by decide +kernel)
  have fk35 := hts (.fieldLink RX1 35 "JournalShelfModel" "since" "I") (by decide +kernel)
  have fk38 := hts (.fieldLink RX1 38 "JournalShelfModel" "own" "I") (by decide +kernel)
  have fk45 := hts (.fieldLink RX1 45 "JournalShelfModel" "deeds" "I") (by decide +kernel)
  have fk51 := hts (.fieldLink RX1 51 "JournalShelfModel" "homes" "I") (by decide +kernel)
  have fk60 := hts (.fieldLink RX1 60 "JournalShelfModel" "crashes" "I") (by decide +kernel)
  subst hsz
  have hD := hD0.self (sz := s.heap.size)
  generalize hAe : va_A (ja_wM h a1 a2 a3 a4 a5 a6 a7 cA fd nw sl vl la os ov ch hm ow de si fl cr) s.heap.size = A at hD ⊢
  have hA : ∀ q : Nat, s.heap.size ≤ q → A q := fun q h => by rw [← hAe]; exact Or.inr h
  refine ja_st0 s.heap [] hP (va_S.rf (A := A)) (fun H locs hP hS => ?_)
  have hl := lv_entry ([.ref h, .int mask, .int part]) (n := 7) (Nat.le_of_ble_eq_true rfl)
  rw [lg_entry_eq]
  generalize (lg_sl ([.ref h, .int mask, .int part]) ++ List.replicate (7 - (lg_sl ([.ref h, .int mask, .int part])).length) Slot.unset).toArray = ls at hl ⊢
  have hl : lv_has ls 7 [(0, .ref h), (1, .int mask), (2, .int part)] := hl
  refine lv_iload_n hx hb dX1_crash_0 rfl (lv_at hl 2 rfl) ?_
  refine lv_if_lt hx hb dX1_crash_1 (tgt := 11) (by decide) (fun h1 => ?_) (fun h1 => ?_)
  · refine lv_iconst (v := (-1)) hx hb dX1_crash_11 (by decide +kernel) ?_
    exact W.iret (v := (-1)) hx hb hr (fun t ht hW => ⟨⟨(-1), (fd, nw, sl, vl, la, os, ov, ch, hm, ow, de, si, fl, cr), rfl, Or.inl ⟨Or.inl h1, rfl, rfl⟩, by rw [ht]; exact hP, hD⟩, hS.F ht⟩) hS.2.2 dX1_crash_12
  · have hp0 := h1
    refine lv_iload_n hx hb dX1_crash_4 rfl (lv_at hl 2 rfl) ?_
    refine lv_sipush (v := nI 500) hx hb dX1_crash_5 (by decide +kernel) ?_
    refine lv_icmp_le hx hb dX1_crash_8 (tgt := 13) (by decide) (fun h8 => ?_) (fun h8 => ?_)
    · have hp1 := Int32.not_lt.mpr h8
      refine lv_iconst (v := nI 0) hx hb dX1_crash_13 (by decide +kernel) ?_
      refine lv_istore_n (lv' := [(3, .int (nI 0)), (0, .ref h), (1, .int mask), (2, .int part)]) hx hb dX1_crash_14 rfl hl (by decide) rfl (fun ls hl => ?_)
      refine lv_iconst (v := nI 0) hx hb dX1_crash_15 (by decide +kernel) ?_
      refine lv_istore (lv' := [(4, .int (nI 0)), (3, .int (nI 0)), (0, .ref h), (1, .int mask), (2, .int part)]) hx hb dX1_crash_16 hl (by decide) rfl (fun ls hl => ?_)
      refine lv_iconst (v := nI 1) hx hb dX1_crash_18 (by decide +kernel) ?_
      refine lv_istore (lv' := [(5, .int (nI 1)), (4, .int (nI 0)), (3, .int (nI 0)), (0, .ref h), (1, .int mask), (2, .int part)]) hx hb dX1_crash_19 hl (by decide) rfl (fun ls hl => ?_)
      refine lv_iconst (v := nI 0) hx hb dX1_crash_21 (by decide +kernel) ?_
      refine lv_istore (lv' := [(6, .int (nI 0)), (5, .int (nI 1)), (4, .int (nI 0)), (3, .int (nI 0)), (0, .ref h), (1, .int mask), (2, .int part)]) hx hb dX1_crash_22 hl (by decide) rfl (fun ls hl => ?_)
      refine ja_lpW 24 (fun (k : Nat) ls H locs => lv_has ls 7 [(6, .int (nI k)), (5, .int (ja_b (ja_sd (ja_z mask hm) k))), (4, .int (nI (ja_kp (ja_z mask hm) la k))), (3, .int (nI (ja_wh (ja_z mask hm) la k))), (0, .ref h), (1, .int mask), (2, .int part)] ∧ va_P (dC, dI) vwCl (ja_wM h a1 a2 a3 a4 a5 a6 a7 cA fd nw sl vl la os ov ch hm ow de si fl cr) H ∧ va_D A (ja_wM h a1 a2 a3 a4 a5 a6 a7 cA fd nw sl vl la os ov ch hm ow de si fl cr) ∧ va_S A s.heap H locs ∧ k ≤ ch) (fun k => ch - (k)) ?_ 0 ls H locs ⟨lv_sub hl [0, 1, 2, 3, 4, 5, 6] rfl, hP, hD, hS, Nat.zero_le _⟩
      intro k ls H locs hI ih0
      obtain ⟨hl, hP, hD, hS, hi⟩ := hI
      have hl : lv_has ls 7 [(6, .int (nI k)), (5, .int (ja_b (ja_sd (ja_z mask hm) k))), (4, .int (nI (ja_kp (ja_z mask hm) la k))), (3, .int (nI (ja_wh (ja_z mask hm) la k))), (0, .ref h), (1, .int mask), (2, .int part)] := hl
      have hP : va_P (dC, dI) vwCl (ja_wM h a1 a2 a3 a4 a5 a6 a7 cA fd nw sl vl la os ov ch hm ow de si fl cr) H := hP
      have hD : va_D A (ja_wM h a1 a2 a3 a4 a5 a6 a7 cA fd nw sl vl la os ov ch hm ow de si fl cr) := hD
      refine lv_iload hx hb dX1_crash_24 (lv_at hl 0 rfl) ?_
      refine lv_aload_n hx hb dX1_crash_26 rfl (lv_at hl 4 rfl) ?_
      refine va_get (D := (dC, dI)) (ci := 1) (v := .int (nI ch)) (C := RX1) (T := TX1) (N := 14) hx hb hts hin hown hK hP 0 rfl rfl 5 (by decide) fk31 (fun _ h9 => h9) rfl dX1_crash_27 ?_
      refine ja_ige hx hb dX1_crash_30 (tgt := 83) (by decide) (by omega) (by omega) (fun h30 => ?_) (fun h30 => ?_)
      · have hk2 : k = ch := by omega
        obtain rfl : ch = k := hk2.symm
        have hl : lv_has ls 7 [(6, .int (nI ch)), (5, .int (ja_b (ja_sd (ja_z mask hm) ch))), (4, .int (nI (ja_kp (ja_z mask hm) la ch))), (3, .int (nI (ja_wh (ja_z mask hm) la ch))), (0, .ref h), (1, .int mask), (2, .int part)] := hl
        have hP : va_P (dC, dI) vwCl (ja_wM h a1 a2 a3 a4 a5 a6 a7 cA fd nw sl vl la os ov ch hm ow de si fl cr) H := hP
        have hD : va_D A (ja_wM h a1 a2 a3 a4 a5 a6 a7 cA fd nw sl vl la os ov ch hm ow de si fl cr) := hD
        have hwl := ja_wh_le (ja_z mask hm) la ch
        refine lv_iconst (v := nI 0) hx hb dX1_crash_83 (by decide +kernel) ?_
        refine lv_istore (lv' := [(6, .int (nI 0)), (5, .int (ja_b (ja_sd (ja_z mask hm) ch))), (4, .int (nI (ja_kp (ja_z mask hm) la ch))), (3, .int (nI (ja_wh (ja_z mask hm) la ch))), (0, .ref h), (1, .int mask), (2, .int part)]) hx hb dX1_crash_84 hl (by decide) rfl (fun ls hl => ?_)
        have hP : va_P (dC, dI) vwCl (ja_wM h a1 a2 a3 a4 a5 a6 a7 cA fd (ja_cp fd nw 0) sl vl la os ov ch hm ow de si fl cr) H := by rw [ja_cp_0]; exact hP
        have hD : va_D A (ja_wM h a1 a2 a3 a4 a5 a6 a7 cA fd (ja_cp fd nw 0) sl vl la os ov ch hm ow de si fl cr) := by rw [ja_cp_0]; exact hD
        refine ja_lpW 86 (fun (i : Nat) ls H locs => lv_has ls 7 [(6, .int (nI i)), (4, .int (nI (ja_kp (ja_z mask hm) la ch))), (3, .int (nI (ja_wh (ja_z mask hm) la ch))), (0, .ref h)] ∧ va_P (dC, dI) vwCl (ja_wM h a1 a2 a3 a4 a5 a6 a7 cA fd (ja_cp fd nw i) sl vl la os ov ch hm ow de si fl cr) H ∧ va_D A (ja_wM h a1 a2 a3 a4 a5 a6 a7 cA fd (ja_cp fd nw i) sl vl la os ov ch hm ow de si fl cr) ∧ va_S A s.heap H locs ∧ i ≤ 212) (fun i => 212 - (i)) ?_ 0 ls H locs ⟨lv_sub hl [0, 2, 3, 4] rfl, hP, hD, hS, Nat.zero_le _⟩
        intro i ls H locs hI ih1
        obtain ⟨hl, hP, hD, hS, hi⟩ := hI
        have hl : lv_has ls 7 [(6, .int (nI i)), (4, .int (nI (ja_kp (ja_z mask hm) la ch))), (3, .int (nI (ja_wh (ja_z mask hm) la ch))), (0, .ref h)] := hl
        have hP : va_P (dC, dI) vwCl (ja_wM h a1 a2 a3 a4 a5 a6 a7 cA fd (ja_cp fd nw i) sl vl la os ov ch hm ow de si fl cr) H := hP
        have hD : va_D A (ja_wM h a1 a2 a3 a4 a5 a6 a7 cA fd (ja_cp fd nw i) sl vl la os ov ch hm ow de si fl cr) := hD
        refine lv_iload hx hb dX1_crash_86 (lv_at hl 0 rfl) ?_
        refine lv_sipush (v := nI 212) hx hb dX1_crash_88 (by decide +kernel) ?_
        refine ja_ige hx hb dX1_crash_91 (tgt := 114) (by decide) (by omega) (by omega) (fun h91 => ?_) (fun h91 => ?_)
        · have hi2 : i = 212 := by omega
          subst hi2
          have hP : va_P (dC, dI) vwCl (ja_wM h a1 a2 a3 a4 a5 a6 a7 cA fd (ja_cp fd nw 212) sl vl la os ov ch hm ow de si fl cr) H := hP
          have hD : va_D A (ja_wM h a1 a2 a3 a4 a5 a6 a7 cA fd (ja_cp fd nw 212) sl vl la os ov ch hm ow de si fl cr) := hD
          refine lv_iconst (v := nI 0) hx hb dX1_crash_114 (by decide +kernel) ?_
          refine lv_istore (lv' := [(6, .int (nI 0)), (4, .int (nI (ja_kp (ja_z mask hm) la ch))), (3, .int (nI (ja_wh (ja_z mask hm) la ch))), (0, .ref h)]) hx hb dX1_crash_115 hl (by decide) rfl (fun ls hl => ?_)
          refine ja_lpW 117 (fun (i : Nat) ls H locs => lv_has ls 7 [(6, .int (nI i)), (4, .int (nI (ja_kp (ja_z mask hm) la ch))), (3, .int (nI (ja_wh (ja_z mask hm) la ch))), (0, .ref h)] ∧ va_P (dC, dI) vwCl (ja_wM h a1 a2 a3 a4 a5 a6 a7 cA fd (ja_ap sl vl (ja_cp fd nw 212) i) sl vl la os ov ch hm ow de si fl cr) H ∧ va_D A (ja_wM h a1 a2 a3 a4 a5 a6 a7 cA fd (ja_ap sl vl (ja_cp fd nw 212) i) sl vl la os ov ch hm ow de si fl cr) ∧ va_S A s.heap H locs ∧ i ≤ (ja_wh (ja_z mask hm) la ch)) (fun i => (ja_wh (ja_z mask hm) la ch) - (i)) ?_ 0 ls H locs ⟨lv_sub hl [0, 1, 2, 3] rfl, hP, hD, hS, Nat.zero_le _⟩
          intro i ls H locs hI ih2
          obtain ⟨hl, hP, hD, hS, hi⟩ := hI
          have hl : lv_has ls 7 [(6, .int (nI i)), (4, .int (nI (ja_kp (ja_z mask hm) la ch))), (3, .int (nI (ja_wh (ja_z mask hm) la ch))), (0, .ref h)] := hl
          have hP : va_P (dC, dI) vwCl (ja_wM h a1 a2 a3 a4 a5 a6 a7 cA fd (ja_ap sl vl (ja_cp fd nw 212) i) sl vl la os ov ch hm ow de si fl cr) H := hP
          have hD : va_D A (ja_wM h a1 a2 a3 a4 a5 a6 a7 cA fd (ja_ap sl vl (ja_cp fd nw 212) i) sl vl la os ov ch hm ow de si fl cr) := hD
          refine lv_iload hx hb dX1_crash_117 (lv_at hl 0 rfl) ?_
          refine lv_iload_n hx hb dX1_crash_119 rfl (lv_at hl 2 rfl) ?_
          refine ja_ige hx hb dX1_crash_120 (tgt := 148) (by decide) (by omega) (by omega) (fun h120 => ?_) (fun h120 => ?_)
          · have hi2 : i = (ja_wh (ja_z mask hm) la ch) := by omega
            subst hi2
            have hl : lv_has ls 7 [(6, .int (nI (ja_wh (ja_z mask hm) la ch))), (4, .int (nI (ja_kp (ja_z mask hm) la ch))), (3, .int (nI (ja_wh (ja_z mask hm) la ch))), (0, .ref h)] := hl
            have hP : va_P (dC, dI) vwCl (ja_wM h a1 a2 a3 a4 a5 a6 a7 cA fd (ja_ap sl vl (ja_cp fd nw 212) (ja_wh (ja_z mask hm) la ch)) sl vl la os ov ch hm ow de si fl cr) H := hP
            have hD : va_D A (ja_wM h a1 a2 a3 a4 a5 a6 a7 cA fd (ja_ap sl vl (ja_cp fd nw 212) (ja_wh (ja_z mask hm) la ch)) sl vl la os ov ch hm ow de si fl cr) := hD
            refine lv_aload_n hx hb dX1_crash_148 rfl (lv_at hl 3 rfl) ?_
            refine va_get (D := (dC, dI)) (ci := 1) (v := .int si) (C := RX1) (T := TX1) (N := 14) hx hb hts hin hown hK hP 0 rfl rfl 11 (by decide) fk35 (fun _ h9 => h9) rfl dX1_crash_149 ?_
            refine lv_iload hx hb dX1_crash_152 (lv_at hl 1 rfl) ?_
            refine lv_isub hx hb dX1_crash_154 ?_
            refine lv_istore (lv' := [(6, .int (si - nI (ja_kp (ja_z mask hm) la ch))), (4, .int (nI (ja_kp (ja_z mask hm) la ch))), (3, .int (nI (ja_wh (ja_z mask hm) la ch))), (0, .ref h)]) hx hb dX1_crash_155 hl (by decide) rfl (fun ls hl => ?_)
            refine lv_aload_n hx hb dX1_crash_157 rfl (lv_at hl 3 rfl) ?_
            refine lv_dup hx hb dX1_crash_158 rfl ?_
            refine va_get (D := (dC, dI)) (ci := 1) (v := .int de) (C := RX1) (T := TX1) (N := 14) hx hb hts hin hown hK hP 0 rfl rfl 10 (by decide) fk45 (fun _ h9 => h9) rfl dX1_crash_159 ?_
            refine lv_iload hx hb dX1_crash_162 (lv_at hl 0 rfl) ?_
            refine lv_isub hx hb dX1_crash_164 ?_
            refine va_put (D := (dC, dI)) (ci := 1) (v := .int (de - (si - nI (ja_kp (ja_z mask hm) la ch)))) (ty := .int) (C := RX1) (T := TX1) (N := 14) hx hb hts hin tyX1 tyX1_ok nmX1 hown hK hP hD hS 0 rfl rfl 10 (by decide) fk45 (fun _ h9 => h9) rfl (by decide +kernel) rfl rfl (Nat.le_of_ble_eq_true rfl) dX1_crash_165 (fun H locs hP hD hS => ?_)
            have hP : va_P (dC, dI) vwCl (ja_wM h a1 a2 a3 a4 a5 a6 a7 cA fd (ja_ap sl vl (ja_cp fd nw 212) (ja_wh (ja_z mask hm) la ch)) sl vl la os ov ch hm ow (de - (si - nI (ja_kp (ja_z mask hm) la ch))) si fl cr) H := hP
            have hD : va_D A (ja_wM h a1 a2 a3 a4 a5 a6 a7 cA fd (ja_ap sl vl (ja_cp fd nw 212) (ja_wh (ja_z mask hm) la ch)) sl vl la os ov ch hm ow (de - (si - nI (ja_kp (ja_z mask hm) la ch))) si fl cr) := hD
            refine lv_aload_n hx hb dX1_crash_168 rfl (lv_at hl 3 rfl) ?_
            refine lv_iconst (v := nI 0) hx hb dX1_crash_169 (by decide +kernel) ?_
            refine va_put (D := (dC, dI)) (ci := 1) (v := .int (nI 0)) (ty := .int) (C := RX1) (T := TX1) (N := 14) hx hb hts hin tyX1 tyX1_ok nmX1 hown hK hP hD hS 0 rfl rfl 9 (by decide) fk38 (fun _ h9 => h9) rfl (by decide +kernel) rfl rfl (Nat.le_of_ble_eq_true rfl) dX1_crash_170 (fun H locs hP hD hS => ?_)
            have hP : va_P (dC, dI) vwCl (ja_wM h a1 a2 a3 a4 a5 a6 a7 cA fd (ja_ap sl vl (ja_cp fd nw 212) (ja_wh (ja_z mask hm) la ch)) sl vl la os ov ch hm 0 (de - (si - nI (ja_kp (ja_z mask hm) la ch))) si fl cr) H := hP
            have hD : va_D A (ja_wM h a1 a2 a3 a4 a5 a6 a7 cA fd (ja_ap sl vl (ja_cp fd nw 212) (ja_wh (ja_z mask hm) la ch)) sl vl la os ov ch hm 0 (de - (si - nI (ja_kp (ja_z mask hm) la ch))) si fl cr) := hD
            refine lv_aload_n hx hb dX1_crash_173 rfl (lv_at hl 3 rfl) ?_
            refine lv_iconst (v := nI 0) hx hb dX1_crash_174 (by decide +kernel) ?_
            refine va_put (D := (dC, dI)) (ci := 1) (v := .int (nI 0)) (ty := .int) (C := RX1) (T := TX1) (N := 14) hx hb hts hin tyX1 tyX1_ok nmX1 hown hK hP hD hS 0 rfl rfl 6 (by decide) fk51 (fun _ h9 => h9) rfl (by decide +kernel) rfl rfl (Nat.le_of_ble_eq_true rfl) dX1_crash_175 (fun H locs hP hD hS => ?_)
            have hP : va_P (dC, dI) vwCl (ja_wM h a1 a2 a3 a4 a5 a6 a7 cA fd (ja_ap sl vl (ja_cp fd nw 212) (ja_wh (ja_z mask hm) la ch)) sl vl la os ov ch (nI 0) 0 (de - (si - nI (ja_kp (ja_z mask hm) la ch))) si fl cr) H := hP
            have hD : va_D A (ja_wM h a1 a2 a3 a4 a5 a6 a7 cA fd (ja_ap sl vl (ja_cp fd nw 212) (ja_wh (ja_z mask hm) la ch)) sl vl la os ov ch (nI 0) 0 (de - (si - nI (ja_kp (ja_z mask hm) la ch))) si fl cr) := hD
            refine lv_aload_n hx hb dX1_crash_178 rfl (lv_at hl 3 rfl) ?_
            refine ja_cV (wr := []) (As := []) (rest := []) ⟨hx, hb, hml, hown, hts⟩ (cM_settle l dC dI h a1 a2 a3 a4 a5 a6 a7 cA H.size fd (ja_ap sl vl (ja_cp fd nw 212) (ja_wh (ja_z mask hm) la ch)) sl vl la os ov ch (nI 0) 0 (de - (si - nI (ja_kp (ja_z mask hm) la ch))) si fl cr  ) (cwV 0 hts gX1_crash_X1_settle rfl rfl rfl (by decide +kernel) ⟨Nat.le_of_ble_eq_true rfl, Nat.le_of_ble_eq_true rfl⟩) hK hP hP hD hS hA [0, 1, 2, 3, 4, 5, 6, 7] [] rfl rfl (by decide) (by decide) (by decide) (ja_rcv (ci := 1) (q0 := 0) hK hP rfl rfl rfl) rfl hl.1 rfl (Nat.le_of_ble_eq_true rfl) dX1_crash_179 ⟨Nat.zero_le _, Nat.zero_le _⟩ (fun u H locs hu hP hD hS => ?_)
            obtain rfl := hu
            have hP : va_P (dC, dI) vwCl (ja_wM h a1 a2 a3 a4 a5 a6 a7 cA (ja_cp (ja_ap sl vl (ja_cp fd nw 212) (ja_wh (ja_z mask hm) la ch)) fd 212) (ja_ap sl vl (ja_cp fd nw 212) (ja_wh (ja_z mask hm) la ch)) sl vl la os ov 0 (nI 0) 0 (de - (si - nI (ja_kp (ja_z mask hm) la ch))) (nI 0) fl cr) H := hP
            have hD : va_D A (ja_wM h a1 a2 a3 a4 a5 a6 a7 cA (ja_cp (ja_ap sl vl (ja_cp fd nw 212) (ja_wh (ja_z mask hm) la ch)) fd 212) (ja_ap sl vl (ja_cp fd nw 212) (ja_wh (ja_z mask hm) la ch)) sl vl la os ov 0 (nI 0) 0 (de - (si - nI (ja_kp (ja_z mask hm) la ch))) (nI 0) fl cr) := hD
            refine lv_aload_n hx hb dX1_crash_182 rfl (lv_at hl 3 rfl) ?_
            refine lv_dup hx hb dX1_crash_183 rfl ?_
            refine va_get (D := (dC, dI)) (ci := 1) (v := .int cr) (C := RX1) (T := TX1) (N := 14) hx hb hts hin hown hK hP 0 rfl rfl 13 (by decide) fk60 (fun _ h9 => h9) rfl dX1_crash_184 ?_
            refine lv_iconst (v := nI 1) hx hb dX1_crash_187 (by decide +kernel) ?_
            refine lv_iadd hx hb dX1_crash_188 ?_
            refine va_put (D := (dC, dI)) (ci := 1) (v := .int (cr + nI 1)) (ty := .int) (C := RX1) (T := TX1) (N := 14) hx hb hts hin tyX1 tyX1_ok nmX1 hown hK hP hD hS 0 rfl rfl 13 (by decide) fk60 (fun _ h9 => h9) rfl (by decide +kernel) rfl rfl (Nat.le_of_ble_eq_true rfl) dX1_crash_189 (fun H locs hP hD hS => ?_)
            have hP : va_P (dC, dI) vwCl (ja_wM h a1 a2 a3 a4 a5 a6 a7 cA (ja_cp (ja_ap sl vl (ja_cp fd nw 212) (ja_wh (ja_z mask hm) la ch)) fd 212) (ja_ap sl vl (ja_cp fd nw 212) (ja_wh (ja_z mask hm) la ch)) sl vl la os ov 0 (nI 0) 0 (de - (si - nI (ja_kp (ja_z mask hm) la ch))) (nI 0) fl (cr + nI 1)) H := hP
            have hD : va_D A (ja_wM h a1 a2 a3 a4 a5 a6 a7 cA (ja_cp (ja_ap sl vl (ja_cp fd nw 212) (ja_wh (ja_z mask hm) la ch)) fd 212) (ja_ap sl vl (ja_cp fd nw 212) (ja_wh (ja_z mask hm) la ch)) sl vl la os ov 0 (nI 0) 0 (de - (si - nI (ja_kp (ja_z mask hm) la ch))) (nI 0) fl (cr + nI 1)) := hD
            refine lv_iload hx hb dX1_crash_192 (lv_at hl 0 rfl) ?_
            exact W.iret (v := (si - nI (ja_kp (ja_z mask hm) la ch))) hx hb hr (fun t ht hW => ⟨⟨(si - nI (ja_kp (ja_z mask hm) la ch)), ((ja_cp (ja_ap sl vl (ja_cp fd nw 212) (ja_wh (ja_z mask hm) la ch)) fd 212), (ja_ap sl vl (ja_cp fd nw 212) (ja_wh (ja_z mask hm) la ch)), sl, vl, la, os, ov, 0, nI 0, 0, (de - (si - nI (ja_kp (ja_z mask hm) la ch))), nI 0, fl, (cr + nI 1)), rfl, Or.inr ⟨hp0, hp1, rfl, rfl⟩, by rw [ht]; exact hP, hD⟩, hS.F ht⟩) hS.2.2 dX1_crash_194
          · refine lv_aload_n hx hb dX1_crash_123 rfl (lv_at hl 3 rfl) ?_
            refine va_get (D := (dC, dI)) (ci := 1) (v := .ref a2) (C := RX1) (T := TX1) (N := 14) hx hb hts hin hown hK hP 0 rfl rfl 1 (by decide) fk13 (fun _ h9 => h9) rfl dX1_crash_124 ?_
            refine lv_aload_n hx hb dX1_crash_127 rfl (lv_at hl 3 rfl) ?_
            refine va_get (D := (dC, dI)) (ci := 1) (v := .ref a3) (C := RX1) (T := TX1) (N := 14) hx hb hts hin hown hK hP 0 rfl rfl 2 (by decide) fk16 (fun _ h9 => h9) rfl dX1_crash_128 ?_
            refine lv_iload hx hb dX1_crash_131 (lv_at hl 0 rfl) ?_
            refine ja_ald hx hb hK hP 3 0 rfl rfl (by omega) (by decide) dX1_crash_133 ?_
            refine lv_aload_n hx hb dX1_crash_134 rfl (lv_at hl 3 rfl) ?_
            refine va_get (D := (dC, dI)) (ci := 1) (v := .ref a4) (C := RX1) (T := TX1) (N := 14) hx hb hts hin hown hK hP 0 rfl rfl 3 (by decide) fk19 (fun _ h9 => h9) rfl dX1_crash_135 ?_
            refine lv_iload hx hb dX1_crash_138 (lv_at hl 0 rfl) ?_
            refine ja_ald hx hb hK hP 4 0 rfl rfl (by omega) (by decide) dX1_crash_140 ?_
            refine va_iast hx hb hK hP hD hS 2 0 rfl rfl (hsl i (by omega)) dX1_crash_141 (fun H locs hP hD hS => ?_)
            have hP : va_P (dC, dI) vwCl (ja_wM h a1 a2 a3 a4 a5 a6 a7 cA fd (upd (ja_ap sl vl (ja_cp fd nw 212) i) (sl i).toNatClampNeg (vl i)) sl vl la os ov ch hm ow de si fl cr) H := hP
            have hD : va_D A (ja_wM h a1 a2 a3 a4 a5 a6 a7 cA fd (upd (ja_ap sl vl (ja_cp fd nw 212) i) (sl i).toNatClampNeg (vl i)) sl vl la os ov ch hm ow de si fl cr) := hD
            -- iinc
            refine lv_iinc (k := 0) (v := nI (i + 1)) (lv' := [(6, .int (nI (i + 1))), (4, .int (nI (ja_kp (ja_z mask hm) la ch))), (3, .int (nI (ja_wh (ja_z mask hm) la ch))), (0, .ref h)]) hx hb dX1_crash_142 hl rfl (ja_inc1 _) (by decide) rfl (fun ls hl => ?_)
            refine lv_goto (tgt := 117) hx hb dX1_crash_145 (by decide) ?_
            exact ih2 (i + 1) ls H locs ⟨lv_sub hl [0, 1, 2, 3] rfl, hP, hD, hS, (by omega)⟩ (show (ja_wh (ja_z mask hm) la ch) - (i + 1) < (ja_wh (ja_z mask hm) la ch) - (i) by omega)
        · refine lv_aload_n hx hb dX1_crash_94 rfl (lv_at hl 3 rfl) ?_
          refine va_get (D := (dC, dI)) (ci := 1) (v := .ref a2) (C := RX1) (T := TX1) (N := 14) hx hb hts hin hown hK hP 0 rfl rfl 1 (by decide) fk13 (fun _ h9 => h9) rfl dX1_crash_95 ?_
          refine lv_iload hx hb dX1_crash_98 (lv_at hl 0 rfl) ?_
          refine lv_aload_n hx hb dX1_crash_100 rfl (lv_at hl 3 rfl) ?_
          refine va_get (D := (dC, dI)) (ci := 1) (v := .ref a1) (C := RX1) (T := TX1) (N := 14) hx hb hts hin hown hK hP 0 rfl rfl 0 (by decide) fk9 (fun _ h9 => h9) rfl dX1_crash_101 ?_
          refine lv_iload hx hb dX1_crash_104 (lv_at hl 0 rfl) ?_
          refine ja_ald hx hb hK hP 1 0 rfl rfl (by omega) (by decide) dX1_crash_106 ?_
          refine ja_ast hx hb hK hP hD hS 2 0 rfl rfl (by omega) (by decide) dX1_crash_107 (fun H locs hP hD hS => ?_)
          have hP : va_P (dC, dI) vwCl (ja_wM h a1 a2 a3 a4 a5 a6 a7 cA fd (upd (ja_cp fd nw i) i (fd i)) sl vl la os ov ch hm ow de si fl cr) H := hP
          have hD : va_D A (ja_wM h a1 a2 a3 a4 a5 a6 a7 cA fd (upd (ja_cp fd nw i) i (fd i)) sl vl la os ov ch hm ow de si fl cr) := hD
          -- iinc
          refine lv_iinc (k := 0) (v := nI (i + 1)) (lv' := [(6, .int (nI (i + 1))), (4, .int (nI (ja_kp (ja_z mask hm) la ch))), (3, .int (nI (ja_wh (ja_z mask hm) la ch))), (0, .ref h)]) hx hb dX1_crash_108 hl rfl (ja_inc1 _) (by decide) rfl (fun ls hl => ?_)
          refine lv_goto (tgt := 86) hx hb dX1_crash_111 (by decide) ?_
          exact ih1 (i + 1) ls H locs ⟨lv_sub hl [0, 1, 2, 3] rfl, (show va_P (dC, dI) vwCl (ja_wM h a1 a2 a3 a4 a5 a6 a7 cA fd (ja_cp fd nw (i + 1)) sl vl la os ov ch hm ow de si fl cr) H by rw [← ja_cp_s]; exact hP), (show va_D A (ja_wM h a1 a2 a3 a4 a5 a6 a7 cA fd (ja_cp fd nw (i + 1)) sl vl la os ov ch hm ow de si fl cr) by rw [← ja_cp_s]; exact hD), hS, (by omega)⟩ (show 212 - (i + 1) < 212 - (i) by omega)
      · refine lv_iload_n hx hb dX1_crash_33 rfl (lv_at hl 5 rfl) ?_
        refine lv_aload_n hx hb dX1_crash_34 rfl (lv_at hl 4 rfl) ?_
        refine va_get (D := (dC, dI)) (ci := 1) (v := .int hm) (C := RX1) (T := TX1) (N := 14) hx hb hts hin hown hK hP 0 rfl rfl 6 (by decide) fk51 (fun _ h9 => h9) rfl dX1_crash_35 ?_
        refine lv_iload hx hb dX1_crash_38 (lv_at hl 0 rfl) ?_
        refine lv_iadd hx hb dX1_crash_40 ?_
        refine lv_bipush (v := nI 31) hx hb dX1_crash_41 (by decide +kernel) ?_
        refine lv_irem hx hb dX1_crash_43 (by decide +kernel) ?_
        refine lv_ishr hx hb dX1_crash_44 ?_
        refine lv_iconst (v := nI 1) hx hb dX1_crash_45 (by decide +kernel) ?_
        refine lv_iand hx hb dX1_crash_46 ?_
        refine lv_if_ne hx hb dX1_crash_47 (tgt := 53) (by decide) (fun h47 => ?_) (fun h47 => ?_)
        · have hz : ja_z mask hm k = false := ja_z_f h47
          have e1 : ja_b (ja_sd (ja_z mask hm) (k + 1)) = ja_b (ja_sd (ja_z mask hm) k) := by rw [ja_bsd_n hz]
          refine lv_iload hx hb dX1_crash_53 (lv_at hl 1 rfl) ?_
          refine lv_if_eq hx hb dX1_crash_55 (tgt := 77) (by decide) (fun h55 => ?_) (fun h55 => ?_)
          · have hs0 : ja_sd (ja_z mask hm) k = false := ja_b_0 h55
            have e2 : ja_kp (ja_z mask hm) la (k + 1) = ja_kp (ja_z mask hm) la k := ja_kp_f (fun q => absurd q.1 (by rw [ja_bsd_n hz, hs0]; decide))
            have e3 : ja_wh (ja_z mask hm) la (k + 1) = ja_wh (ja_z mask hm) la k := ja_wh_f (fun q => absurd q.1 (by rw [ja_bsd_n hz, hs0]; decide))
            -- iinc
            refine lv_iinc (k := 0) (v := nI (k + 1)) (lv' := [(6, .int (nI (k + 1))), (5, .int (ja_b (ja_sd (ja_z mask hm) k))), (4, .int (nI (ja_kp (ja_z mask hm) la k))), (3, .int (nI (ja_wh (ja_z mask hm) la k))), (0, .ref h), (1, .int mask), (2, .int part)]) hx hb dX1_crash_77 hl rfl (ja_inc1 _) (by decide) rfl (fun ls hl => ?_)
            refine lv_goto (tgt := 24) hx hb dX1_crash_80 (by decide) ?_
            exact ih0 (k + 1) ls H locs ⟨(show lv_has ls 7 [(6, .int (nI (k + 1))), (5, .int (ja_b (ja_sd (ja_z mask hm) (k + 1)))), (4, .int (nI (ja_kp (ja_z mask hm) la (k + 1)))), (3, .int (nI (ja_wh (ja_z mask hm) la (k + 1)))), (0, .ref h), (1, .int mask), (2, .int part)] by rw [e1, e2, e3]; exact lv_sub hl [0, 1, 2, 3, 4, 5, 6] rfl), hP, hD, hS, (by omega)⟩ (show ch - (k + 1) < ch - (k) by omega)
          · have hs1 : ja_sd (ja_z mask hm) (k + 1) = true := (ja_bsd_n hz).trans (ja_b_1 h55)
            refine lv_aload_n hx hb dX1_crash_58 rfl (lv_at hl 4 rfl) ?_
            refine va_get (D := (dC, dI)) (ci := 1) (v := .ref a5) (C := RX1) (T := TX1) (N := 14) hx hb hts hin hown hK hP 0 rfl rfl 4 (by decide) fk22 (fun _ h9 => h9) rfl dX1_crash_59 ?_
            refine lv_iload hx hb dX1_crash_62 (lv_at hl 0 rfl) ?_
            refine ja_ald hx hb hK hP 5 0 rfl rfl (by omega) (by decide) dX1_crash_64 ?_
            refine lv_iconst (v := nI 1) hx hb dX1_crash_65 (by decide +kernel) ?_
            refine lv_icmp_ne hx hb dX1_crash_66 (tgt := 77) (by decide) (fun h66 => ?_) (fun h66 => ?_)
            · have e2 : ja_kp (ja_z mask hm) la (k + 1) = ja_kp (ja_z mask hm) la k := ja_kp_f (fun q => h66 q.2)
              have e3 : ja_wh (ja_z mask hm) la (k + 1) = ja_wh (ja_z mask hm) la k := ja_wh_f (fun q => h66 q.2)
              -- iinc
              refine lv_iinc (k := 0) (v := nI (k + 1)) (lv' := [(6, .int (nI (k + 1))), (5, .int (ja_b (ja_sd (ja_z mask hm) k))), (4, .int (nI (ja_kp (ja_z mask hm) la k))), (3, .int (nI (ja_wh (ja_z mask hm) la k))), (0, .ref h), (1, .int mask), (2, .int part)]) hx hb dX1_crash_77 hl rfl (ja_inc1 _) (by decide) rfl (fun ls hl => ?_)
              refine lv_goto (tgt := 24) hx hb dX1_crash_80 (by decide) ?_
              exact ih0 (k + 1) ls H locs ⟨(show lv_has ls 7 [(6, .int (nI (k + 1))), (5, .int (ja_b (ja_sd (ja_z mask hm) (k + 1)))), (4, .int (nI (ja_kp (ja_z mask hm) la (k + 1)))), (3, .int (nI (ja_wh (ja_z mask hm) la (k + 1)))), (0, .ref h), (1, .int mask), (2, .int part)] by rw [e1, e2, e3]; exact lv_sub hl [0, 1, 2, 3, 4, 5, 6] rfl), hP, hD, hS, (by omega)⟩ (show ch - (k + 1) < ch - (k) by omega)
            · have e2 : ja_kp (ja_z mask hm) la (k + 1) = ja_kp (ja_z mask hm) la k + 1 := ja_kp_t hs1 h66
              have e3 : ja_wh (ja_z mask hm) la (k + 1) = k + 1 := ja_wh_t hs1 h66
              refine lv_iload hx hb dX1_crash_69 (lv_at hl 0 rfl) ?_
              refine lv_iconst (v := nI 1) hx hb dX1_crash_71 (by decide +kernel) ?_
              refine lv_iadd hx hb dX1_crash_72 ?_
              refine ja_top (y := nI (k + 1)) (nI_add _ _) ?_
              refine lv_istore_n (lv' := [(3, .int (nI (k + 1))), (6, .int (nI k)), (5, .int (ja_b (ja_sd (ja_z mask hm) k))), (4, .int (nI (ja_kp (ja_z mask hm) la k))), (0, .ref h), (1, .int mask), (2, .int part)]) hx hb dX1_crash_73 rfl hl (by decide) rfl (fun ls hl => ?_)
              -- iinc
              refine lv_iinc (k := 3) (v := nI ((ja_kp (ja_z mask hm) la k) + 1)) (lv' := [(4, .int (nI ((ja_kp (ja_z mask hm) la k) + 1))), (3, .int (nI (k + 1))), (6, .int (nI k)), (5, .int (ja_b (ja_sd (ja_z mask hm) k))), (0, .ref h), (1, .int mask), (2, .int part)]) hx hb dX1_crash_74 hl rfl (ja_inc1 _) (by decide) rfl (fun ls hl => ?_)
              -- iinc
              refine lv_iinc (k := 2) (v := nI (k + 1)) (lv' := [(6, .int (nI (k + 1))), (4, .int (nI ((ja_kp (ja_z mask hm) la k) + 1))), (3, .int (nI (k + 1))), (5, .int (ja_b (ja_sd (ja_z mask hm) k))), (0, .ref h), (1, .int mask), (2, .int part)]) hx hb dX1_crash_77 hl rfl (ja_inc1 _) (by decide) rfl (fun ls hl => ?_)
              refine lv_goto (tgt := 24) hx hb dX1_crash_80 (by decide) ?_
              exact ih0 (k + 1) ls H locs ⟨(show lv_has ls 7 [(6, .int (nI (k + 1))), (5, .int (ja_b (ja_sd (ja_z mask hm) (k + 1)))), (4, .int (nI (ja_kp (ja_z mask hm) la (k + 1)))), (3, .int (nI (ja_wh (ja_z mask hm) la (k + 1)))), (0, .ref h), (1, .int mask), (2, .int part)] by rw [e1, e2, e3]; exact lv_sub hl [0, 3, 1, 2, 4, 5, 6] rfl), hP, hD, hS, (by omega)⟩ (show ch - (k + 1) < ch - (k) by omega)
        · have hz : ja_z mask hm k = true := ja_z_t h47
          have e1 : ja_b (ja_sd (ja_z mask hm) (k + 1)) = nI 0 := by rw [ja_bsd_z hz]; rfl
          have e2 : ja_kp (ja_z mask hm) la (k + 1) = ja_kp (ja_z mask hm) la k := ja_kp_f (fun q => absurd q.1 (by rw [ja_bsd_z hz]; decide))
          have e3 : ja_wh (ja_z mask hm) la (k + 1) = ja_wh (ja_z mask hm) la k := ja_wh_f (fun q => absurd q.1 (by rw [ja_bsd_z hz]; decide))
          refine lv_iconst (v := nI 0) hx hb dX1_crash_50 (by decide +kernel) ?_
          refine lv_istore (lv' := [(5, .int (nI 0)), (6, .int (nI k)), (4, .int (nI (ja_kp (ja_z mask hm) la k))), (3, .int (nI (ja_wh (ja_z mask hm) la k))), (0, .ref h), (1, .int mask), (2, .int part)]) hx hb dX1_crash_51 hl (by decide) rfl (fun ls hl => ?_)
          refine lv_iload hx hb dX1_crash_53 (lv_at hl 0 rfl) ?_
          refine ja_zeq hx hb dX1_crash_55 (tgt := 77) (by decide) (by omega) (fun h55 => ?_) (fun h55 => ?_)
          · -- iinc
            refine lv_iinc (k := 1) (v := nI (k + 1)) (lv' := [(6, .int (nI (k + 1))), (5, .int (nI 0)), (4, .int (nI (ja_kp (ja_z mask hm) la k))), (3, .int (nI (ja_wh (ja_z mask hm) la k))), (0, .ref h), (1, .int mask), (2, .int part)]) hx hb dX1_crash_77 hl rfl (ja_inc1 _) (by decide) rfl (fun ls hl => ?_)
            refine lv_goto (tgt := 24) hx hb dX1_crash_80 (by decide) ?_
            exact ih0 (k + 1) ls H locs ⟨(show lv_has ls 7 [(6, .int (nI (k + 1))), (5, .int (ja_b (ja_sd (ja_z mask hm) (k + 1)))), (4, .int (nI (ja_kp (ja_z mask hm) la (k + 1)))), (3, .int (nI (ja_wh (ja_z mask hm) la (k + 1)))), (0, .ref h), (1, .int mask), (2, .int part)] by rw [e1, e2, e3]; exact lv_sub hl [0, 1, 2, 3, 4, 5, 6] rfl), hP, hD, hS, (by omega)⟩ (show ch - (k + 1) < ch - (k) by omega)
          · exact absurd rfl h55
    · refine lv_iconst (v := (-1)) hx hb dX1_crash_11 (by decide +kernel) ?_
      exact W.iret (v := (-1)) hx hb hr (fun t ht hW => ⟨⟨(-1), (fd, nw, sl, vl, la, os, ov, ch, hm, ow, de, si, fl, cr), rfl, Or.inl ⟨Or.inr (Int32.not_le.mp h8), rfl, rfl⟩, by rw [ht]; exact hP, hD⟩, hS.F ht⟩) hS.2.2 dX1_crash_12
set_option maxHeartbeats 1000000 in
set_option maxRecDepth 100000 in
/-- get -/
theorem cM_get (l : Launch) (dC : Nat → ClassId) (dI : Nat → Nat → Nat) (h a1 a2 a3 a4 a5 a6 a7 : Nat) (cA : ClassId) (fd nw sl vl la os ov : Nat → Int32) (ch : Nat) (hm : Int32) (ow : Nat) (de : Int32) (si : Int32) (fl : Int32) (cr : Int32) (x : Int32)  : Met l yX1_get wsX1_get ({ frames := 0, cells := 0, slots := 0, locals := 0 }) (ja_Pr (dC, dI) vwCl (ja_wM h a1 a2 a3 a4 a5 a6 a7 cA fd nw sl vl la os ov ch hm ow de si fl cr) [(cA, .int)] [.ref h, .int x]) (vp_Si (fun r => (¬ vp_in x 212 ∧ r = nI 0) ∨ (vp_in x 212 ∧ r = nw x.toNatClampNeg))) 0 0 (fun _ => False) := by
  refine Met.ofW (cc := cX1_get) (maxL := 2) (ret := (some .int)) (by decide) rfl ?_
  intro p e s m args below meth c s₁ B hml hv
  obtain ⟨rfl, hP, hK⟩ := hv
  have hx := B.exec
  have hb := B.bytes
  have hr := B.returns
  have hts := atoms_spec (ws := wsX1_get) B.pre
  have hown : s.vm.findClass RX1 = some m.cls := findClass_of_methodNamed B.named
  have hlocks := B.notSynchronized
  have hin : ∀ w ∈ u_ws RX1 TX1 14, w ∈ wsX1_get := by decide +kernel
  have fk13 := hts (.fieldLink RX1 13 "JournalShelfModel" "now" "[I") (by decide +kernel)
  have hl := lv_entry ([.ref h, .int x]) (n := 2) (Nat.le_of_ble_eq_true rfl)
  rw [lg_entry_eq]
  generalize (lg_sl ([.ref h, .int x]) ++ List.replicate (2 - (lg_sl ([.ref h, .int x])).length) Slot.unset).toArray = ls at hl ⊢
  have hl : lv_has ls 2 [(0, .ref h), (1, .int x)] := hl
  refine lv_iload_n hx hb dX1_get_0 rfl (lv_at hl 1 rfl) ?_
  refine lv_if_lt hx hb dX1_get_1 (tgt := 11) (by decide) (fun h1 => ?_) (fun h1 => ?_)
  · refine lv_iconst (v := nI 0) hx hb dX1_get_11 (by decide +kernel) ?_
    refine lv_goto (tgt := 21) hx hb dX1_get_12 (by decide) ?_
    exact W.iret (v := nI 0) hx hb hr (fun t ht hW => ⟨_, rfl, Or.inl ⟨ja_neg h1, rfl⟩, ht⟩) (fun q h => by cases h) dX1_get_21
  · have hp0 := h1
    refine lv_iload_n hx hb dX1_get_4 rfl (lv_at hl 1 rfl) ?_
    refine lv_sipush (v := nI 212) hx hb dX1_get_5 (by decide +kernel) ?_
    refine lv_icmp_lt hx hb dX1_get_8 (tgt := 15) (by decide) (fun h8 => ?_) (fun h8 => ?_)
    · have hsl : vp_in x 212 := ja_inL hp0 h8
      refine lv_aload_n hx hb dX1_get_15 rfl (lv_at hl 0 rfl) ?_
      refine va_get (D := (dC, dI)) (ci := 1) (v := .ref a2) (C := RX1) (T := TX1) (N := 14) hx hb hts hin hown hK hP 0 rfl rfl 1 (by decide) fk13 (fun _ h9 => h9) rfl dX1_get_16 ?_
      refine lv_iload_n hx hb dX1_get_19 rfl (lv_at hl 1 rfl) ?_
      refine va_iald hx hb hK hP 2 0 rfl rfl hsl dX1_get_20 ?_
      exact W.iret (v := (nw x.toNatClampNeg)) hx hb hr (fun t ht hW => ⟨_, rfl, Or.inr ⟨hsl, rfl⟩, ht⟩) (fun q h => by cases h) dX1_get_21
    · refine lv_iconst (v := nI 0) hx hb dX1_get_11 (by decide +kernel) ?_
      refine lv_goto (tgt := 21) hx hb dX1_get_12 (by decide) ?_
      exact W.iret (v := nI 0) hx hb hr (fun t ht hW => ⟨_, rfl, Or.inl ⟨ja_out (Int32.not_lt.mp h8), rfl⟩, ht⟩) (fun q h => by cases h) dX1_get_21
set_option maxHeartbeats 1000000 in
set_option maxRecDepth 100000 in
/-- torn -/
theorem cM_torn (l : Launch) (dC : Nat → ClassId) (dI : Nat → Nat → Nat) (h a1 a2 a3 a4 a5 a6 a7 : Nat) (cA : ClassId) (fd nw sl vl la os ov : Nat → Int32) (ch : Nat) (hm : Int32) (ow : Nat) (de : Int32) (si : Int32) (fl : Int32) (cr : Int32)   : Met l yX1_torn wsX1_torn ({ frames := 0, cells := 0, slots := 0, locals := 0 }) (ja_Pr (dC, dI) vwCl (ja_wM h a1 a2 a3 a4 a5 a6 a7 cA fd nw sl vl la os ov ch hm ow de si fl cr) [(cA, .int)] [.ref h]) (vp_Si (fun r => r = nI 0)) 0 0 (fun _ => False) := by
  refine Met.ofW (cc := cX1_torn) (maxL := 1) (ret := (some .int)) (by decide) rfl ?_
  intro p e s m args below meth c s₁ B hml hv
  obtain ⟨rfl, hP, hK⟩ := hv
  have hx := B.exec
  have hb := B.bytes
  have hr := B.returns
  have hts := atoms_spec (ws := wsX1_torn) B.pre
  have hown : s.vm.findClass RX1 = some m.cls := findClass_of_methodNamed B.named
  have hlocks := B.notSynchronized
  have hl := lv_entry ([.ref h]) (n := 1) (Nat.le_of_ble_eq_true rfl)
  rw [lg_entry_eq]
  generalize (lg_sl ([.ref h]) ++ List.replicate (1 - (lg_sl ([.ref h])).length) Slot.unset).toArray = ls at hl ⊢
  have hl : lv_has ls 1 [(0, .ref h)] := hl
  refine lv_iconst (v := nI 0) hx hb dX1_torn_0 (by decide +kernel) ?_
  exact W.iret (v := nI 0) hx hb hr (fun t ht hW => ⟨_, rfl, rfl, ht⟩) (fun q h => by cases h) dX1_torn_1
set_option maxHeartbeats 1000000 in
set_option maxRecDepth 100000 in
/-- count -/
theorem cM_count (l : Launch) (dC : Nat → ClassId) (dI : Nat → Nat → Nat) (h a1 a2 a3 a4 a5 a6 a7 : Nat) (cA : ClassId) (fd nw sl vl la os ov : Nat → Int32) (ch : Nat) (hm : Int32) (ow : Nat) (de : Int32) (si : Int32) (fl : Int32) (cr : Int32) (x : Int32)  : Met l yX1_count wsX1_count ({ frames := 0, cells := 0, slots := 0, locals := 0 }) (ja_Pr (dC, dI) vwCl (ja_wM h a1 a2 a3 a4 a5 a6 a7 cA fd nw sl vl la os ov ch hm ow de si fl cr) [(cA, .int)] [.ref h, .int x]) (vp_Si (fun r => r = ja_sel x de si (hm + nI ch) (nI ow) fl cr)) 0 0 (fun _ => False) := by
  refine Met.ofW (cc := cX1_count) (maxL := 2) (ret := (some .int)) (by decide) rfl ?_
  intro p e s m args below meth c s₁ B hml hv
  obtain ⟨rfl, hP, hK⟩ := hv
  have hx := B.exec
  have hb := B.bytes
  have hr := B.returns
  have hts := atoms_spec (ws := wsX1_count) B.pre
  have hown : s.vm.findClass RX1 = some m.cls := findClass_of_methodNamed B.named
  have hlocks := B.notSynchronized
  have hin : ∀ w ∈ u_ws RX1 TX1 14, w ∈ wsX1_count := by decide +kernel
  have fk31 := hts (.fieldLink RX1 31 "JournalShelfModel" "changes" "I") (by decide +kernel)
  have fk35 := hts (.fieldLink RX1 35 "JournalShelfModel" "since" "I") (by decide +kernel)
  have fk38 := hts (.fieldLink RX1 38 "JournalShelfModel" "own" "I") (by decide +kernel)
  have fk45 := hts (.fieldLink RX1 45 "JournalShelfModel" "deeds" "I") (by decide +kernel)
  have fk51 := hts (.fieldLink RX1 51 "JournalShelfModel" "homes" "I") (by decide +kernel)
  have fk57 := hts (.fieldLink RX1 57 "JournalShelfModel" "flushes" "I") (by decide +kernel)
  have fk60 := hts (.fieldLink RX1 60 "JournalShelfModel" "crashes" "I") (by decide +kernel)
  have hl := lv_entry ([.ref h, .int x]) (n := 2) (Nat.le_of_ble_eq_true rfl)
  rw [lg_entry_eq]
  generalize (lg_sl ([.ref h, .int x]) ++ List.replicate (2 - (lg_sl ([.ref h, .int x])).length) Slot.unset).toArray = ls at hl ⊢
  have hl : lv_has ls 2 [(0, .ref h), (1, .int x)] := hl
  refine lv_iload_n hx hb dX1_count_0 rfl (lv_at hl 1 rfl) ?_
  rcases pk_ix x (n := 6) (by decide) with hw | hw | ⟨j, hj, rfl⟩
  · refine lv_tableOut (tgt := 75) hx hb dX1_count_1 (Or.inl (by have := Int32.lt_iff_toInt_lt.mp hw; simpa using this)) (by decide) ?_
    refine lv_iconst (v := (-1)) hx hb dX1_count_75 (by decide +kernel) ?_
    exact W.iret (v := (-1)) hx hb hr (fun t ht hW => ⟨_, rfl, (ja_selD (Or.inl hw)).symm, ht⟩) (fun q h => by cases h) dX1_count_76
  · refine lv_tableOut (tgt := 75) hx hb dX1_count_1 (Or.inr (by have h := Int32.le_iff_toInt_le.mp hw; rw [nI_toInt (by decide)] at h; omega)) (by decide) ?_
    refine lv_iconst (v := (-1)) hx hb dX1_count_75 (by decide +kernel) ?_
    exact W.iret (v := (-1)) hx hb hr (fun t ht hW => ⟨_, rfl, (ja_selD (Or.inr hw)).symm, ht⟩) (fun q h => by cases h) dX1_count_76
  · obtain rfl | rfl | rfl | rfl | rfl | rfl : j = 0 ∨ j = 1 ∨ j = 2 ∨ j = 3 ∨ j = 4 ∨ j = 5 := by omega
    · refine lv_tableIn (off := 39) (tgt := 40) hx hb dX1_count_1 (by decide +kernel) (by decide +kernel) (by decide +kernel) (by decide) ?_
      refine lv_aload_n hx hb dX1_count_40 rfl (lv_at hl 0 rfl) ?_
      refine va_get (D := (dC, dI)) (ci := 1) (v := .int de) (C := RX1) (T := TX1) (N := 14) hx hb hts hin hown hK hP 0 rfl rfl 10 (by decide) fk45 (fun _ h9 => h9) rfl dX1_count_41 ?_
      exact W.iret (v := de) hx hb hr (fun t ht hW => ⟨_, rfl, ja_sel0.symm, ht⟩) (fun q h => by cases h) dX1_count_44
    · refine lv_tableIn (off := 44) (tgt := 45) hx hb dX1_count_1 (by decide +kernel) (by decide +kernel) (by decide +kernel) (by decide) ?_
      refine lv_aload_n hx hb dX1_count_45 rfl (lv_at hl 0 rfl) ?_
      refine va_get (D := (dC, dI)) (ci := 1) (v := .int si) (C := RX1) (T := TX1) (N := 14) hx hb hts hin hown hK hP 0 rfl rfl 11 (by decide) fk35 (fun _ h9 => h9) rfl dX1_count_46 ?_
      exact W.iret (v := si) hx hb hr (fun t ht hW => ⟨_, rfl, ja_sel1.symm, ht⟩) (fun q h => by cases h) dX1_count_49
    · refine lv_tableIn (off := 49) (tgt := 50) hx hb dX1_count_1 (by decide +kernel) (by decide +kernel) (by decide +kernel) (by decide) ?_
      refine lv_aload_n hx hb dX1_count_50 rfl (lv_at hl 0 rfl) ?_
      refine va_get (D := (dC, dI)) (ci := 1) (v := .int hm) (C := RX1) (T := TX1) (N := 14) hx hb hts hin hown hK hP 0 rfl rfl 6 (by decide) fk51 (fun _ h9 => h9) rfl dX1_count_51 ?_
      refine lv_aload_n hx hb dX1_count_54 rfl (lv_at hl 0 rfl) ?_
      refine va_get (D := (dC, dI)) (ci := 1) (v := .int (nI ch)) (C := RX1) (T := TX1) (N := 14) hx hb hts hin hown hK hP 0 rfl rfl 5 (by decide) fk31 (fun _ h9 => h9) rfl dX1_count_55 ?_
      refine lv_iadd hx hb dX1_count_58 ?_
      exact W.iret (v := (hm + nI ch)) hx hb hr (fun t ht hW => ⟨_, rfl, ja_sel2.symm, ht⟩) (fun q h => by cases h) dX1_count_59
    · refine lv_tableIn (off := 59) (tgt := 60) hx hb dX1_count_1 (by decide +kernel) (by decide +kernel) (by decide +kernel) (by decide) ?_
      refine lv_aload_n hx hb dX1_count_60 rfl (lv_at hl 0 rfl) ?_
      refine va_get (D := (dC, dI)) (ci := 1) (v := .int (nI ow)) (C := RX1) (T := TX1) (N := 14) hx hb hts hin hown hK hP 0 rfl rfl 9 (by decide) fk38 (fun _ h9 => h9) rfl dX1_count_61 ?_
      exact W.iret (v := nI ow) hx hb hr (fun t ht hW => ⟨_, rfl, ja_sel3.symm, ht⟩) (fun q h => by cases h) dX1_count_64
    · refine lv_tableIn (off := 64) (tgt := 65) hx hb dX1_count_1 (by decide +kernel) (by decide +kernel) (by decide +kernel) (by decide) ?_
      refine lv_aload_n hx hb dX1_count_65 rfl (lv_at hl 0 rfl) ?_
      refine va_get (D := (dC, dI)) (ci := 1) (v := .int fl) (C := RX1) (T := TX1) (N := 14) hx hb hts hin hown hK hP 0 rfl rfl 12 (by decide) fk57 (fun _ h9 => h9) rfl dX1_count_66 ?_
      exact W.iret (v := fl) hx hb hr (fun t ht hW => ⟨_, rfl, ja_sel4.symm, ht⟩) (fun q h => by cases h) dX1_count_69
    · refine lv_tableIn (off := 69) (tgt := 70) hx hb dX1_count_1 (by decide +kernel) (by decide +kernel) (by decide +kernel) (by decide) ?_
      refine lv_aload_n hx hb dX1_count_70 rfl (lv_at hl 0 rfl) ?_
      refine va_get (D := (dC, dI)) (ci := 1) (v := .int cr) (C := RX1) (T := TX1) (N := 14) hx hb hts hin hown hK hP 0 rfl rfl 13 (by decide) fk60 (fun _ h9 => h9) rfl dX1_count_71 ?_
      exact W.iret (v := cr) hx hb hr (fun t ht hW => ⟨_, rfl, ja_sel5.symm, ht⟩) (fun q h => by cases h) dX1_count_74
end
section
/-! The relation between the states of both sides, and that each pair of calls keeps it -/
theorem ja_ct_congr {p q : Nat → Bool} : ∀ n, (∀ k, k < n → p k = q k) → ja_ct p n = ja_ct q n
  | 0, _ => rfl
  | n + 1, h => by
    have ih := ja_ct_congr n (fun k hk => h k (Nat.lt_succ_of_lt hk))
    have hn := h n (Nat.lt_succ_self n)
    show (if p n = true then ja_ct p n + 1 else ja_ct p n) = (if q n = true then ja_ct q n + 1 else ja_ct q n)
    rw [ih, hn]
theorem ja_ct_s (q : Nat → Bool) (n : Nat) : ja_ct q n ≤ ja_ct q (n + 1) ∧ ja_ct q (n + 1) ≤ ja_ct q n + 1 := by
  cases h : q n with
  | true => rw [ja_ct_t h]; omega
  | false => rw [ja_ct_f h]; omega
theorem ja_ct_mono (q : Nat → Bool) : ∀ d a, ja_ct q a ≤ ja_ct q (a + d)
  | 0, a => Nat.le_refl _
  | d + 1, a => Nat.le_trans (ja_ct_mono q d a) (ja_ct_s q (a + d)).1
theorem ja_ct_le (q : Nat → Bool) : ∀ n, ja_ct q n ≤ n
  | 0 => Nat.le_refl _
  | n + 1 => by
    have h1 := ja_ct_le q n
    have h2 := (ja_ct_s q n).2
    omega
theorem ja_ct_lt {q : Nat → Bool} {i b n : Nat} (hi : i ≤ b) (hb : b < n) (hq : q b = true) : ja_ct q i < ja_ct q n := by
  have h1 := ja_ct_mono q (b - i) i
  rw [Nat.add_sub_cancel' hi] at h1
  have h2 := ja_ct_t hq
  have h3 := ja_ct_mono q (n - (b + 1)) (b + 1)
  rw [Nat.add_sub_cancel' hb] at h3
  omega
theorem ja_ct_z {q : Nat → Bool} {a : Nat} : ∀ d, (∀ k, k < d → q (a + k) = false) → ja_ct q (a + d) = ja_ct q a
  | 0, _ => rfl
  | d + 1, h => by
    have ih := ja_ct_z d (fun k hk => h k (Nat.lt_succ_of_lt hk))
    have h1 := ja_ct_f (q := q) (n := a + d) (h d (Nat.lt_succ_self d))
    exact h1.trans ih
theorem ja_ap_congr {sl vl sl2 vl2 f g : Nat → Int32} : ∀ n, (∀ k, k < n → sl k = sl2 k ∧ vl k = vl2 k) → (∀ s, s < 212 → f s = g s) → ∀ s, s < 212 → ja_ap sl vl f n s = ja_ap sl2 vl2 g n s
  | 0, _, h, s, hs => h s hs
  | n + 1, hk, h, s, hs => by
    have ih := ja_ap_congr n (fun k q => hk k (Nat.lt_succ_of_lt q)) h s hs
    obtain ⟨e1, e2⟩ := hk n (Nat.lt_succ_self n)
    show upd (ja_ap sl vl f n) (sl n).toNatClampNeg (vl n) s = upd (ja_ap sl2 vl2 g n) (sl2 n).toNatClampNeg (vl2 n) s
    rw [e1, e2]
    unfold upd
    rw [ih]
theorem ja_ap_add (sl vl f : Nat → Int32) (c : Nat) : ∀ n, ja_ap sl vl f (c + n) = ja_ap (fun k => sl (c + k)) (fun k => vl (c + k)) (ja_ap sl vl f c) n
  | 0 => rfl
  | n + 1 => by
    show upd (ja_ap sl vl f (c + n)) (sl (c + n)).toNatClampNeg (vl (c + n)) = upd (ja_ap (fun k => sl (c + k)) (fun k => vl (c + k)) (ja_ap sl vl f c) n) (sl (c + n)).toNatClampNeg (vl (c + n))
    rw [ja_ap_add sl vl f c n]
theorem ja_pt_lo {f g : Nat → Int32} {c j : Nat} (h : j < c) : ∀ n, ja_pt f g c n j = f j
  | 0 => rfl
  | n + 1 => by
    show upd (ja_pt f g c n) (c + n) (g n) j = f j
    unfold upd
    rw [if_neg (by omega)]
    exact ja_pt_lo h n
theorem ja_pt_hi {f g : Nat → Int32} {c : Nat} : ∀ n k, k < n → ja_pt f g c n (c + k) = g k
  | 0, k, h => absurd h (Nat.not_lt_zero k)
  | n + 1, k, h => by
    show upd (ja_pt f g c n) (c + n) (g n) (c + k) = g k
    unfold upd
    by_cases e : k = n
    · subst e; rw [if_pos rfl]
    · rw [if_neg (by omega)]
      exact ja_pt_hi n k (by omega)
/-- in how many places below n, last of what they have, stands v: one, if any does -/
theorem ja_one (f : Nat → Int32) (v : Int32) : ∀ n, ja_ct (fun i => ja_ls f n i && decide (f i = v)) n = if (∃ j, j < n ∧ f j = v) then 1 else 0 := by
  intro n
  induction n with
  | zero => rw [if_neg (by rintro ⟨j, h, -⟩; exact absurd h (Nat.not_lt_zero j))]; rfl
  | succ n ih =>
    by_cases hv : f n = v
    · rw [if_pos ⟨n, Nat.lt_succ_self n, hv⟩]
      have h1 : (fun i => ja_ls f (n + 1) i && decide (f i = v)) n = true := by
        show (ja_ls f (n + 1) n && decide (f n = v)) = true
        rw [ja_ls_t (fun j h1 h2 => absurd h1 (by omega)), decide_eq_true hv]; rfl
      rw [ja_ct_t h1]
      have h2 : ja_ct (fun i => ja_ls f (n + 1) i && decide (f i = v)) (0 + n) = ja_ct (fun i => ja_ls f (n + 1) i && decide (f i = v)) 0 := ja_ct_z n (fun k hk => by
        show (ja_ls f (n + 1) (0 + k) && decide (f (0 + k) = v)) = false
        by_cases hk2 : f (0 + k) = v
        · rw [ja_ls_f ⟨n, by omega, Nat.lt_succ_self n, by rw [hv, hk2]⟩]; rfl
        · rw [decide_eq_false hk2, Bool.and_false])
      rw [Nat.zero_add] at h2
      rw [h2]; rfl
    · have h1 : (fun i => ja_ls f (n + 1) i && decide (f i = v)) n = false := by
        show (ja_ls f (n + 1) n && decide (f n = v)) = false
        rw [decide_eq_false hv, Bool.and_false]
      rw [ja_ct_f h1]
      have h2 : ja_ct (fun i => ja_ls f (n + 1) i && decide (f i = v)) n = ja_ct (fun i => ja_ls f n i && decide (f i = v)) n := ja_ct_congr n (fun k hk => by
        show (ja_ls f (n + 1) k && decide (f k = v)) = (ja_ls f n k && decide (f k = v))
        by_cases hk2 : f k = v
        · have : ja_ls f (n + 1) k = ja_ls f n k := by
            unfold ja_ls
            refine decide_eq_decide.mpr ⟨fun h j h1 h2 => h j (Nat.lt_succ_of_lt h1) h2, fun h j h1 h2 => ?_⟩
            by_cases e : j = n
            · subst e; rw [hk2]; exact hv
            · exact h j (by omega) h2
          rw [this]
        · rw [decide_eq_false hk2, Bool.and_false, Bool.and_false])
      rw [h2, ih]
      by_cases hq : ∃ j, j < n ∧ f j = v
      · rw [if_pos hq, if_pos (by obtain ⟨j, a, b⟩ := hq; exact ⟨j, Nat.lt_succ_of_lt a, b⟩)]
      · rw [if_neg hq, if_neg (by
          rintro ⟨j, a, b⟩
          by_cases e : j = n
          · subst e; exact hv b
          · exact hq ⟨j, by omega, b⟩)]
theorem ja_fs_iff (f : Nat → Int32) (k : Nat) : ∀ i, ja_fs f k i = true ↔ ∀ j, j < i → f j ≠ f k
  | 0 => ⟨fun _ j h => absurd h (Nat.not_lt_zero j), fun _ => rfl⟩
  | i + 1 => by
    have ih := ja_fs_iff f k i
    show (if f i = f k then false else ja_fs f k i) = true ↔ _
    by_cases h : f i = f k
    · rw [if_pos h]
      exact ⟨fun q => absurd q (by decide), fun q => absurd h (q i (Nat.lt_succ_self i))⟩
    · rw [if_neg h, ih]
      exact ⟨fun q j hj => by
        by_cases e : j = i
        · subst e; exact h
        · exact q j (by omega), fun q j hj => q j (Nat.lt_succ_of_lt hj)⟩
theorem ja_ct_split {p q : Nat → Bool} : ∀ n, ja_ct p n = ja_ct (fun i => p i && !q i) n + ja_ct (fun i => p i && q i) n
  | 0 => rfl
  | n + 1 => by
    have ih := ja_ct_split (p := p) (q := q) n
    show (if p n = true then ja_ct p n + 1 else ja_ct p n) = (if (p n && !q n) = true then ja_ct (fun i => p i && !q i) n + 1 else ja_ct (fun i => p i && !q i) n) + (if (p n && q n) = true then ja_ct (fun i => p i && q i) n + 1 else ja_ct (fun i => p i && q i) n)
    cases h1 : p n <;> cases h2 : q n <;> simp <;> omega
/-- as many first places as last ones -/
theorem ja_first_last (f : Nat → Int32) : ∀ n, ja_ct (fun k => ja_fs f k k) n = ja_ct (ja_ls f n) n := by
  intro n
  induction n with
  | zero => rfl
  | succ n ih =>
    have hl : ja_ls f (n + 1) n = true := ja_ls_t (fun j h1 h2 => absurd h1 (by omega))
    rw [ja_ct_t (q := ja_ls f (n + 1)) hl]
    have h1 : ja_ct (ja_ls f (n + 1)) n = ja_ct (fun i => ja_ls f n i && !decide (f i = f n)) n := ja_ct_congr n (fun k hk => by
      by_cases e : f k = f n
      · rw [ja_ls_f ⟨n, hk, Nat.lt_succ_self n, e.symm⟩]
        show false = (ja_ls f n k && !decide (f k = f n))
        rw [decide_eq_true e]; simp
      · show ja_ls f (n + 1) k = (ja_ls f n k && !decide (f k = f n))
        rw [decide_eq_false e]
        have : ja_ls f (n + 1) k = ja_ls f n k := by
          unfold ja_ls
          refine decide_eq_decide.mpr ⟨fun h j h1 h2 => h j (Nat.lt_succ_of_lt h1) h2, fun h j h1 h2 => ?_⟩
          by_cases e2 : j = n
          · subst e2; exact fun q => e q.symm
          · exact h j (by omega) h2
        rw [this]; simp)
    have h2 := ja_ct_split (p := ja_ls f n) (q := fun i => decide (f i = f n)) n
    have h3 := ja_one f (f n) n
    rw [h1]
    by_cases hq : ∃ j, j < n ∧ f j = f n
    · rw [if_pos hq] at h3
      have h4 : (fun k => ja_fs f k k) n = false := by
        show ja_fs f n n = false
        cases h : ja_fs f n n with
        | false => rfl
        | true =>
          obtain ⟨j, a, b⟩ := hq
          exact absurd b ((ja_fs_iff f n n).mp h j a)
      rw [ja_ct_f (q := fun k => ja_fs f k k) h4, ih]
      omega
    · rw [if_neg hq] at h3
      have h4 : (fun k => ja_fs f k k) n = true := (ja_fs_iff f n n).mpr (fun j hj e => hq ⟨j, hj, e⟩)
      rw [ja_ct_t (q := fun k => ja_fs f k k) h4, ih]
      omega
theorem ja_mk_t {la : Nat → Int32} {k : Nat} (h : la k = nI 1) : ja_mk la k = true := decide_eq_true h
theorem ja_mk_f {la : Nat → Int32} {k : Nat} (h : ¬ la k = nI 1) : ja_mk la k = false := decide_eq_false h
theorem ja_mk_c {la lb : Nat → Int32} {k : Nat} (h : la k = lb k) : ja_mk la k = ja_mk lb k := by unfold ja_mk; rw [h]
/-- the relation -/
def ja_R (sv js jv jd : Nat → Int32) (cc oc : Nat) (sd jn fb fl cr : Int32) (fd nw sl vl la os ov : Nat → Int32) (ch : Nat) (hm : Int32) (ow : Nat) (de si fm cm : Int32) : Prop :=
  ch = cc ∧ ow = oc ∧ oc ≤ 17 ∧ cc ≤ 24 ∧ (oc = 0 ∨ cc ≤ 7) ∧
  (∀ k, k < cc → sl k = js k ∧ vl k = jv k ∧ vp_in (js k) 212 ∧ jd k = nI (ja_ct (ja_mk la) k)) ∧
  (∀ k, k < oc → os k = js (cc + k) ∧ ov k = jv (cc + k) ∧ vp_in (os k) 212 ∧ jd (cc + k) = jn) ∧
  jn = nI (ja_ct (ja_mk la) cc) ∧ (∀ k, k + 1 = cc → la k = nI 1) ∧ si = jn ∧
  (∀ s, s < 212 → fd s = sv s) ∧ (∀ s, s < 212 → nw s = ja_ap js jv sv cc s) ∧ hm = fb ∧ de = sd + jn ∧ fm = fl ∧ cm = cr
def ja_Rel (x : ja_SX) (y : ja_SM) : Prop := match x, y with
  | (sv, js, jv, jd, cc, oc, sd, jn, fb, fl, cr), (fd, nw, sl, vl, la, os, ov, ch, hm, ow, de, si, fm, cm) => ja_R sv js jv jd cc oc sd jn fb fl cr fd nw sl vl la os ov ch hm ow de si fm cm
end
section
/-! each pair of calls keeps the relation -/
theorem ja_i1 (a b c : Int32) : a + b - (b - c) = a + c := by
  rw [Int32.sub_eq_add_neg, Int32.neg_sub, Int32.add_assoc, Int32.sub_eq_add_neg, Int32.add_comm c, ← Int32.add_assoc b, Int32.add_right_neg, Int32.zero_add]
theorem ja_R_new : ja_R (fun _ => 0) (fun _ => 0) (fun _ => 0) (fun _ => 0) 0 0 0 0 0 0 0 (fun _ => 0) (fun _ => 0) (fun _ => 0) (fun _ => 0) (fun _ => 0) (fun _ => 0) (fun _ => 0) 0 0 0 0 0 0 0 :=
  ⟨rfl, rfl, by decide, by decide, Or.inl rfl, fun k h => absurd h (Nat.not_lt_zero k), fun k h => absurd h (Nat.not_lt_zero k), nI_0.symm, fun k h => absurd h (Nat.succ_ne_zero k), rfl, fun _ _ => rfl, fun _ _ => rfl, rfl, by decide +kernel, rfl, rfl⟩
section JR
variable {sv js jv jd : Nat → Int32} {cc oc : Nat} {sd jn fb fl cr : Int32} {fd nw sl vl la os ov : Nat → Int32} {ch : Nat} {hm : Int32} {ow : Nat} {de si fm cm : Int32}
theorem ja_R_app {x y : Int32} (h : ja_R sv js jv jd cc oc sd jn fb fl cr fd nw sl vl la os ov ch hm ow de si fm cm) (hx : vp_in x 212) (h17 : oc < 17) (h7 : cc ≤ 7) :
    ja_R sv (upd js (cc + oc) x) (upd jv (cc + oc) y) (upd jd (cc + oc) jn) cc (oc + 1) sd jn fb fl cr fd nw sl vl la (upd os ow x) (upd ov ow y) ch hm (ow + 1) de si fm cm := by
  obtain ⟨h1, h2, h3, h4, h5, hk, ho, hj, hl, hsi, hfd, hnw, e1, e2, e3, e4⟩ := h
  refine ⟨h1, by rw [h2], by omega, h4, Or.inr h7, fun k hk2 => ?_, fun k hk2 => ?_, hj, hl, hsi, hfd, fun s hs => ?_, e1, e2, e3, e4⟩
  · have e : k ≠ cc + oc := by omega
    rw [pk_un e, pk_un e, pk_un e]
    exact hk k hk2
  · by_cases e : k = oc
    · have e' : k = ow := by rw [h2]; exact e
      refine ⟨?_, ?_, ?_, ?_⟩
      · rw [e', pk_us, h2, pk_us]
      · rw [e', pk_us, h2, pk_us]
      · rw [e', pk_us]; exact hx
      · rw [e, pk_us]
    · have e1 : k ≠ ow := by rw [h2]; exact e
      have e' : cc + k ≠ cc + oc := by omega
      rw [pk_un e1, pk_un e1, pk_un e', pk_un e', pk_un e']
      exact ho k (by omega)
  · rw [hnw s hs]
    exact ja_ap_congr cc (fun k hk2 => by
      have e : k ≠ cc + oc := by omega
      rw [pk_un e, pk_un e]; exact ⟨rfl, rfl⟩) (fun _ _ => rfl) s hs
theorem ja_ctb (la : Nat → Int32) {k : Nat} (h : k ≤ 24) : ja_ct (ja_mk la) k < 2 ^ 31 := by
  have := ja_ct_le (ja_mk la) k
  omega
theorem ja_run_all {n : Nat} (h : ja_R sv js jv jd cc oc sd jn fb fl cr fd nw sl vl la os ov ch hm ow de si fm cm) (hn : ja_run jd cc jn n) : n = cc := by
  obtain ⟨h1, h2, h3, h4, h5, hk, ho, hj, hl, hsi, hfd, hnw, e1, e2, e3, e4⟩ := h
  obtain ⟨a, b, c⟩ := hn
  by_cases e : n = cc
  · exact e
  · have hlt : n < cc := by omega
    have hc := c hlt
    rw [(hk n hlt).2.2.2, hj] at hc
    refine absurd ((nI_ltI (ja_ctb la (by omega)) (ja_ctb la (by omega))).mpr ?_) hc
    exact ja_ct_lt (b := cc - 1) (by omega) (by omega) (ja_mk_t (hl (cc - 1) (by omega)))
theorem ja_fs_congr {f g : Nat → Int32} {k n : Nat} (h : ∀ i, i < n → f i = g i) (hk : k < n) : ∀ i, i ≤ n → ja_fs f k i = ja_fs g k i
  | 0, _ => rfl
  | i + 1, hi => by
    have ih := ja_fs_congr h hk i (by omega)
    show (if f i = f k then false else ja_fs f k i) = (if g i = g k then false else ja_fs g k i)
    rw [h i (by omega), h k hk, ih]
theorem ja_R_flush {n : Nat} (h : ja_R sv js jv jd cc oc sd jn fb fl cr fd nw sl vl la os ov ch hm ow de si fm cm) (hn : ja_run jd cc jn n) :
    ja_R (ja_ap js jv sv n) js jv jd 0 0 (sd + jn) (nI 0) (nI (ja_ct (ja_ls js cc) cc)) (fl + nI 1) cr (ja_cp nw fd 212) nw sl vl la os ov 0 (nI (ja_ct (fun k => ja_fs sl k k) ch)) 0 de (nI 0) (fm + nI 1) cm := by
  have hnc := ja_run_all h hn
  obtain ⟨h1, h2, h3, h4, h5, hk, ho, hj, hl, hsi, hfd, hnw, e1, e2, e3, e4⟩ := h
  refine ⟨rfl, rfl, by decide, by decide, Or.inl rfl, fun k h => absurd h (Nat.not_lt_zero k), fun k h => absurd h (Nat.not_lt_zero k), rfl, fun k h => absurd h (Nat.succ_ne_zero k), rfl, fun s hs => ?_, fun s hs => ?_, ?_, ?_, by rw [e3], e4⟩
  · unfold ja_cp
    rw [if_pos hs, hnw s hs, hnc]
  · show nw s = ja_ap js jv sv n s
    rw [hnw s hs, hnc]
  · rw [← ja_first_last js cc, h1]
    rw [ja_ct_congr cc (fun k hk2 => ja_fs_congr (n := cc) (fun i hi => (hk i hi).1) hk2 k (by omega))]
  · rw [e2, nI_0, Int32.add_zero]
theorem ja_R_forget (h : ja_R sv js jv jd cc oc sd jn fb fl cr fd nw sl vl la os ov ch hm ow de si fm cm) : ja_R sv js jv jd cc 0 sd jn fb fl cr fd nw sl vl la os ov ch hm 0 de si fm cm := by
  obtain ⟨h1, h2, h3, h4, h5, hk, ho, hj, hl, hsi, hfd, hnw, e1, e2, e3, e4⟩ := h
  exact ⟨h1, rfl, by decide, h4, Or.inl rfl, hk, fun k h => absurd h (Nat.not_lt_zero k), hj, hl, hsi, hfd, hnw, e1, e2, e3, e4⟩
theorem ja_R_commit (h : ja_R sv js jv jd cc oc sd jn fb fl cr fd nw sl vl la os ov ch hm ow de si fm cm) (h0 : oc ≠ 0) :
    ja_R sv js jv jd (cc + oc) 0 sd (jn + nI 1) fb fl cr fd (ja_ap os ov nw ow) (ja_pt sl os ch ow) (ja_pt vl ov ch ow) (ja_pt la (ja_lm ow) ch ow) os ov (ch + ow) hm 0 (de + nI 1) (si + nI 1) fm cm := by
  obtain ⟨h1, h2, h3, h4, h5, hk, ho, hj, hl, hsi, hfd, hnw, e1, e2, e3, e4⟩ := h
  rw [h1, h2]
  have f1 : ∀ k, k ≤ cc → ja_ct (ja_mk (ja_pt la (ja_lm oc) cc oc)) k = ja_ct (ja_mk la) k := fun k hk2 => ja_ct_congr k (fun j hj2 => ja_mk_c (ja_pt_lo (by omega) oc))
  have f2 : ∀ k, k < oc → ja_ct (ja_mk (ja_pt la (ja_lm oc) cc oc)) (cc + k) = ja_ct (ja_mk la) cc := fun k hk2 => by
    rw [ja_ct_z k (fun j hj2 => ja_mk_f (by rw [ja_pt_hi oc j (by omega), ← ja_lm_f (by omega)]; decide +kernel))]
    exact f1 cc (Nat.le_refl _)
  have f3 : ja_ct (ja_mk (ja_pt la (ja_lm oc) cc oc)) (cc + oc) = ja_ct (ja_mk la) cc + 1 := by
    obtain ⟨w, rfl⟩ : ∃ w, oc = w + 1 := ⟨oc - 1, by omega⟩
    have h9 := ja_ct_t (q := ja_mk (ja_pt la (ja_lm (w + 1)) cc (w + 1))) (n := cc + w) (ja_mk_t (by rw [ja_pt_hi (w + 1) w (by omega), ← ja_lm_t rfl]))
    rw [f2 w (by omega)] at h9
    exact h9
  refine ⟨rfl, rfl, by decide, by omega, Or.inl rfl, fun k hk2 => ?_, fun k h => absurd h (Nat.not_lt_zero k), ?_, fun k hk2 => ?_, by rw [hsi], hfd, fun s hs => ?_, e1, ?_, e3, e4⟩
  · by_cases e : k < cc
    · rw [ja_pt_lo e, ja_pt_lo e, f1 k (by omega)]
      exact hk k e
    · obtain ⟨j, rfl⟩ : ∃ j, k = cc + j := ⟨k - cc, by omega⟩
      have hj2 : j < oc := by omega
      obtain ⟨a1, a2, a3, a4⟩ := ho j hj2
      rw [ja_pt_hi oc j hj2, ja_pt_hi oc j hj2, f2 j hj2]
      exact ⟨a1, a2, by rw [← a1]; exact a3, by rw [a4, hj]⟩
  · rw [f3, hj, nI_add]
  · obtain ⟨j, rfl⟩ : ∃ j, k = cc + j := ⟨k - cc, by omega⟩
    rw [ja_pt_hi oc j (by omega), ← ja_lm_t (by omega)]
  · rw [ja_ap_add]
    exact ja_ap_congr oc (fun k hk2 => ⟨(ho k hk2).1, (ho k hk2).2.1⟩) hnw s hs
  · rw [e2, Int32.add_assoc]
theorem ja_sd_t {z : Nat → Bool} {p : Nat} (h : ∀ j, j < p → z j = false) : ∀ k, k ≤ p → ja_sd z k = true
  | 0, _ => rfl
  | k + 1, hk => by rw [ja_bsd_n (h k (by omega))]; exact ja_sd_t h k (by omega)
theorem ja_sd_f {z : Nat → Bool} {p : Nat} (h : z p = true) : ∀ d, ja_sd z (p + 1 + d) = false
  | 0 => ja_bsd_z h
  | d + 1 => by
    have ih := ja_sd_f h d
    show ja_sd z ((p + 1 + d) + 1) = false
    cases hz : z (p + 1 + d) with
    | true => exact ja_bsd_z hz
    | false => rw [ja_bsd_n hz]; exact ih
/-- what stands whole: the first loop of the reference's crash -/
theorem ja_whole {z : Nat → Bool} {la : Nat → Int32} {p cc : Nat} (hp : ∀ j, j < p → z j = false) (hq : p < cc → z p = true) : ∀ k, k ≤ cc → ja_kp z la k = ja_ct (ja_mk la) (min k p) ∧ ja_wh z la k ≤ min k p ∧ (ja_wh z la k = 0 ∨ ∃ j, ja_wh z la k = j + 1 ∧ la j = nI 1) ∧ ja_ct (ja_mk la) (ja_wh z la k) = ja_ct (ja_mk la) (min k p)
  | 0, _ => by
    rw [Nat.zero_min]
    exact ⟨rfl, Nat.le_refl _, Or.inl rfl, rfl⟩
  | k + 1, hk => by
    obtain ⟨i1, i2, i3, i4⟩ := ja_whole (la := la) hp hq k (by omega)
    by_cases e : k + 1 ≤ p
    · have hs : ja_sd z (k + 1) = true := ja_sd_t hp (k + 1) e
      rw [show min (k + 1) p = k + 1 by omega]
      have hm1 : min k p = k := Nat.min_eq_left (by omega)
      rw [hm1] at i1 i2 i4
      by_cases hl : la k = nI 1
      · rw [ja_kp_t hs hl, ja_wh_t hs hl, ja_ct_t (ja_mk_t hl), i1]
        exact ⟨rfl, Nat.le_refl _, Or.inr ⟨k, rfl, hl⟩, rfl⟩
      · rw [ja_kp_f (fun q => hl q.2), ja_wh_f (fun q => hl q.2), ja_ct_f (ja_mk_f hl)]
        exact ⟨i1, by omega, i3, i4⟩
    · have hs : ja_sd z (k + 1) = false := by
        have h9 := ja_sd_f (hq (by omega)) (k - p)
        rw [show p + 1 + (k - p) = k + 1 by omega] at h9
        exact h9
      have hn : ¬ (ja_sd z (k + 1) = true ∧ la k = nI 1) := fun q => absurd q.1 (by rw [hs]; decide)
      rw [ja_kp_f hn, ja_wh_f hn, show min (k + 1) p = p by omega]
      have hm1 : min k p = p := Nat.min_eq_right (by omega)
      rw [hm1] at i1 i2 i4
      exact ⟨i1, i2, i3, i4⟩
theorem ja_R_crash {mask w : Int32} {n : Nat} (h : ja_R sv js jv jd cc oc sd jn fb fl cr fd nw sl vl la os ov ch hm ow de si fm cm) (hw : ja_wd jd cc fb jn mask w) (hn : ja_run jd cc w n) :
    w = nI (ja_kp (ja_z mask hm) la ch) ∧ ja_R (ja_ap js jv sv n) js jv jd 0 0 (sd + w) (nI 0) (nI 0) fl (cr + nI 1) (ja_cp (ja_ap sl vl (ja_cp fd nw 212) (ja_wh (ja_z mask hm) la ch)) fd 212) (ja_ap sl vl (ja_cp fd nw 212) (ja_wh (ja_z mask hm) la ch)) sl vl la os ov 0 (nI 0) 0 (de - (si - nI (ja_kp (ja_z mask hm) la ch))) (nI 0) fm (cm + nI 1) := by
  obtain ⟨h1, h2, h3, h4, h5, hk, ho, hj, hl, hsi, hfd, hnw, e1, e2, e3, e4⟩ := h
  obtain ⟨p, hp, hp1, hp2, hp3⟩ : ∃ p, p ≤ cc ∧ (∀ j, j < p → ja_z mask hm j = false) ∧ (p < cc → ja_z mask hm p = true) ∧ w = nI (ja_ct (ja_mk la) p) := by
    rw [e1]
    rcases hw with ⟨i, hi, ha, hb, rfl⟩ | ⟨ha, rfl⟩
    · exact ⟨i, by omega, fun j hj2 => ja_z_f (by rw [ha j hj2]; exact ja_n10), fun _ => ja_z_t (ja_bt_0 hb), (hk i hi).2.2.2⟩
    · exact ⟨cc, Nat.le_refl _, fun j hj2 => ja_z_f (by rw [ha j hj2]; exact ja_n10), fun q => absurd q (by omega), hj⟩
  obtain ⟨i1, i2, i3, i4⟩ := ja_whole (la := la) hp1 hp2 cc (Nat.le_refl _)
  have hm1 : min cc p = p := Nat.min_eq_right hp
  rw [hm1] at i1 i2 i4
  rw [h1]
  have hwk : w = nI (ja_kp (ja_z mask hm) la cc) := by rw [i1]; exact hp3
  have hnw2 : n = ja_wh (ja_z mask hm) la cc := by
    obtain ⟨a, b, c⟩ := hn
    have lt_iff : ∀ i, i < cc → (jd i < w ↔ ja_ct (ja_mk la) i < ja_ct (ja_mk la) p) := fun i hi => by
      rw [(hk i hi).2.2.2, hp3]
      exact nI_ltI (ja_ctb la (by omega)) (ja_ctb la (by omega))
    rcases Nat.lt_trichotomy n (ja_wh (ja_z mask hm) la cc) with q | q | q
    · exfalso
      have hnc : n < cc := by omega
      rcases i3 with i3 | ⟨j, i3, hlj⟩
      · omega
      · refine c hnc ((lt_iff n hnc).mpr ?_)
        exact ja_ct_lt (b := j) (by omega) (by omega) (ja_mk_t hlj)
    · exact q
    · exfalso
      have h9 := (lt_iff _ (by omega)).mp (b _ q)
      omega
  have hval : ∀ s, s < 212 → ja_ap sl vl (ja_cp fd nw 212) (ja_wh (ja_z mask hm) la cc) s = ja_ap js jv sv n s := fun s hs => by
    rw [← hnw2]
    refine ja_ap_congr n (fun k hk2 => ?_) (fun t ht => ?_) s hs
    · have := hk k (by have := hn.1; omega)
      exact ⟨this.1, this.2.1⟩
    · unfold ja_cp
      rw [if_pos ht]
      exact hfd t ht
  refine ⟨hwk, rfl, rfl, by decide, by decide, Or.inl rfl, fun k h => absurd h (Nat.not_lt_zero k), fun k h => absurd h (Nat.not_lt_zero k), rfl, fun k h => absurd h (Nat.succ_ne_zero k), rfl, fun s hs => ?_, fun s hs => ?_, rfl, ?_, e3, by rw [e4]⟩
  · show (if s < 212 then ja_ap sl vl (ja_cp fd nw 212) (ja_wh (ja_z mask hm) la cc) s else fd s) = ja_ap js jv sv n s
    rw [if_pos hs]
    exact hval s hs
  · show _ = ja_ap js jv sv n s
    exact hval s hs
  · rw [← hwk, e2, hsi, ja_i1, nI_0, Int32.add_zero]
theorem ja_cl_ne {a b : Int32} (ha : vp_in a 212) (hb : vp_in b 212) (h : a ≠ b) : b.toNatClampNeg ≠ a.toNatClampNeg := by
  obtain ⟨i, hi, rfl⟩ := vp_in_of ha (by decide)
  obtain ⟨j, hj, rfl⟩ := vp_in_of hb (by decide)
  rw [nI_clamp (by omega), nI_clamp (by omega)]
  exact fun e => h (by rw [e])
theorem ja_ap_none {sl vl f : Nat → Int32} {j : Nat} : ∀ n, (∀ k, k < n → j ≠ (sl k).toNatClampNeg) → ja_ap sl vl f n j = f j
  | 0, _ => rfl
  | n + 1, h => by
    show upd (ja_ap sl vl f n) (sl n).toNatClampNeg (vl n) j = f j
    rw [pk_un (h n (Nat.lt_succ_self n))]
    exact ja_ap_none n (fun k hk => h k (Nat.lt_succ_of_lt hk))
theorem ja_ap_last {sl vl f : Nat → Int32} {j i : Nat} (hj : (sl i).toNatClampNeg = j) : ∀ n, i < n → (∀ k, i < k → k < n → j ≠ (sl k).toNatClampNeg) → ja_ap sl vl f n j = vl i
  | 0, h, _ => absurd h (Nat.not_lt_zero i)
  | n + 1, h, hq => by
    show upd (ja_ap sl vl f n) (sl n).toNatClampNeg (vl n) j = vl i
    by_cases e : i = n
    · rw [← e, hj, pk_us]
    · rw [pk_un (hq n (by omega) (Nat.lt_succ_self n))]
      exact ja_ap_last hj n (by omega) (fun k h1 h2 => hq k h1 (Nat.lt_succ_of_lt h2))
end JR
end
section
/-! the answers of both sides, and the relation behind them -/
section JP
variable {sv js jv jd : Nat → Int32} {cc oc : Nat} {sd jn fb fl cr : Int32} {fd nw sl vl la os ov : Nat → Int32} {ch : Nat} {hm : Int32} {ow : Nat} {de si fm cm : Int32}
theorem ja_p_change {x y rx rm : Int32} {ux : ja_SX} {um : ja_SM} (h : ja_R sv js jv jd cc oc sd jn fb fl cr fd nw sl vl la os ov ch hm ow de si fm cm) (h1 : (¬ vp_in x 212 ∧ rx = -1 ∧ ux = (sv, js, jv, jd, cc, oc, sd, jn, fb, fl, cr)) ∨ (vp_in x 212 ∧ oc = 17 ∧ rx = -2 ∧ ux = (sv, js, jv, jd, cc, oc, sd, jn, fb, fl, cr)) ∨ (vp_in x 212 ∧ oc < 17 ∧ ¬ (oc = 0 ∧ 7 < cc) ∧ rx = nI (oc + 1) ∧ ux = (sv, upd js (cc + oc) x, upd jv (cc + oc) y, upd jd (cc + oc) jn, cc, oc + 1, sd, jn, fb, fl, cr)) ∨ (vp_in x 212 ∧ oc = 0 ∧ 7 < cc ∧ rx = nI 1 ∧ ∃ n, ja_run jd cc jn n ∧ ux = (ja_ap js jv sv n, upd js 0 x, upd jv 0 y, upd jd 0 (nI 0), 0, 1, sd + jn, nI 0, nI (ja_ct (ja_ls js cc) cc), fl + nI 1, cr))) (h2 : (¬ vp_in x 212 ∧ rm = -1 ∧ um = (fd, nw, sl, vl, la, os, ov, ch, hm, ow, de, si, fm, cm)) ∨ (vp_in x 212 ∧ ow = 17 ∧ rm = -2 ∧ um = (fd, nw, sl, vl, la, os, ov, ch, hm, ow, de, si, fm, cm)) ∨ (vp_in x 212 ∧ ow < 17 ∧ ¬ (ow = 0 ∧ 7 < ch) ∧ rm = nI (ow + 1) ∧ um = (fd, nw, sl, vl, la, upd os ow x, upd ov ow y, ch, hm, ow + 1, de, si, fm, cm)) ∨ (vp_in x 212 ∧ ow = 0 ∧ 7 < ch ∧ rm = nI 1 ∧ um = (ja_cp nw fd 212, nw, sl, vl, la, upd os 0 x, upd ov 0 y, 0, nI (ja_ct (fun k => ja_fs sl k k) ch), 1, de, nI 0, fm + nI 1, cm))) : rx = rm ∧ ja_Rel ux um := by
  have e1 : ch = cc := h.1
  have e2 : ow = oc := h.2.1
  have h5 : oc = 0 ∨ cc ≤ 7 := h.2.2.2.2.1
  rcases h1 with ⟨a1, rfl, rfl⟩ | ⟨a1, a2, rfl, rfl⟩ | ⟨a1, a2, a3, rfl, rfl⟩ | ⟨a1, a2, a3, rfl, n, hn, rfl⟩
  · rcases h2 with ⟨b1, rfl, rfl⟩ | ⟨b1, -⟩ | ⟨b1, -⟩ | ⟨b1, -⟩
    · exact ⟨rfl, h⟩
    · exact absurd b1 a1
    · exact absurd b1 a1
    · exact absurd b1 a1
  · rcases h2 with ⟨b1, -⟩ | ⟨b1, b2, rfl, rfl⟩ | ⟨b1, b2, -⟩ | ⟨b1, b2, -⟩
    · exact absurd a1 b1
    · exact ⟨rfl, h⟩
    · omega
    · omega
  · rcases h2 with ⟨b1, -⟩ | ⟨b1, b2, -⟩ | ⟨b1, b2, b3, rfl, rfl⟩ | ⟨b1, b2, b3, -⟩
    · exact absurd a1 b1
    · omega
    · exact ⟨by rw [e2], ja_R_app h a1 a2 (by omega)⟩
    · omega
  · rcases h2 with ⟨b1, -⟩ | ⟨b1, b2, -⟩ | ⟨b1, b2, b3, -⟩ | ⟨b1, b2, b3, rfl, rfl⟩
    · exact absurd a1 b1
    · omega
    · omega
    · exact ⟨rfl, ja_R_app (ja_R_flush h hn) a1 (by decide) (by decide)⟩
theorem ja_p_commit {rx rm : Int32} {ux : ja_SX} {um : ja_SM} (h : ja_R sv js jv jd cc oc sd jn fb fl cr fd nw sl vl la os ov ch hm ow de si fm cm) (h1 : (oc = 0 ∧ rx = -1 ∧ ux = (sv, js, jv, jd, cc, oc, sd, jn, fb, fl, cr)) ∨ (oc ≠ 0 ∧ rx = nI oc ∧ ux = (sv, js, jv, jd, cc + oc, 0, sd, jn + nI 1, fb, fl, cr))) (h2 : (ow = 0 ∧ rm = -1 ∧ um = (fd, nw, sl, vl, la, os, ov, ch, hm, ow, de, si, fm, cm)) ∨ (ow ≠ 0 ∧ rm = nI ow ∧ um = (fd, ja_ap os ov nw ow, ja_pt sl os ch ow, ja_pt vl ov ch ow, ja_pt la (ja_lm ow) ch ow, os, ov, ch + ow, hm, 0, de + nI 1, si + nI 1, fm, cm))) : rx = rm ∧ ja_Rel ux um := by
  have e2 : ow = oc := h.2.1
  rcases h1 with ⟨a1, rfl, rfl⟩ | ⟨a1, rfl, rfl⟩
  · rcases h2 with ⟨b1, rfl, rfl⟩ | ⟨b1, -⟩
    · exact ⟨rfl, h⟩
    · exact absurd (e2.trans a1) b1
  · rcases h2 with ⟨b1, -⟩ | ⟨b1, rfl, rfl⟩
    · exact absurd (e2.symm.trans b1) a1
    · exact ⟨by rw [e2], ja_R_commit h a1⟩
theorem ja_p_forget {rx rm : Int32} {ux : ja_SX} {um : ja_SM} (h : ja_R sv js jv jd cc oc sd jn fb fl cr fd nw sl vl la os ov ch hm ow de si fm cm) (h1 : rx = nI oc ∧ ux = (sv, js, jv, jd, cc, 0, sd, jn, fb, fl, cr)) (h2 : rm = nI ow ∧ um = (fd, nw, sl, vl, la, os, ov, ch, hm, 0, de, si, fm, cm)) : rx = rm ∧ ja_Rel ux um := by
  have e2 : ow = oc := h.2.1
  obtain ⟨rfl, rfl⟩ := h1
  obtain ⟨rfl, rfl⟩ := h2
  exact ⟨by rw [e2], ja_R_forget h⟩
theorem ja_p_flush {rx rm : Int32} {ux : ja_SX} {um : ja_SM} (h : ja_R sv js jv jd cc oc sd jn fb fl cr fd nw sl vl la os ov ch hm ow de si fm cm) (h1 : rx = jn ∧ ∃ n, ja_run jd cc jn n ∧ ux = (ja_ap js jv sv n, js, jv, jd, 0, 0, sd + jn, nI 0, nI (ja_ct (ja_ls js cc) cc), fl + nI 1, cr)) (h2 : rm = si ∧ um = (ja_cp nw fd 212, nw, sl, vl, la, os, ov, 0, nI (ja_ct (fun k => ja_fs sl k k) ch), 0, de, nI 0, fm + nI 1, cm)) : rx = rm ∧ ja_Rel ux um := by
  have e2 : si = jn := h.2.2.2.2.2.2.2.2.2.1
  obtain ⟨rfl, n, hn, rfl⟩ := h1
  obtain ⟨rfl, rfl⟩ := h2
  exact ⟨e2.symm, ja_R_flush h hn⟩
theorem ja_p_crash {mask part rx rm : Int32} {ux : ja_SX} {um : ja_SM} (h : ja_R sv js jv jd cc oc sd jn fb fl cr fd nw sl vl la os ov ch hm ow de si fm cm) (h1 : ((part < 0 ∨ nI 500 < part) ∧ rx = -1 ∧ ux = (sv, js, jv, jd, cc, oc, sd, jn, fb, fl, cr)) ∨ (¬ part < 0 ∧ ¬ nI 500 < part ∧ ∃ w n, ja_wd jd cc fb jn mask w ∧ ja_run jd cc w n ∧ rx = jn - w ∧ ux = (ja_ap js jv sv n, js, jv, jd, 0, 0, sd + w, nI 0, nI 0, fl, cr + nI 1))) (h2 : ((part < 0 ∨ nI 500 < part) ∧ rm = -1 ∧ um = (fd, nw, sl, vl, la, os, ov, ch, hm, ow, de, si, fm, cm)) ∨ (¬ part < 0 ∧ ¬ nI 500 < part ∧ rm = si - nI (ja_kp (ja_z mask hm) la ch) ∧ um = (ja_cp (ja_ap sl vl (ja_cp fd nw 212) (ja_wh (ja_z mask hm) la ch)) fd 212, ja_ap sl vl (ja_cp fd nw 212) (ja_wh (ja_z mask hm) la ch), sl, vl, la, os, ov, 0, nI 0, 0, de - (si - nI (ja_kp (ja_z mask hm) la ch)), nI 0, fm, cm + nI 1))) : rx = rm ∧ ja_Rel ux um := by
  have e2 : si = jn := h.2.2.2.2.2.2.2.2.2.1
  rcases h1 with ⟨a1, rfl, rfl⟩ | ⟨a1, a2, w, n, hw, hn, rfl, rfl⟩
  · rcases h2 with ⟨b1, rfl, rfl⟩ | ⟨b1, b2, -⟩
    · exact ⟨rfl, h⟩
    · exact absurd a1 (fun q => q.elim b1 b2)
  · rcases h2 with ⟨b1, -⟩ | ⟨b1, b2, rfl, rfl⟩
    · exact absurd b1 (fun q => q.elim a1 a2)
    · obtain ⟨c1, c2⟩ := ja_R_crash h hw hn
      exact ⟨by rw [e2, ← c1], c2⟩
theorem ja_p_get {x rx rm : Int32} (h : ja_R sv js jv jd cc oc sd jn fb fl cr fd nw sl vl la os ov ch hm ow de si fm cm) (h1 : (¬ vp_in x 212 ∧ rx = nI 0) ∨ (vp_in x 212 ∧ ((∃ i, i < cc ∧ js i = x ∧ (∀ j, i < j → j < cc → js j ≠ x) ∧ rx = jv i) ∨ ((∀ j, j < cc → js j ≠ x) ∧ rx = sv x.toNatClampNeg)))) (h2 : (¬ vp_in x 212 ∧ rm = nI 0) ∨ (vp_in x 212 ∧ rm = nw x.toNatClampNeg)) : rx = rm := by
  obtain ⟨g1, g2, g3, g4, g5, hk, ho, hj, hl, hsi, hfd, hnw, e1, e2, e3, e4⟩ := h
  rcases h1 with ⟨a1, rfl⟩ | ⟨a1, h1⟩
  · rcases h2 with ⟨-, rfl⟩ | ⟨b1, -⟩
    · rfl
    · exact absurd b1 a1
  · rcases h2 with ⟨b1, -⟩ | ⟨b1, rfl⟩
    · exact absurd a1 b1
    · have hx : x.toNatClampNeg < 212 := by
        obtain ⟨j, hj2, rfl⟩ := vp_in_of a1 (by decide)
        rw [nI_clamp (by omega)]; exact hj2
      rw [hnw _ hx]
      rcases h1 with ⟨i, hi, hjs, hlast, rfl⟩ | ⟨hnone, rfl⟩
      · exact (ja_ap_last (by rw [hjs]) cc hi (fun k h1 h2 => ja_cl_ne (hk k h2).2.2.1 a1 (hlast k h1 h2))).symm
      · exact (ja_ap_none cc (fun k h1 => ja_cl_ne (hk k h1).2.2.1 a1 (hnone k h1))).symm
theorem ja_p_count {x rx rm : Int32} (h : ja_R sv js jv jd cc oc sd jn fb fl cr fd nw sl vl la os ov ch hm ow de si fm cm) (h1 : rx = ja_sel x (sd + jn) jn (fb + nI cc) (nI oc) fl cr) (h2 : rm = ja_sel x de si (hm + nI ch) (nI ow) fm cm) : rx = rm := by
  obtain ⟨g1, g2, g3, g4, g5, hk, ho, hj, hl, hsi, hfd, hnw, e1, e2, e3, e4⟩ := h
  rw [h1, h2, g1, g2, hsi, e1, e2, e3, e4]
end JP
end
section
theorem ja_zero (cA : ClassId) (n : Nat) : vp_cell cA (n, .inl (fun _ => 0)) = arrV cA n (fun _ => defaultValue .int) := rfl
set_option maxHeartbeats 1000000 in
set_option maxRecDepth 100000 in
theorem cX_init (l : Launch) (dC : Nat → ClassId) (dI : Nat → Nat → Nat) (h : Nat) (sz : Nat) : Met l yX0_init wsX0_init ({ frames := 1, cells := 4, slots := 284, locals := 12 }) (ja_Pw (dC, dI) vwCl [(h, .inr (0, [.null, .null, .null, .null, .int 0, .int 0, .int 0, .int 0, .int 0, .int 0, .int 0]))] [] sz [.ref h]) (va_Qv (fun _ : Nat × Nat × Nat × Nat × ClassId => True) (fun u t => va_P (dC, dI) vwCl (ja_wX h u.1 u.2.1 u.2.2.1 u.2.2.2.1 u.2.2.2.2 (fun _ => 0) (fun _ => 0) (fun _ => 0) (fun _ => 0) 0 0 0 0 0 0 0) t.heap ∧ va_K (dC, dI) vwCl [(u.2.2.2.2, .int)] t ∧ va_D (va_A [(h, .inr (0, [.null, .null, .null, .null, .int 0, .int 0, .int 0, .int 0, .int 0, .int 0, .int 0]))] sz) (ja_wX h u.1 u.2.1 u.2.2.1 u.2.2.2.1 u.2.2.2.2 (fun _ => 0) (fun _ => 0) (fun _ => 0) (fun _ => 0) 0 0 0 0 0 0 0)) (va_A [(h, .inr (0, [.null, .null, .null, .null, .int 0, .int 0, .int 0, .int 0, .int 0, .int 0, .int 0]))] sz)) 4 284 (va_A [(h, .inr (0, [.null, .null, .null, .null, .int 0, .int 0, .int 0, .int 0, .int 0, .int 0, .int 0]))] sz) := by
  refine Met.ofW (cc := cX0_init) (maxL := 1) (ret := none) (by decide) rfl ?_
  intro p e s m args below meth c s₁ B hml hv
  obtain ⟨rfl, hsz, hP, hK, hD0⟩ := hv
  have hx := B.exec
  have hb := B.bytes
  have hr := B.returns
  have hts := atoms_spec (ws := wsX0_init) B.pre
  have hown : s.vm.findClass RX0 = some m.cls := findClass_of_methodNamed B.named
  have hlocks := B.notSynchronized
  have hin2 : meth.name = "<init>" := (name_of_methodNamed B.named B.method).1
  have hin : ∀ w ∈ u_ws RX0 TX0 11, w ∈ wsX0_init := by decide +kernel
  subst hsz
  have hD := hD0.self (sz := s.heap.size)
  generalize hAe : va_A [(h, .inr (0, [.null, .null, .null, .null, .int 0, .int 0, .int 0, .int 0, .int 0, .int 0, .int 0]))] s.heap.size = A at hD ⊢
  have hA : ∀ q : Nat, s.heap.size ≤ q → A q := fun q h => by rw [← hAe]; exact Or.inr h
  refine ja_st0 s.heap [] hP (va_S.rf (A := A)) (fun H locs hP hS => ?_)
  have hl := lv_entry ([.ref h]) (n := 1) (Nat.le_of_ble_eq_true rfl)
  rw [lg_entry_eq]
  generalize (lg_sl ([.ref h]) ++ List.replicate (1 - (lg_sl ([.ref h])).length) Slot.unset).toArray = ls at hl ⊢
  have hl : lv_has ls 1 [(0, .ref h)] := hl
  refine lv_aload_n hx hb dX0_init_0 rfl (lv_at hl 0 rfl) ?_
  refine W.objInit hx hb hown (hts (.methodLink RX0 3 objectInit) (by decide +kernel)) (hts (.instanceMethod objectInit) (by decide +kernel)) (hts (.code objectInit ⟨#[0xb1]⟩ 1 none) (List.mem_of_getElem? (i := 3) rfl)) rfl (by rw [hml]; exact hl.1) rfl dX0_init_1 (Nat.le_of_ble_eq_true rfl) (Nat.le_of_ble_eq_true rfl) ?_
  refine W.eq (g2 := F0 m 4 ls []) rfl ?_
  refine lv_aload_n hx hb dX0_init_4 rfl (lv_at hl 0 rfl) ?_
  refine lv_sipush (v := nI 212) hx hb dX0_init_5 (by decide +kernel) ?_
  have hc9 : 1 ≤ 4 := by decide
  have hs9 : 212 ≤ 284 := by decide
  refine va_newa (atype := .int) (ty := .int) (N' := 212) (a0 := (212, .inl (fun _ => 0))) hx hb (hts (.arrayClass .int) (by decide +kernel)) rfl hK hP hD hS hA (fun _ => ja_zero _ _) (by decide +kernel) (by decide +kernel) (by decide +kernel) hc9 hs9 dX0_init_8 (fun a1 ca1 H hK hP hD hS => ?_)
  have hK : va_K (dC, dI) vwCl [(ca1, .int)] s := hK
  have hP : va_P (dC, dI) vwCl [(h, .inr (0, [.null, .null, .null, .null, .int 0, .int 0, .int 0, .int 0, .int 0, .int 0, .int 0])), (a1, .inl (ca1, 212, .inl (fun _ => 0)))] H := hP
  have hD : va_D A [(h, .inr (0, [.null, .null, .null, .null, .int 0, .int 0, .int 0, .int 0, .int 0, .int 0, .int 0])), (a1, .inl (ca1, 212, .inl (fun _ => 0)))] := hD
  refine W.widen (k := 1) (n := 212) (by omega) (by omega) ?_
  refine va_putF (D := (dC, dI)) (ci := 0) (v := .ref a1) (ty := .array .int) (C := RX0) (T := TX0) (N := 11) hx hb hts hin tyX0 tyX0_ok nmX0 hown hK hP hD hS 0 rfl rfl 0 (by decide) (hts (.fieldLink RX0 9 "JournalShelf" "safeValue" "[I") (by decide +kernel)) (fun _ h9 => h9) rfl hin2 rfl (by decide +kernel) rfl rfl (Nat.le_of_ble_eq_true rfl) dX0_init_10 (fun H locs hP hD hS => ?_)
  have hP : va_P (dC, dI) vwCl [(h, .inr (0, [.ref a1, .null, .null, .null, .int 0, .int 0, .int 0, .int 0, .int 0, .int 0, .int 0])), (a1, .inl (ca1, 212, .inl (fun _ => 0)))] H := hP
  have hD : va_D A [(h, .inr (0, [.ref a1, .null, .null, .null, .int 0, .int 0, .int 0, .int 0, .int 0, .int 0, .int 0])), (a1, .inl (ca1, 212, .inl (fun _ => 0)))] := hD
  refine lv_aload_n hx hb dX0_init_13 rfl (lv_at hl 0 rfl) ?_
  refine lv_bipush (v := nI 24) hx hb dX0_init_14 (by decide +kernel) ?_
  have hc9 : 2 ≤ 4 := by decide
  have hs9 : 236 ≤ 284 := by decide
  refine va_newa (atype := .int) (ty := .int) (N' := 24) (a0 := (24, .inl (fun _ => 0))) hx hb (hts (.arrayClass .int) (by decide +kernel)) rfl hK hP hD hS hA (fun _ => ja_zero _ _) (by decide +kernel) (by decide +kernel) (by decide +kernel) hc9 hs9 dX0_init_16 (fun a2 ca2 H hK hP hD hS => ?_)
  have hK : va_K (dC, dI) vwCl [(ca1, .int), (ca2, .int)] s := hK
  have hP : va_P (dC, dI) vwCl [(h, .inr (0, [.ref a1, .null, .null, .null, .int 0, .int 0, .int 0, .int 0, .int 0, .int 0, .int 0])), (a1, .inl (ca1, 212, .inl (fun _ => 0))), (a2, .inl (ca2, 24, .inl (fun _ => 0)))] H := hP
  have hD : va_D A [(h, .inr (0, [.ref a1, .null, .null, .null, .int 0, .int 0, .int 0, .int 0, .int 0, .int 0, .int 0])), (a1, .inl (ca1, 212, .inl (fun _ => 0))), (a2, .inl (ca2, 24, .inl (fun _ => 0)))] := hD
  refine W.widen (k := 2) (n := 236) (by omega) (by omega) ?_
  refine va_putF (D := (dC, dI)) (ci := 0) (v := .ref a2) (ty := .array .int) (C := RX0) (T := TX0) (N := 11) hx hb hts hin tyX0 tyX0_ok nmX0 hown hK hP hD hS 0 rfl rfl 1 (by decide) (hts (.fieldLink RX0 13 "JournalShelf" "journalSlot" "[I") (by decide +kernel)) (fun _ h9 => h9) rfl hin2 rfl (by decide +kernel) rfl rfl (Nat.le_of_ble_eq_true rfl) dX0_init_18 (fun H locs hP hD hS => ?_)
  have hP : va_P (dC, dI) vwCl [(h, .inr (0, [.ref a1, .ref a2, .null, .null, .int 0, .int 0, .int 0, .int 0, .int 0, .int 0, .int 0])), (a1, .inl (ca1, 212, .inl (fun _ => 0))), (a2, .inl (ca2, 24, .inl (fun _ => 0)))] H := hP
  have hD : va_D A [(h, .inr (0, [.ref a1, .ref a2, .null, .null, .int 0, .int 0, .int 0, .int 0, .int 0, .int 0, .int 0])), (a1, .inl (ca1, 212, .inl (fun _ => 0))), (a2, .inl (ca2, 24, .inl (fun _ => 0)))] := hD
  refine lv_aload_n hx hb dX0_init_21 rfl (lv_at hl 0 rfl) ?_
  refine lv_bipush (v := nI 24) hx hb dX0_init_22 (by decide +kernel) ?_
  have hc9 : 3 ≤ 4 := by decide
  have hs9 : 260 ≤ 284 := by decide
  refine va_newa (atype := .int) (ty := .int) (N' := 24) (a0 := (24, .inl (fun _ => 0))) hx hb (hts (.arrayClass .int) (by decide +kernel)) rfl hK hP hD hS hA (fun _ => ja_zero _ _) (by decide +kernel) (by decide +kernel) (by decide +kernel) hc9 hs9 dX0_init_24 (fun a3 ca3 H hK hP hD hS => ?_)
  have hK : va_K (dC, dI) vwCl [(ca1, .int), (ca2, .int), (ca3, .int)] s := hK
  have hP : va_P (dC, dI) vwCl [(h, .inr (0, [.ref a1, .ref a2, .null, .null, .int 0, .int 0, .int 0, .int 0, .int 0, .int 0, .int 0])), (a1, .inl (ca1, 212, .inl (fun _ => 0))), (a2, .inl (ca2, 24, .inl (fun _ => 0))), (a3, .inl (ca3, 24, .inl (fun _ => 0)))] H := hP
  have hD : va_D A [(h, .inr (0, [.ref a1, .ref a2, .null, .null, .int 0, .int 0, .int 0, .int 0, .int 0, .int 0, .int 0])), (a1, .inl (ca1, 212, .inl (fun _ => 0))), (a2, .inl (ca2, 24, .inl (fun _ => 0))), (a3, .inl (ca3, 24, .inl (fun _ => 0)))] := hD
  refine W.widen (k := 3) (n := 260) (by omega) (by omega) ?_
  refine va_putF (D := (dC, dI)) (ci := 0) (v := .ref a3) (ty := .array .int) (C := RX0) (T := TX0) (N := 11) hx hb hts hin tyX0 tyX0_ok nmX0 hown hK hP hD hS 0 rfl rfl 2 (by decide) (hts (.fieldLink RX0 16 "JournalShelf" "journalValue" "[I") (by decide +kernel)) (fun _ h9 => h9) rfl hin2 rfl (by decide +kernel) rfl rfl (Nat.le_of_ble_eq_true rfl) dX0_init_26 (fun H locs hP hD hS => ?_)
  have hP : va_P (dC, dI) vwCl [(h, .inr (0, [.ref a1, .ref a2, .ref a3, .null, .int 0, .int 0, .int 0, .int 0, .int 0, .int 0, .int 0])), (a1, .inl (ca1, 212, .inl (fun _ => 0))), (a2, .inl (ca2, 24, .inl (fun _ => 0))), (a3, .inl (ca3, 24, .inl (fun _ => 0)))] H := hP
  have hD : va_D A [(h, .inr (0, [.ref a1, .ref a2, .ref a3, .null, .int 0, .int 0, .int 0, .int 0, .int 0, .int 0, .int 0])), (a1, .inl (ca1, 212, .inl (fun _ => 0))), (a2, .inl (ca2, 24, .inl (fun _ => 0))), (a3, .inl (ca3, 24, .inl (fun _ => 0)))] := hD
  refine lv_aload_n hx hb dX0_init_29 rfl (lv_at hl 0 rfl) ?_
  refine lv_bipush (v := nI 24) hx hb dX0_init_30 (by decide +kernel) ?_
  have hc9 : 4 ≤ 4 := by decide
  have hs9 : 284 ≤ 284 := by decide
  refine va_newa (atype := .int) (ty := .int) (N' := 24) (a0 := (24, .inl (fun _ => 0))) hx hb (hts (.arrayClass .int) (by decide +kernel)) rfl hK hP hD hS hA (fun _ => ja_zero _ _) (by decide +kernel) (by decide +kernel) (by decide +kernel) hc9 hs9 dX0_init_32 (fun a4 ca4 H hK hP hD hS => ?_)
  have hK : va_K (dC, dI) vwCl [(ca1, .int), (ca2, .int), (ca3, .int), (ca4, .int)] s := hK
  have hP : va_P (dC, dI) vwCl [(h, .inr (0, [.ref a1, .ref a2, .ref a3, .null, .int 0, .int 0, .int 0, .int 0, .int 0, .int 0, .int 0])), (a1, .inl (ca1, 212, .inl (fun _ => 0))), (a2, .inl (ca2, 24, .inl (fun _ => 0))), (a3, .inl (ca3, 24, .inl (fun _ => 0))), (a4, .inl (ca4, 24, .inl (fun _ => 0)))] H := hP
  have hD : va_D A [(h, .inr (0, [.ref a1, .ref a2, .ref a3, .null, .int 0, .int 0, .int 0, .int 0, .int 0, .int 0, .int 0])), (a1, .inl (ca1, 212, .inl (fun _ => 0))), (a2, .inl (ca2, 24, .inl (fun _ => 0))), (a3, .inl (ca3, 24, .inl (fun _ => 0))), (a4, .inl (ca4, 24, .inl (fun _ => 0)))] := hD
  refine W.widen (k := 4) (n := 284) (by omega) (by omega) ?_
  refine va_putF (D := (dC, dI)) (ci := 0) (v := .ref a4) (ty := .array .int) (C := RX0) (T := TX0) (N := 11) hx hb hts hin tyX0 tyX0_ok nmX0 hown hK hP hD hS 0 rfl rfl 3 (by decide) (hts (.fieldLink RX0 19 "JournalShelf" "journalDeed" "[I") (by decide +kernel)) (fun _ h9 => h9) rfl hin2 rfl (by decide +kernel) rfl rfl (Nat.le_of_ble_eq_true rfl) dX0_init_34 (fun H locs hP hD hS => ?_)
  have hP : va_P (dC, dI) vwCl [(h, .inr (0, [.ref a1, .ref a2, .ref a3, .ref a4, .int 0, .int 0, .int 0, .int 0, .int 0, .int 0, .int 0])), (a1, .inl (ca1, 212, .inl (fun _ => 0))), (a2, .inl (ca2, 24, .inl (fun _ => 0))), (a3, .inl (ca3, 24, .inl (fun _ => 0))), (a4, .inl (ca4, 24, .inl (fun _ => 0)))] H := hP
  have hD : va_D A [(h, .inr (0, [.ref a1, .ref a2, .ref a3, .ref a4, .int 0, .int 0, .int 0, .int 0, .int 0, .int 0, .int 0])), (a1, .inl (ca1, 212, .inl (fun _ => 0))), (a2, .inl (ca2, 24, .inl (fun _ => 0))), (a3, .inl (ca3, 24, .inl (fun _ => 0))), (a4, .inl (ca4, 24, .inl (fun _ => 0)))] := hD
  have f0 : s.vm.findClass ("[" ++ FieldType.int.toString) = some ca1 := (hK.2 0 _ rfl).2
  have f1 : s.vm.findClass ("[" ++ FieldType.int.toString) = some ca2 := (hK.2 1 _ rfl).2
  have g1 : ca1 = ca2 := Option.some.inj (f0.symm.trans f1)
  have f2 : s.vm.findClass ("[" ++ FieldType.int.toString) = some ca3 := (hK.2 2 _ rfl).2
  have g2 : ca1 = ca3 := Option.some.inj (f0.symm.trans f2)
  have f3 : s.vm.findClass ("[" ++ FieldType.int.toString) = some ca4 := (hK.2 3 _ rfl).2
  have g3 : ca1 = ca4 := Option.some.inj (f0.symm.trans f3)
  subst g1
  subst g2
  subst g3
  have hK9 := hK.sub (tys' := [(ca1, .int)]) [0] rfl
  exact W.vret hx hb hr (fun t ht hW => ⟨⟨(a1, a2, a3, a4, ca1), rfl, trivial, by rw [ht]; exact hP, va_K.moved hW.alike hK9, hD⟩, hS.F ht⟩) hS.2.2 dX0_init_37
set_option maxHeartbeats 1000000 in
set_option maxRecDepth 100000 in
theorem cM_init (l : Launch) (dC : Nat → ClassId) (dI : Nat → Nat → Nat) (h : Nat) (sz : Nat) : Met l yX1_init wsX1_init ({ frames := 1, cells := 7, slots := 530, locals := 12 }) (ja_Pw (dC, dI) vwCl [(h, .inr (1, [.null, .null, .null, .null, .null, .int 0, .int 0, .null, .null, .int 0, .int 0, .int 0, .int 0, .int 0]))] [] sz [.ref h]) (va_Qv (fun _ : Nat × Nat × Nat × Nat × Nat × Nat × Nat × ClassId => True) (fun u t => va_P (dC, dI) vwCl (ja_wM h u.1 u.2.1 u.2.2.1 u.2.2.2.1 u.2.2.2.2.1 u.2.2.2.2.2.1 u.2.2.2.2.2.2.1 u.2.2.2.2.2.2.2 (fun _ => 0) (fun _ => 0) (fun _ => 0) (fun _ => 0) (fun _ => 0) (fun _ => 0) (fun _ => 0) 0 0 0 0 0 0 0) t.heap ∧ va_K (dC, dI) vwCl [(u.2.2.2.2.2.2.2, .int)] t ∧ va_D (va_A [(h, .inr (1, [.null, .null, .null, .null, .null, .int 0, .int 0, .null, .null, .int 0, .int 0, .int 0, .int 0, .int 0]))] sz) (ja_wM h u.1 u.2.1 u.2.2.1 u.2.2.2.1 u.2.2.2.2.1 u.2.2.2.2.2.1 u.2.2.2.2.2.2.1 u.2.2.2.2.2.2.2 (fun _ => 0) (fun _ => 0) (fun _ => 0) (fun _ => 0) (fun _ => 0) (fun _ => 0) (fun _ => 0) 0 0 0 0 0 0 0)) (va_A [(h, .inr (1, [.null, .null, .null, .null, .null, .int 0, .int 0, .null, .null, .int 0, .int 0, .int 0, .int 0, .int 0]))] sz)) 7 530 (va_A [(h, .inr (1, [.null, .null, .null, .null, .null, .int 0, .int 0, .null, .null, .int 0, .int 0, .int 0, .int 0, .int 0]))] sz) := by
  refine Met.ofW (cc := cX1_init) (maxL := 1) (ret := none) (by decide) rfl ?_
  intro p e s m args below meth c s₁ B hml hv
  obtain ⟨rfl, hsz, hP, hK, hD0⟩ := hv
  have hx := B.exec
  have hb := B.bytes
  have hr := B.returns
  have hts := atoms_spec (ws := wsX1_init) B.pre
  have hown : s.vm.findClass RX1 = some m.cls := findClass_of_methodNamed B.named
  have hlocks := B.notSynchronized
  have hin2 : meth.name = "<init>" := (name_of_methodNamed B.named B.method).1
  have hin : ∀ w ∈ u_ws RX1 TX1 14, w ∈ wsX1_init := by decide +kernel
  subst hsz
  have hD := hD0.self (sz := s.heap.size)
  generalize hAe : va_A [(h, .inr (1, [.null, .null, .null, .null, .null, .int 0, .int 0, .null, .null, .int 0, .int 0, .int 0, .int 0, .int 0]))] s.heap.size = A at hD ⊢
  have hA : ∀ q : Nat, s.heap.size ≤ q → A q := fun q h => by rw [← hAe]; exact Or.inr h
  refine ja_st0 s.heap [] hP (va_S.rf (A := A)) (fun H locs hP hS => ?_)
  have hl := lv_entry ([.ref h]) (n := 1) (Nat.le_of_ble_eq_true rfl)
  rw [lg_entry_eq]
  generalize (lg_sl ([.ref h]) ++ List.replicate (1 - (lg_sl ([.ref h])).length) Slot.unset).toArray = ls at hl ⊢
  have hl : lv_has ls 1 [(0, .ref h)] := hl
  refine lv_aload_n hx hb dX1_init_0 rfl (lv_at hl 0 rfl) ?_
  refine W.objInit hx hb hown (hts (.methodLink RX1 1 objectInit) (by decide +kernel)) (hts (.instanceMethod objectInit) (by decide +kernel)) (hts (.code objectInit ⟨#[0xb1]⟩ 1 none) (List.mem_of_getElem? (i := 3) rfl)) rfl (by rw [hml]; exact hl.1) rfl dX1_init_1 (Nat.le_of_ble_eq_true rfl) (Nat.le_of_ble_eq_true rfl) ?_
  refine W.eq (g2 := F0 m 4 ls []) rfl ?_
  refine lv_aload_n hx hb dX1_init_4 rfl (lv_at hl 0 rfl) ?_
  refine lv_sipush (v := nI 212) hx hb dX1_init_5 (by decide +kernel) ?_
  have hc9 : 1 ≤ 7 := by decide
  have hs9 : 212 ≤ 530 := by decide
  refine va_newa (atype := .int) (ty := .int) (N' := 212) (a0 := (212, .inl (fun _ => 0))) hx hb (hts (.arrayClass .int) (by decide +kernel)) rfl hK hP hD hS hA (fun _ => ja_zero _ _) (by decide +kernel) (by decide +kernel) (by decide +kernel) hc9 hs9 dX1_init_8 (fun a1 ca1 H hK hP hD hS => ?_)
  have hK : va_K (dC, dI) vwCl [(ca1, .int)] s := hK
  have hP : va_P (dC, dI) vwCl [(h, .inr (1, [.null, .null, .null, .null, .null, .int 0, .int 0, .null, .null, .int 0, .int 0, .int 0, .int 0, .int 0])), (a1, .inl (ca1, 212, .inl (fun _ => 0)))] H := hP
  have hD : va_D A [(h, .inr (1, [.null, .null, .null, .null, .null, .int 0, .int 0, .null, .null, .int 0, .int 0, .int 0, .int 0, .int 0])), (a1, .inl (ca1, 212, .inl (fun _ => 0)))] := hD
  refine W.widen (k := 1) (n := 212) (by omega) (by omega) ?_
  refine va_putF (D := (dC, dI)) (ci := 1) (v := .ref a1) (ty := .array .int) (C := RX1) (T := TX1) (N := 14) hx hb hts hin tyX1 tyX1_ok nmX1 hown hK hP hD hS 0 rfl rfl 0 (by decide) (hts (.fieldLink RX1 9 "JournalShelfModel" "flushed" "[I") (by decide +kernel)) (fun _ h9 => h9) rfl hin2 rfl (by decide +kernel) rfl rfl (Nat.le_of_ble_eq_true rfl) dX1_init_10 (fun H locs hP hD hS => ?_)
  have hP : va_P (dC, dI) vwCl [(h, .inr (1, [.ref a1, .null, .null, .null, .null, .int 0, .int 0, .null, .null, .int 0, .int 0, .int 0, .int 0, .int 0])), (a1, .inl (ca1, 212, .inl (fun _ => 0)))] H := hP
  have hD : va_D A [(h, .inr (1, [.ref a1, .null, .null, .null, .null, .int 0, .int 0, .null, .null, .int 0, .int 0, .int 0, .int 0, .int 0])), (a1, .inl (ca1, 212, .inl (fun _ => 0)))] := hD
  refine lv_aload_n hx hb dX1_init_13 rfl (lv_at hl 0 rfl) ?_
  refine lv_sipush (v := nI 212) hx hb dX1_init_14 (by decide +kernel) ?_
  have hc9 : 2 ≤ 7 := by decide
  have hs9 : 424 ≤ 530 := by decide
  refine va_newa (atype := .int) (ty := .int) (N' := 212) (a0 := (212, .inl (fun _ => 0))) hx hb (hts (.arrayClass .int) (by decide +kernel)) rfl hK hP hD hS hA (fun _ => ja_zero _ _) (by decide +kernel) (by decide +kernel) (by decide +kernel) hc9 hs9 dX1_init_17 (fun a2 ca2 H hK hP hD hS => ?_)
  have hK : va_K (dC, dI) vwCl [(ca1, .int), (ca2, .int)] s := hK
  have hP : va_P (dC, dI) vwCl [(h, .inr (1, [.ref a1, .null, .null, .null, .null, .int 0, .int 0, .null, .null, .int 0, .int 0, .int 0, .int 0, .int 0])), (a1, .inl (ca1, 212, .inl (fun _ => 0))), (a2, .inl (ca2, 212, .inl (fun _ => 0)))] H := hP
  have hD : va_D A [(h, .inr (1, [.ref a1, .null, .null, .null, .null, .int 0, .int 0, .null, .null, .int 0, .int 0, .int 0, .int 0, .int 0])), (a1, .inl (ca1, 212, .inl (fun _ => 0))), (a2, .inl (ca2, 212, .inl (fun _ => 0)))] := hD
  refine W.widen (k := 2) (n := 424) (by omega) (by omega) ?_
  refine va_putF (D := (dC, dI)) (ci := 1) (v := .ref a2) (ty := .array .int) (C := RX1) (T := TX1) (N := 14) hx hb hts hin tyX1 tyX1_ok nmX1 hown hK hP hD hS 0 rfl rfl 1 (by decide) (hts (.fieldLink RX1 13 "JournalShelfModel" "now" "[I") (by decide +kernel)) (fun _ h9 => h9) rfl hin2 rfl (by decide +kernel) rfl rfl (Nat.le_of_ble_eq_true rfl) dX1_init_19 (fun H locs hP hD hS => ?_)
  have hP : va_P (dC, dI) vwCl [(h, .inr (1, [.ref a1, .ref a2, .null, .null, .null, .int 0, .int 0, .null, .null, .int 0, .int 0, .int 0, .int 0, .int 0])), (a1, .inl (ca1, 212, .inl (fun _ => 0))), (a2, .inl (ca2, 212, .inl (fun _ => 0)))] H := hP
  have hD : va_D A [(h, .inr (1, [.ref a1, .ref a2, .null, .null, .null, .int 0, .int 0, .null, .null, .int 0, .int 0, .int 0, .int 0, .int 0])), (a1, .inl (ca1, 212, .inl (fun _ => 0))), (a2, .inl (ca2, 212, .inl (fun _ => 0)))] := hD
  refine lv_aload_n hx hb dX1_init_22 rfl (lv_at hl 0 rfl) ?_
  refine lv_bipush (v := nI 24) hx hb dX1_init_23 (by decide +kernel) ?_
  have hc9 : 3 ≤ 7 := by decide
  have hs9 : 448 ≤ 530 := by decide
  refine va_newa (atype := .int) (ty := .int) (N' := 24) (a0 := (24, .inl (fun _ => 0))) hx hb (hts (.arrayClass .int) (by decide +kernel)) rfl hK hP hD hS hA (fun _ => ja_zero _ _) (by decide +kernel) (by decide +kernel) (by decide +kernel) hc9 hs9 dX1_init_25 (fun a3 ca3 H hK hP hD hS => ?_)
  have hK : va_K (dC, dI) vwCl [(ca1, .int), (ca2, .int), (ca3, .int)] s := hK
  have hP : va_P (dC, dI) vwCl [(h, .inr (1, [.ref a1, .ref a2, .null, .null, .null, .int 0, .int 0, .null, .null, .int 0, .int 0, .int 0, .int 0, .int 0])), (a1, .inl (ca1, 212, .inl (fun _ => 0))), (a2, .inl (ca2, 212, .inl (fun _ => 0))), (a3, .inl (ca3, 24, .inl (fun _ => 0)))] H := hP
  have hD : va_D A [(h, .inr (1, [.ref a1, .ref a2, .null, .null, .null, .int 0, .int 0, .null, .null, .int 0, .int 0, .int 0, .int 0, .int 0])), (a1, .inl (ca1, 212, .inl (fun _ => 0))), (a2, .inl (ca2, 212, .inl (fun _ => 0))), (a3, .inl (ca3, 24, .inl (fun _ => 0)))] := hD
  refine W.widen (k := 3) (n := 448) (by omega) (by omega) ?_
  refine va_putF (D := (dC, dI)) (ci := 1) (v := .ref a3) (ty := .array .int) (C := RX1) (T := TX1) (N := 14) hx hb hts hin tyX1 tyX1_ok nmX1 hown hK hP hD hS 0 rfl rfl 2 (by decide) (hts (.fieldLink RX1 16 "JournalShelfModel" "slot" "[I") (by decide +kernel)) (fun _ h9 => h9) rfl hin2 rfl (by decide +kernel) rfl rfl (Nat.le_of_ble_eq_true rfl) dX1_init_27 (fun H locs hP hD hS => ?_)
  have hP : va_P (dC, dI) vwCl [(h, .inr (1, [.ref a1, .ref a2, .ref a3, .null, .null, .int 0, .int 0, .null, .null, .int 0, .int 0, .int 0, .int 0, .int 0])), (a1, .inl (ca1, 212, .inl (fun _ => 0))), (a2, .inl (ca2, 212, .inl (fun _ => 0))), (a3, .inl (ca3, 24, .inl (fun _ => 0)))] H := hP
  have hD : va_D A [(h, .inr (1, [.ref a1, .ref a2, .ref a3, .null, .null, .int 0, .int 0, .null, .null, .int 0, .int 0, .int 0, .int 0, .int 0])), (a1, .inl (ca1, 212, .inl (fun _ => 0))), (a2, .inl (ca2, 212, .inl (fun _ => 0))), (a3, .inl (ca3, 24, .inl (fun _ => 0)))] := hD
  refine lv_aload_n hx hb dX1_init_30 rfl (lv_at hl 0 rfl) ?_
  refine lv_bipush (v := nI 24) hx hb dX1_init_31 (by decide +kernel) ?_
  have hc9 : 4 ≤ 7 := by decide
  have hs9 : 472 ≤ 530 := by decide
  refine va_newa (atype := .int) (ty := .int) (N' := 24) (a0 := (24, .inl (fun _ => 0))) hx hb (hts (.arrayClass .int) (by decide +kernel)) rfl hK hP hD hS hA (fun _ => ja_zero _ _) (by decide +kernel) (by decide +kernel) (by decide +kernel) hc9 hs9 dX1_init_33 (fun a4 ca4 H hK hP hD hS => ?_)
  have hK : va_K (dC, dI) vwCl [(ca1, .int), (ca2, .int), (ca3, .int), (ca4, .int)] s := hK
  have hP : va_P (dC, dI) vwCl [(h, .inr (1, [.ref a1, .ref a2, .ref a3, .null, .null, .int 0, .int 0, .null, .null, .int 0, .int 0, .int 0, .int 0, .int 0])), (a1, .inl (ca1, 212, .inl (fun _ => 0))), (a2, .inl (ca2, 212, .inl (fun _ => 0))), (a3, .inl (ca3, 24, .inl (fun _ => 0))), (a4, .inl (ca4, 24, .inl (fun _ => 0)))] H := hP
  have hD : va_D A [(h, .inr (1, [.ref a1, .ref a2, .ref a3, .null, .null, .int 0, .int 0, .null, .null, .int 0, .int 0, .int 0, .int 0, .int 0])), (a1, .inl (ca1, 212, .inl (fun _ => 0))), (a2, .inl (ca2, 212, .inl (fun _ => 0))), (a3, .inl (ca3, 24, .inl (fun _ => 0))), (a4, .inl (ca4, 24, .inl (fun _ => 0)))] := hD
  refine W.widen (k := 4) (n := 472) (by omega) (by omega) ?_
  refine va_putF (D := (dC, dI)) (ci := 1) (v := .ref a4) (ty := .array .int) (C := RX1) (T := TX1) (N := 14) hx hb hts hin tyX1 tyX1_ok nmX1 hown hK hP hD hS 0 rfl rfl 3 (by decide) (hts (.fieldLink RX1 19 "JournalShelfModel" "value" "[I") (by decide +kernel)) (fun _ h9 => h9) rfl hin2 rfl (by decide +kernel) rfl rfl (Nat.le_of_ble_eq_true rfl) dX1_init_35 (fun H locs hP hD hS => ?_)
  have hP : va_P (dC, dI) vwCl [(h, .inr (1, [.ref a1, .ref a2, .ref a3, .ref a4, .null, .int 0, .int 0, .null, .null, .int 0, .int 0, .int 0, .int 0, .int 0])), (a1, .inl (ca1, 212, .inl (fun _ => 0))), (a2, .inl (ca2, 212, .inl (fun _ => 0))), (a3, .inl (ca3, 24, .inl (fun _ => 0))), (a4, .inl (ca4, 24, .inl (fun _ => 0)))] H := hP
  have hD : va_D A [(h, .inr (1, [.ref a1, .ref a2, .ref a3, .ref a4, .null, .int 0, .int 0, .null, .null, .int 0, .int 0, .int 0, .int 0, .int 0])), (a1, .inl (ca1, 212, .inl (fun _ => 0))), (a2, .inl (ca2, 212, .inl (fun _ => 0))), (a3, .inl (ca3, 24, .inl (fun _ => 0))), (a4, .inl (ca4, 24, .inl (fun _ => 0)))] := hD
  refine lv_aload_n hx hb dX1_init_38 rfl (lv_at hl 0 rfl) ?_
  refine lv_bipush (v := nI 24) hx hb dX1_init_39 (by decide +kernel) ?_
  have hc9 : 5 ≤ 7 := by decide
  have hs9 : 496 ≤ 530 := by decide
  refine va_newa (atype := .int) (ty := .int) (N' := 24) (a0 := (24, .inl (fun _ => 0))) hx hb (hts (.arrayClass .int) (by decide +kernel)) rfl hK hP hD hS hA (fun _ => ja_zero _ _) (by decide +kernel) (by decide +kernel) (by decide +kernel) hc9 hs9 dX1_init_41 (fun a5 ca5 H hK hP hD hS => ?_)
  have hK : va_K (dC, dI) vwCl [(ca1, .int), (ca2, .int), (ca3, .int), (ca4, .int), (ca5, .int)] s := hK
  have hP : va_P (dC, dI) vwCl [(h, .inr (1, [.ref a1, .ref a2, .ref a3, .ref a4, .null, .int 0, .int 0, .null, .null, .int 0, .int 0, .int 0, .int 0, .int 0])), (a1, .inl (ca1, 212, .inl (fun _ => 0))), (a2, .inl (ca2, 212, .inl (fun _ => 0))), (a3, .inl (ca3, 24, .inl (fun _ => 0))), (a4, .inl (ca4, 24, .inl (fun _ => 0))), (a5, .inl (ca5, 24, .inl (fun _ => 0)))] H := hP
  have hD : va_D A [(h, .inr (1, [.ref a1, .ref a2, .ref a3, .ref a4, .null, .int 0, .int 0, .null, .null, .int 0, .int 0, .int 0, .int 0, .int 0])), (a1, .inl (ca1, 212, .inl (fun _ => 0))), (a2, .inl (ca2, 212, .inl (fun _ => 0))), (a3, .inl (ca3, 24, .inl (fun _ => 0))), (a4, .inl (ca4, 24, .inl (fun _ => 0))), (a5, .inl (ca5, 24, .inl (fun _ => 0)))] := hD
  refine W.widen (k := 5) (n := 496) (by omega) (by omega) ?_
  refine va_putF (D := (dC, dI)) (ci := 1) (v := .ref a5) (ty := .array .int) (C := RX1) (T := TX1) (N := 14) hx hb hts hin tyX1 tyX1_ok nmX1 hown hK hP hD hS 0 rfl rfl 4 (by decide) (hts (.fieldLink RX1 22 "JournalShelfModel" "lastOf" "[I") (by decide +kernel)) (fun _ h9 => h9) rfl hin2 rfl (by decide +kernel) rfl rfl (Nat.le_of_ble_eq_true rfl) dX1_init_43 (fun H locs hP hD hS => ?_)
  have hP : va_P (dC, dI) vwCl [(h, .inr (1, [.ref a1, .ref a2, .ref a3, .ref a4, .ref a5, .int 0, .int 0, .null, .null, .int 0, .int 0, .int 0, .int 0, .int 0])), (a1, .inl (ca1, 212, .inl (fun _ => 0))), (a2, .inl (ca2, 212, .inl (fun _ => 0))), (a3, .inl (ca3, 24, .inl (fun _ => 0))), (a4, .inl (ca4, 24, .inl (fun _ => 0))), (a5, .inl (ca5, 24, .inl (fun _ => 0)))] H := hP
  have hD : va_D A [(h, .inr (1, [.ref a1, .ref a2, .ref a3, .ref a4, .ref a5, .int 0, .int 0, .null, .null, .int 0, .int 0, .int 0, .int 0, .int 0])), (a1, .inl (ca1, 212, .inl (fun _ => 0))), (a2, .inl (ca2, 212, .inl (fun _ => 0))), (a3, .inl (ca3, 24, .inl (fun _ => 0))), (a4, .inl (ca4, 24, .inl (fun _ => 0))), (a5, .inl (ca5, 24, .inl (fun _ => 0)))] := hD
  refine lv_aload_n hx hb dX1_init_46 rfl (lv_at hl 0 rfl) ?_
  refine lv_bipush (v := nI 17) hx hb dX1_init_47 (by decide +kernel) ?_
  have hc9 : 6 ≤ 7 := by decide
  have hs9 : 513 ≤ 530 := by decide
  refine va_newa (atype := .int) (ty := .int) (N' := 17) (a0 := (17, .inl (fun _ => 0))) hx hb (hts (.arrayClass .int) (by decide +kernel)) rfl hK hP hD hS hA (fun _ => ja_zero _ _) (by decide +kernel) (by decide +kernel) (by decide +kernel) hc9 hs9 dX1_init_49 (fun a6 ca6 H hK hP hD hS => ?_)
  have hK : va_K (dC, dI) vwCl [(ca1, .int), (ca2, .int), (ca3, .int), (ca4, .int), (ca5, .int), (ca6, .int)] s := hK
  have hP : va_P (dC, dI) vwCl [(h, .inr (1, [.ref a1, .ref a2, .ref a3, .ref a4, .ref a5, .int 0, .int 0, .null, .null, .int 0, .int 0, .int 0, .int 0, .int 0])), (a1, .inl (ca1, 212, .inl (fun _ => 0))), (a2, .inl (ca2, 212, .inl (fun _ => 0))), (a3, .inl (ca3, 24, .inl (fun _ => 0))), (a4, .inl (ca4, 24, .inl (fun _ => 0))), (a5, .inl (ca5, 24, .inl (fun _ => 0))), (a6, .inl (ca6, 17, .inl (fun _ => 0)))] H := hP
  have hD : va_D A [(h, .inr (1, [.ref a1, .ref a2, .ref a3, .ref a4, .ref a5, .int 0, .int 0, .null, .null, .int 0, .int 0, .int 0, .int 0, .int 0])), (a1, .inl (ca1, 212, .inl (fun _ => 0))), (a2, .inl (ca2, 212, .inl (fun _ => 0))), (a3, .inl (ca3, 24, .inl (fun _ => 0))), (a4, .inl (ca4, 24, .inl (fun _ => 0))), (a5, .inl (ca5, 24, .inl (fun _ => 0))), (a6, .inl (ca6, 17, .inl (fun _ => 0)))] := hD
  refine W.widen (k := 6) (n := 513) (by omega) (by omega) ?_
  refine va_putF (D := (dC, dI)) (ci := 1) (v := .ref a6) (ty := .array .int) (C := RX1) (T := TX1) (N := 14) hx hb hts hin tyX1 tyX1_ok nmX1 hown hK hP hD hS 0 rfl rfl 7 (by decide) (hts (.fieldLink RX1 25 "JournalShelfModel" "ownSlot" "[I") (by decide +kernel)) (fun _ h9 => h9) rfl hin2 rfl (by decide +kernel) rfl rfl (Nat.le_of_ble_eq_true rfl) dX1_init_51 (fun H locs hP hD hS => ?_)
  have hP : va_P (dC, dI) vwCl [(h, .inr (1, [.ref a1, .ref a2, .ref a3, .ref a4, .ref a5, .int 0, .int 0, .ref a6, .null, .int 0, .int 0, .int 0, .int 0, .int 0])), (a1, .inl (ca1, 212, .inl (fun _ => 0))), (a2, .inl (ca2, 212, .inl (fun _ => 0))), (a3, .inl (ca3, 24, .inl (fun _ => 0))), (a4, .inl (ca4, 24, .inl (fun _ => 0))), (a5, .inl (ca5, 24, .inl (fun _ => 0))), (a6, .inl (ca6, 17, .inl (fun _ => 0)))] H := hP
  have hD : va_D A [(h, .inr (1, [.ref a1, .ref a2, .ref a3, .ref a4, .ref a5, .int 0, .int 0, .ref a6, .null, .int 0, .int 0, .int 0, .int 0, .int 0])), (a1, .inl (ca1, 212, .inl (fun _ => 0))), (a2, .inl (ca2, 212, .inl (fun _ => 0))), (a3, .inl (ca3, 24, .inl (fun _ => 0))), (a4, .inl (ca4, 24, .inl (fun _ => 0))), (a5, .inl (ca5, 24, .inl (fun _ => 0))), (a6, .inl (ca6, 17, .inl (fun _ => 0)))] := hD
  refine lv_aload_n hx hb dX1_init_54 rfl (lv_at hl 0 rfl) ?_
  refine lv_bipush (v := nI 17) hx hb dX1_init_55 (by decide +kernel) ?_
  have hc9 : 7 ≤ 7 := by decide
  have hs9 : 530 ≤ 530 := by decide
  refine va_newa (atype := .int) (ty := .int) (N' := 17) (a0 := (17, .inl (fun _ => 0))) hx hb (hts (.arrayClass .int) (by decide +kernel)) rfl hK hP hD hS hA (fun _ => ja_zero _ _) (by decide +kernel) (by decide +kernel) (by decide +kernel) hc9 hs9 dX1_init_57 (fun a7 ca7 H hK hP hD hS => ?_)
  have hK : va_K (dC, dI) vwCl [(ca1, .int), (ca2, .int), (ca3, .int), (ca4, .int), (ca5, .int), (ca6, .int), (ca7, .int)] s := hK
  have hP : va_P (dC, dI) vwCl [(h, .inr (1, [.ref a1, .ref a2, .ref a3, .ref a4, .ref a5, .int 0, .int 0, .ref a6, .null, .int 0, .int 0, .int 0, .int 0, .int 0])), (a1, .inl (ca1, 212, .inl (fun _ => 0))), (a2, .inl (ca2, 212, .inl (fun _ => 0))), (a3, .inl (ca3, 24, .inl (fun _ => 0))), (a4, .inl (ca4, 24, .inl (fun _ => 0))), (a5, .inl (ca5, 24, .inl (fun _ => 0))), (a6, .inl (ca6, 17, .inl (fun _ => 0))), (a7, .inl (ca7, 17, .inl (fun _ => 0)))] H := hP
  have hD : va_D A [(h, .inr (1, [.ref a1, .ref a2, .ref a3, .ref a4, .ref a5, .int 0, .int 0, .ref a6, .null, .int 0, .int 0, .int 0, .int 0, .int 0])), (a1, .inl (ca1, 212, .inl (fun _ => 0))), (a2, .inl (ca2, 212, .inl (fun _ => 0))), (a3, .inl (ca3, 24, .inl (fun _ => 0))), (a4, .inl (ca4, 24, .inl (fun _ => 0))), (a5, .inl (ca5, 24, .inl (fun _ => 0))), (a6, .inl (ca6, 17, .inl (fun _ => 0))), (a7, .inl (ca7, 17, .inl (fun _ => 0)))] := hD
  refine W.widen (k := 7) (n := 530) (by omega) (by omega) ?_
  refine va_putF (D := (dC, dI)) (ci := 1) (v := .ref a7) (ty := .array .int) (C := RX1) (T := TX1) (N := 14) hx hb hts hin tyX1 tyX1_ok nmX1 hown hK hP hD hS 0 rfl rfl 8 (by decide) (hts (.fieldLink RX1 28 "JournalShelfModel" "ownValue" "[I") (by decide +kernel)) (fun _ h9 => h9) rfl hin2 rfl (by decide +kernel) rfl rfl (Nat.le_of_ble_eq_true rfl) dX1_init_59 (fun H locs hP hD hS => ?_)
  have hP : va_P (dC, dI) vwCl [(h, .inr (1, [.ref a1, .ref a2, .ref a3, .ref a4, .ref a5, .int 0, .int 0, .ref a6, .ref a7, .int 0, .int 0, .int 0, .int 0, .int 0])), (a1, .inl (ca1, 212, .inl (fun _ => 0))), (a2, .inl (ca2, 212, .inl (fun _ => 0))), (a3, .inl (ca3, 24, .inl (fun _ => 0))), (a4, .inl (ca4, 24, .inl (fun _ => 0))), (a5, .inl (ca5, 24, .inl (fun _ => 0))), (a6, .inl (ca6, 17, .inl (fun _ => 0))), (a7, .inl (ca7, 17, .inl (fun _ => 0)))] H := hP
  have hD : va_D A [(h, .inr (1, [.ref a1, .ref a2, .ref a3, .ref a4, .ref a5, .int 0, .int 0, .ref a6, .ref a7, .int 0, .int 0, .int 0, .int 0, .int 0])), (a1, .inl (ca1, 212, .inl (fun _ => 0))), (a2, .inl (ca2, 212, .inl (fun _ => 0))), (a3, .inl (ca3, 24, .inl (fun _ => 0))), (a4, .inl (ca4, 24, .inl (fun _ => 0))), (a5, .inl (ca5, 24, .inl (fun _ => 0))), (a6, .inl (ca6, 17, .inl (fun _ => 0))), (a7, .inl (ca7, 17, .inl (fun _ => 0)))] := hD
  have f0 : s.vm.findClass ("[" ++ FieldType.int.toString) = some ca1 := (hK.2 0 _ rfl).2
  have f1 : s.vm.findClass ("[" ++ FieldType.int.toString) = some ca2 := (hK.2 1 _ rfl).2
  have g1 : ca1 = ca2 := Option.some.inj (f0.symm.trans f1)
  have f2 : s.vm.findClass ("[" ++ FieldType.int.toString) = some ca3 := (hK.2 2 _ rfl).2
  have g2 : ca1 = ca3 := Option.some.inj (f0.symm.trans f2)
  have f3 : s.vm.findClass ("[" ++ FieldType.int.toString) = some ca4 := (hK.2 3 _ rfl).2
  have g3 : ca1 = ca4 := Option.some.inj (f0.symm.trans f3)
  have f4 : s.vm.findClass ("[" ++ FieldType.int.toString) = some ca5 := (hK.2 4 _ rfl).2
  have g4 : ca1 = ca5 := Option.some.inj (f0.symm.trans f4)
  have f5 : s.vm.findClass ("[" ++ FieldType.int.toString) = some ca6 := (hK.2 5 _ rfl).2
  have g5 : ca1 = ca6 := Option.some.inj (f0.symm.trans f5)
  have f6 : s.vm.findClass ("[" ++ FieldType.int.toString) = some ca7 := (hK.2 6 _ rfl).2
  have g6 : ca1 = ca7 := Option.some.inj (f0.symm.trans f6)
  subst g1
  subst g2
  subst g3
  subst g4
  subst g5
  subst g6
  have hK9 := hK.sub (tys' := [(ca1, .int)]) [0] rfl
  exact W.vret hx hb hr (fun t ht hW => ⟨⟨(a1, a2, a3, a4, a5, a6, a7, ca1), rfl, trivial, by rw [ht]; exact hP, va_K.moved hW.alike hK9, hD⟩, hS.F ht⟩) hS.2.2 dX1_init_62
end
section
/-! THE CLAIM OUT OF ONE WALK OF THE LAW'S BODY. Your part is whole_start (and what it stands on); all else here is the same for every law, but numbers. -/
def R_law : String := "JournalShelfLaw"
def lw_P (b : Addr) (xs : List Int32) (args : Array Value) (s : State) : Prop := args = #[.ref b] ∧ s.IntsAt b xs ∧ xs.length ≤ 1536 ∧ (Jvm.Cond.and given_1 narrow_1).before args s = true
def lw_Q (_ : Array Value) (s : State) (o : Outcome) (t : State) : Prop := o = .returned (some (.int 1)) ∧ Framed s o t [] 13 839
def lw_Z (below : List Frame) (a : Array Value) (s : State) : State → Prop := fun t => ∃ o, t.status = .running ∧ Ended t below o ∧ lw_Q a s o t
/-- the law's own end, with 1 on the stack, nothing written that was there before, its room as the claim has it -/
theorem lw_ret {p : Program} {l : Launch} {e : Env} {s : State} {m : MethodId} {below : List Frame} {meth : Method} {c : Code} {b : Nat} (hx : p.tables.exec = Jvm.exec) (hb : c.code = code) (hr : meth.sig.returnType = ret) (hlocks : meth.locks = false) {pc : Nat} {H : Heap} {ls : Array Slot} (hdg : decode code pc = .ok (.ireturn, 1)) : W p l e room_1 s m #[Value.ref b] below meth c H [] 13 839 (lw_Z below #[Value.ref b] s) (F0 m pc ls [.int 1]) := by
  intro T hT X
  obtain ⟨fs, hret, hrun, hended, hW, hframe⟩ := X.leave (v := some (.int 1)) (hlocks := hlocks) (fun h => by rw [hr] at h; cases h)
  have hmeth' : T.vm.method? m = some meth := X.method'
  refine ⟨T.setFrames fs, ?_, .returned (some (.int 1)), hrun, hended, rfl, ⟨_, rfl⟩, hW, hframe⟩
  jvm_step X.here [X.here.top, hx, hb, hdg, hmeth', hr, ret, narrow_b1]
  (try refine ⟨rfl, ?_⟩); (try refine ⟨rfl, ?_⟩)
  first | (intro acts; rw [hret _ acts rfl rfl rfl]) | rw [hret _ _ rfl rfl rfl]
  exact Steps.refl _
/-- what holds at the law's entry: the machine, the code, the tables' words (any of lw_tbl by 'hts w (by decide +kernel)'), the script of L ints xs at the cell b, what the Statement gives of the start (any of its parts by flat_of_before) -/
def lw_At (p : Program) (s : State) (m : MethodId) (meth : Method) (c : Code) (b L : Nat) (xs : Nat → Int32) : Prop :=
  p.tables.exec = Jvm.exec ∧ c.code = code ∧ meth.sig.returnType = ret ∧ c.maxLocals = 4 ∧ s.vm.findClass R_law = some m.cls ∧ (∀ w ∈ lw_tbl, w.before #[Value.ref b] s = true) ∧ va_X b L xs s s.heap ∧ b < s.heap.size ∧ meth.locks = false ∧ (Jvm.Cond.and given_1 narrow_1).before #[Value.ref b] s = true
set_option maxHeartbeats 1000000 in
set_option maxRecDepth 100000 in
theorem whole_start {p : Program} {e : Env} {s : State} {m : MethodId} {below : List Frame} {meth : Method} {c : Code} (l : Launch) {b L : Nat} {xs : Nat → Int32} (hL : L ≤ 1536) (C0 : lw_At p s m meth c b L xs) : W p l e room_1 s m #[Value.ref b] below meth c s.heap [] 0 0 (lw_Z below #[Value.ref b] s) (entryFrame m ([Value.ref b] : List Value).toArray 4) := by
  obtain ⟨hx, hb, hr, hml, hown, hts0, hX, hbl, hlocks, hgv⟩ := C0
  have hts : ∀ w ∈ wsL_law, w.before #[Value.ref b] s = true := fun w h => hts0 w (wsL_law_in w h)
  have hn0 : ∀ w ∈ u_ws RX0 TX0 11, w ∈ wsL_law := by decide +kernel
  obtain ⟨dc0, di0, hKn0⟩ := u_known (C := RX0) (T := TX0) (N := 11) hts hn0 (hts (.instantiable RX0 11) (by decide +kernel))
  have hn1 : ∀ w ∈ u_ws RX1 TX1 14, w ∈ wsL_law := by decide +kernel
  obtain ⟨dc1, di1, hKn1⟩ := u_known (C := RX1) (T := TX1) (N := 14) hts hn1 (hts (.instantiable RX1 14) (by decide +kernel))
  have hK : va_K ((fun k : Nat => if k = 0 then dc0 else dc1), (fun k : Nat => if k = 0 then di0 else di1)) vwCl [] s := ja_K2 (cl := vwCl) rfl rfl rfl hKn0 hKn1
  generalize (fun k : Nat => if k = 0 then dc0 else dc1) = dC at hK
  generalize (fun k : Nat => if k = 0 then di0 else di1) = dI at hK
  have hP : va_P (dC, dI) vwCl [] s.heap := fun k q h => by simp at h
  have hD : va_D (fun q : Nat => s.heap.size ≤ q) [] := ⟨fun i j p q h => by simp at h, fun k q h => by simp at h⟩
  obtain ⟨A, hAe⟩ : ∃ A : Nat → Prop, A = (fun q : Nat => s.heap.size ≤ q) := ⟨_, rfl⟩
  rw [← hAe] at hD
  have hA : ∀ q : Nat, s.heap.size ≤ q → A q := fun q h => by rw [hAe]; exact h
  have hAb : ∀ q : Nat, A q → s.heap.size ≤ q := fun q h => by rw [hAe] at h; exact h
  have hbA : ¬ A b := fun h => absurd (hAb b h) (Nat.not_le.mpr hbl)
  refine ja_st0 s.heap [] hP (va_S.rf (A := A)) (fun H locs hP hS => ?_)
  have hl := lv_entry ([.ref b]) (n := 4) (Nat.le_of_ble_eq_true rfl)
  rw [lg_entry_eq]
  generalize (lg_sl ([.ref b]) ++ List.replicate (4 - (lg_sl ([.ref b])).length) Slot.unset).toArray = ls at hl ⊢
  have hl : lv_has ls 4 [(0, .ref b)] := hl
  have hc9 : 1 ≤ 13 := by decide
  have hs9 : 11 ≤ 839 := by decide
  refine va_new (ci := 0) (fs := [.null, .null, .null, .null, .int 0, .int 0, .int 0, .int 0, .int 0, .int 0, .int 0]) (C := RX0) (T := TX0) (N := 11) hx hb hts hn0 tyX0 tyX0_ok hown (hts (.classLink RL 7 RX0) (by decide +kernel)) (hts (.instantiable RX0 11) (by decide +kernel)) (hts (.initialized RX0) (by decide +kernel)) hK hP hD hS hA rfl (fun j hj => by rcases (show j = 0 ∨ j = 1 ∨ j = 2 ∨ j = 3 ∨ j = 4 ∨ j = 5 ∨ j = 6 ∨ j = 7 ∨ j = 8 ∨ j = 9 ∨ j = 10 by omega) with rfl | rfl | rfl | rfl | rfl | rfl | rfl | rfl | rfl | rfl | rfl <;> rfl) hc9 hs9 dL_law_0 (fun xh H hP hD hS => ?_)
  have hP : va_P (dC, dI) vwCl ([(xh, .inr (0, [.null, .null, .null, .null, .int 0, .int 0, .int 0, .int 0, .int 0, .int 0, .int 0]))]) H := hP
  have hD : va_D A ([(xh, .inr (0, [.null, .null, .null, .null, .int 0, .int 0, .int 0, .int 0, .int 0, .int 0, .int 0]))]) := hD
  refine W.widen (k := 1) (n := 11) (by omega) (by omega) ?_
  refine lv_dup hx hb dL_law_3 rfl ?_
  have hPc := hP.sub (ws' := [(xh, .inr (0, [.null, .null, .null, .null, .int 0, .int 0, .int 0, .int 0, .int 0, .int 0, .int 0]))]) [0] rfl
  have hDc := hD.sub (ws' := [(xh, .inr (0, [.null, .null, .null, .null, .int 0, .int 0, .int 0, .int 0, .int 0, .int 0, .int 0]))]) [0] (by decide) rfl
  have hFc := va_free (wc := [(xh, .inr (0, [.null, .null, .null, .null, .int 0, .int 0, .int 0, .int 0, .int 0, .int 0, .int 0]))]) hD hS hA [0] rfl
  have hc8 : 5 ≤ 13 := by decide
  have hs8 : 295 ≤ 839 := by decide
  refine va_callv (va_runI (As := []) (rest := [.ref xh]) ⟨hx, hb, hml, hown, hts⟩ (cX_init l dC dI xh H.size) (cwI 0 hts gL_law_X0_init rfl rfl rfl (hts (.initialized RX0) (by decide +kernel)) (hts (.methodLink RL 9 yX0_init) (by decide +kernel)) (hts (.instanceMethod yX0_init) (by decide +kernel)) rfl (by decide +kernel) ⟨Nat.le_of_ble_eq_true rfl, Nat.le_of_ble_eq_true rfl⟩) ⟨ja_blW, fun U hU hW => ⟨rfl, by rw [hU], by rw [hU]; exact hPc, va_K.moved hW.alike hK, hDc.weaken (fun _ _ _ _ => trivial)⟩⟩ rfl rfl hl.1 rfl (lv_room (Nat.le_of_ble_eq_true rfl)) dL_law_4 ⟨hc8, hs8⟩) hS (fun q _ h => hFc q h) hFc (fun u t H1 locs ht hvm hw hB hz1 hk1 hS => ?_)
  obtain ⟨x1, x2, x3, x4, cA⟩ := u
  obtain ⟨hP1, hK1, hD1⟩ := hB
  rw [ht] at hP1
  obtain ⟨hP, hD⟩ := va_join (wr := []) (w1 := ja_wX xh x1 x2 x3 x4 cA (fun _ => 0) (fun _ => 0) (fun _ => 0) (fun _ => 0) 0 0 0 0 0 0 0) hP hD [0] [] rfl rfl (by decide) (by decide) hk1 hFc hP1 hD1
  have hK : va_K (dC, dI) vwCl [(cA, .int)] s := va_K.moved hvm.symm hK1
  have hP : va_P (dC, dI) vwCl (ja_wX xh x1 x2 x3 x4 cA (fun _ => 0) (fun _ => 0) (fun _ => 0) (fun _ => 0) 0 0 0 0 0 0 0) H1 := hP
  have hD : va_D A (ja_wX xh x1 x2 x3 x4 cA (fun _ => 0) (fun _ => 0) (fun _ => 0) (fun _ => 0) 0 0 0 0 0 0 0) := hD
  refine W.widen (k := 5) (n := 295) (by omega) (by omega) ?_
  refine lv_astore_n (lv' := [(1, .ref xh), (0, .ref b)]) hx hb dL_law_7 rfl hl (by decide) rfl (fun ls hl => ?_)
  have hc9 : 6 ≤ 13 := by decide
  have hs9 : 309 ≤ 839 := by decide
  refine va_new (ci := 1) (fs := [.null, .null, .null, .null, .null, .int 0, .int 0, .null, .null, .int 0, .int 0, .int 0, .int 0, .int 0]) (C := RX1) (T := TX1) (N := 14) hx hb hts hn1 tyX1 tyX1_ok hown (hts (.classLink RL 10 RX1) (by decide +kernel)) (hts (.instantiable RX1 14) (by decide +kernel)) (hts (.initialized RX1) (by decide +kernel)) hK hP hD hS hA rfl (fun j hj => by rcases (show j = 0 ∨ j = 1 ∨ j = 2 ∨ j = 3 ∨ j = 4 ∨ j = 5 ∨ j = 6 ∨ j = 7 ∨ j = 8 ∨ j = 9 ∨ j = 10 ∨ j = 11 ∨ j = 12 ∨ j = 13 by omega) with rfl | rfl | rfl | rfl | rfl | rfl | rfl | rfl | rfl | rfl | rfl | rfl | rfl | rfl <;> rfl) hc9 hs9 dL_law_8 (fun mh H hP hD hS => ?_)
  have hP : va_P (dC, dI) vwCl (ja_wX xh x1 x2 x3 x4 cA (fun _ => 0) (fun _ => 0) (fun _ => 0) (fun _ => 0) 0 0 0 0 0 0 0 ++ [(mh, .inr (1, [.null, .null, .null, .null, .null, .int 0, .int 0, .null, .null, .int 0, .int 0, .int 0, .int 0, .int 0]))]) H := hP
  have hD : va_D A (ja_wX xh x1 x2 x3 x4 cA (fun _ => 0) (fun _ => 0) (fun _ => 0) (fun _ => 0) 0 0 0 0 0 0 0 ++ [(mh, .inr (1, [.null, .null, .null, .null, .null, .int 0, .int 0, .null, .null, .int 0, .int 0, .int 0, .int 0, .int 0]))]) := hD
  refine W.widen (k := 6) (n := 309) (by omega) (by omega) ?_
  refine lv_dup hx hb dL_law_11 rfl ?_
  have hK0 := hK.sub (tys' := []) [] rfl
  have hPc := hP.sub (ws' := [(mh, .inr (1, [.null, .null, .null, .null, .null, .int 0, .int 0, .null, .null, .int 0, .int 0, .int 0, .int 0, .int 0]))]) [5] rfl
  have hDc := hD.sub (ws' := [(mh, .inr (1, [.null, .null, .null, .null, .null, .int 0, .int 0, .null, .null, .int 0, .int 0, .int 0, .int 0, .int 0]))]) [5] (by decide) rfl
  have hFc := va_free (wc := [(mh, .inr (1, [.null, .null, .null, .null, .null, .int 0, .int 0, .null, .null, .int 0, .int 0, .int 0, .int 0, .int 0]))]) hD hS hA [5] rfl
  have hc8 : 13 ≤ 13 := by decide
  have hs8 : 839 ≤ 839 := by decide
  refine va_callv (va_runI (As := []) (rest := [.ref mh]) ⟨hx, hb, hml, hown, hts⟩ (cM_init l dC dI mh H.size) (cwI 0 hts gL_law_X1_init rfl rfl rfl (hts (.initialized RX1) (by decide +kernel)) (hts (.methodLink RL 12 yX1_init) (by decide +kernel)) (hts (.instanceMethod yX1_init) (by decide +kernel)) rfl (by decide +kernel) ⟨Nat.le_of_ble_eq_true rfl, Nat.le_of_ble_eq_true rfl⟩) ⟨ja_blW, fun U hU hW => ⟨rfl, by rw [hU], by rw [hU]; exact hPc, va_K.moved hW.alike hK0, hDc.weaken (fun _ _ _ _ => trivial)⟩⟩ rfl rfl hl.1 rfl (lv_room (Nat.le_of_ble_eq_true rfl)) dL_law_12 ⟨hc8, hs8⟩) hS (fun q _ h => hFc q h) hFc (fun u t H1 locs ht hvm hw hB hz1 hk1 hS => ?_)
  obtain ⟨m1, m2, m3, m4, m5, m6, m7, cB⟩ := u
  obtain ⟨hP1, hK1, hD1⟩ := hB
  rw [ht] at hP1
  obtain ⟨hP, hD⟩ := va_join (wr := ja_wX xh x1 x2 x3 x4 cA (fun _ => 0) (fun _ => 0) (fun _ => 0) (fun _ => 0) 0 0 0 0 0 0 0) (w1 := ja_wM mh m1 m2 m3 m4 m5 m6 m7 cB (fun _ => 0) (fun _ => 0) (fun _ => 0) (fun _ => 0) (fun _ => 0) (fun _ => 0) (fun _ => 0) 0 0 0 0 0 0 0) hP hD [5] [0, 1, 2, 3, 4] rfl rfl (by decide) (by decide) hk1 hFc hP1 hD1
  have hK2 : va_K (dC, dI) vwCl [(cB, .int)] s := va_K.moved hvm.symm hK1
  have f0 : s.vm.findClass ("[" ++ FieldType.int.toString) = some cA := (hK.2 0 _ rfl).2
  have f1 : s.vm.findClass ("[" ++ FieldType.int.toString) = some cB := (hK2.2 0 _ rfl).2
  have g1 : cA = cB := Option.some.inj (f0.symm.trans f1)
  subst g1
  have hP : va_P (dC, dI) vwCl (ja_wX xh x1 x2 x3 x4 cA (fun _ => 0) (fun _ => 0) (fun _ => 0) (fun _ => 0) 0 0 0 0 0 0 0 ++ ja_wM mh m1 m2 m3 m4 m5 m6 m7 cA (fun _ => 0) (fun _ => 0) (fun _ => 0) (fun _ => 0) (fun _ => 0) (fun _ => 0) (fun _ => 0) 0 0 0 0 0 0 0) H1 := hP
  have hD : va_D A (ja_wX xh x1 x2 x3 x4 cA (fun _ => 0) (fun _ => 0) (fun _ => 0) (fun _ => 0) 0 0 0 0 0 0 0 ++ ja_wM mh m1 m2 m3 m4 m5 m6 m7 cA (fun _ => 0) (fun _ => 0) (fun _ => 0) (fun _ => 0) (fun _ => 0) (fun _ => 0) (fun _ => 0) 0 0 0 0 0 0 0) := hD
  refine W.widen (k := 13) (n := 839) (by omega) (by omega) ?_
  refine lv_astore_n (lv' := [(2, .ref mh), (1, .ref xh), (0, .ref b)]) hx hb dL_law_15 rfl hl (by decide) rfl (fun ls hl => ?_)
  refine lv_iconst (v := nI 0) hx hb dL_law_16 (by decide +kernel) ?_
  refine lv_istore_n (lv' := [(3, .int (nI 0)), (2, .ref mh), (1, .ref xh), (0, .ref b)]) hx hb dL_law_17 rfl hl (by decide) rfl (fun ls hl => ?_)
  refine ja_lpW (A1 := Nat × ja_SX × ja_SM) 18 (fun x ls H locs => lv_has ls 4 [(3, .int (nI x.1)), (2, .ref mh), (1, .ref xh), (0, .ref b)] ∧ va_P (dC, dI) vwCl (ja_uX xh x1 x2 x3 x4 cA x.2.1 ++ ja_uM mh m1 m2 m3 m4 m5 m6 m7 cA x.2.2) H ∧ va_D A (ja_uX xh x1 x2 x3 x4 cA x.2.1 ++ ja_uM mh m1 m2 m3 m4 m5 m6 m7 cA x.2.2) ∧ va_S A s.heap H locs ∧ ja_Rel x.2.1 x.2.2 ∧ x.1 ≤ 1536) (fun x => 2000 - x.1) ?_ (0, ((fun _ => 0), (fun _ => 0), (fun _ => 0), (fun _ => 0), 0, 0, 0, 0, 0, 0, 0), ((fun _ => 0), (fun _ => 0), (fun _ => 0), (fun _ => 0), (fun _ => 0), (fun _ => 0), (fun _ => 0), 0, 0, 0, 0, 0, 0, 0)) ls H1 locs ⟨hl, hP, hD, hS, ja_R_new, Nat.zero_le _⟩
  have hc7 : 13 ≤ 13 := by decide
  have hs7 : 839 ≤ 839 := by decide
  intro x ls H locs hI ih
  obtain ⟨hl, hP, hD, hS, hR, hi⟩ := hI
  obtain ⟨i, ⟨sv, js, jv, jd, cc, oc, sd, jn, fb, fl, cr⟩, fd, nw, sl, vl, la, os, ov, ch, hm, ow, de, si, fm, cm⟩ := x
  have hi : i ≤ 1536 := hi
  have hl : lv_has ls 4 [(3, .int (nI i)), (2, .ref mh), (1, .ref xh), (0, .ref b)] := hl
  have hP : va_P (dC, dI) vwCl (ja_wX xh x1 x2 x3 x4 cA sv js jv jd cc oc sd jn fb fl cr ++ ja_wM mh m1 m2 m3 m4 m5 m6 m7 cA fd nw sl vl la os ov ch hm ow de si fm cm) H := hP
  have hD : va_D A (ja_wX xh x1 x2 x3 x4 cA sv js jv jd cc oc sd jn fb fl cr ++ ja_wM mh m1 m2 m3 m4 m5 m6 m7 cA fd nw sl vl la os ov ch hm ow de si fm cm) := hD
  have hR : ja_R sv js jv jd cc oc sd jn fb fl cr fd nw sl vl la os ov ch hm ow de si fm cm := hR
  have q1 : ch = cc := hR.1
  have q2 : ow = oc := hR.2.1
  have q3 : oc ≤ 17 := hR.2.2.1
  have q4 : cc ≤ 24 := hR.2.2.2.1
  have q5 : oc = 0 ∨ cc ≤ 7 := hR.2.2.2.2.1
  have q6 : ∀ k, k < cc → vp_in (js k) 212 := fun k hk => (hR.2.2.2.2.2.1 k hk).2.2.1
  have q7 : ∀ k, k < ch → vp_in (sl k) 212 := fun k hk => by rw [(hR.2.2.2.2.2.1 k (by omega)).1]; exact q6 k (by omega)
  have q8 : ∀ k, k < ow → vp_in (os k) 212 := fun k hk => (hR.2.2.2.2.2.2.1 k (by omega)).2.2.1
  refine lv_iload_n hx hb dL_law_18 rfl (lv_at hl 0 rfl) ?_
  refine lv_aload_n hx hb dL_law_19 rfl (lv_at hl 3 rfl) ?_
  refine va_slen hx hb hX hbl hbA hS dL_law_20 ?_
  refine lv_iconst (v := nI 3) hx hb dL_law_21 (by decide +kernel) ?_
  refine lv_isub hx hb dL_law_22 ?_
  refine lv_icmp_gt hx hb dL_law_23 (tgt := 250) (by decide) (fun h23 => ?_) (fun h23 => ?_)
  · refine lv_iconst (v := nI 1) hx hb dL_law_250 (by decide +kernel) ?_
    refine ja_top (y := 1) (by decide +kernel) ?_
    refine va_forget (fun q hq => hAb _ (hS.2.2 q hq)) ?_
    refine W.widen (k := 13) (n := 839) (by decide) (by decide) ?_
    exact lw_ret hx hb hr hlocks dL_law_251
  · have hi3 : i + 3 ≤ L := ja_law_in hL hi h23
    refine lv_aload_n hx hb dL_law_26 rfl (lv_at hl 3 rfl) ?_
    refine lv_iload_n hx hb dL_law_27 rfl (lv_at hl 0 rfl) ?_
    refine ja_sld hx hb hX hbl hbA hS (k := i) (by omega) (by omega) dL_law_28 ?_
    refine lv_bipush (v := nI 7) hx hb dL_law_29 (by decide +kernel) ?_
    refine lv_iand hx hb dL_law_31 ?_
    obtain ⟨j, hj, hsw⟩ := pk_andE (xs i) (m := nI 7) 3 (by decide +kernel)
    refine ja_top hsw ?_
    obtain rfl | rfl | rfl | rfl | rfl | rfl | rfl | rfl : j = 0 ∨ j = 1 ∨ j = 2 ∨ j = 3 ∨ j = 4 ∨ j = 5 ∨ j = 6 ∨ j = 7 := by omega
    · refine lv_tableIn (off := 48) (tgt := 80) hx hb dL_law_32 (by decide +kernel) (by decide +kernel) (by decide +kernel) (by decide) ?_
      refine lv_aload_n hx hb dL_law_80 rfl (lv_at hl 2 rfl) ?_
      refine lv_aload_n hx hb dL_law_81 rfl (lv_at hl 3 rfl) ?_
      refine lv_iload_n hx hb dL_law_82 rfl (lv_at hl 0 rfl) ?_
      refine lv_iconst (v := nI 1) hx hb dL_law_83 (by decide +kernel) ?_
      refine lv_iadd hx hb dL_law_84 ?_
      refine ja_top (y := nI (i + 1)) (nI_add _ _) ?_
      refine ja_sld hx hb hX hbl hbA hS (k := (i + 1)) (by omega) (by omega) dL_law_85 ?_
      refine lv_aload_n hx hb dL_law_86 rfl (lv_at hl 3 rfl) ?_
      refine lv_iload_n hx hb dL_law_87 rfl (lv_at hl 0 rfl) ?_
      refine lv_iconst (v := nI 2) hx hb dL_law_88 (by decide +kernel) ?_
      refine lv_iadd hx hb dL_law_89 ?_
      refine ja_top (y := nI (i + 2)) (nI_add _ _) ?_
      refine ja_sld hx hb hX hbl hbA hS (k := (i + 2)) (by omega) (by omega) dL_law_90 ?_
      have hPcX := hP.sub (ws' := ja_wX xh x1 x2 x3 x4 cA sv js jv jd cc oc sd jn fb fl cr) [0, 1, 2, 3, 4] rfl
      refine ja_cW (wr := ja_wM mh m1 m2 m3 m4 m5 m6 m7 cA fd nw sl vl la os ov ch hm ow de si fm cm) (wc := ja_wX xh x1 x2 x3 x4 cA sv js jv jd cc oc sd jn fb fl cr) (As := [.int (xs (i + 1)), .int (xs (i + 2))]) (rest := []) ⟨hx, hb, hml, hown, hts⟩ (cX_change l dC dI xh x1 x2 x3 x4 cA H.size sv js jv jd cc oc sd jn fb fl cr (xs (i + 1)) (xs (i + 2)) q4 q3 q5 q6) (cwV 2 hts gL_law_X0_change rfl rfl rfl (by decide +kernel) ⟨Nat.le_of_ble_eq_true rfl, Nat.le_of_ble_eq_true rfl⟩) hK hP hPcX hD hS hA [0, 1, 2, 3, 4] [5, 6, 7, 8, 9, 10, 11, 12] rfl rfl (by decide) (by decide) (by decide) (ja_rcv (ci := 0) (q0 := 0) hK hPcX rfl rfl rfl) rfl hl.1 rfl (Nat.le_of_ble_eq_true rfl) dL_law_91 ⟨hc7, hs7⟩ (fun rX ux H locs hrX hP hD hS => ?_)
      have hP : va_P (dC, dI) vwCl (ja_wM mh m1 m2 m3 m4 m5 m6 m7 cA fd nw sl vl la os ov ch hm ow de si fm cm ++ ja_uX xh x1 x2 x3 x4 cA ux) H := hP
      have hD : va_D A (ja_wM mh m1 m2 m3 m4 m5 m6 m7 cA fd nw sl vl la os ov ch hm ow de si fm cm ++ ja_uX xh x1 x2 x3 x4 cA ux) := hD
      refine lv_aload_n hx hb dL_law_94 rfl (lv_at hl 1 rfl) ?_
      refine lv_aload_n hx hb dL_law_95 rfl (lv_at hl 3 rfl) ?_
      refine lv_iload_n hx hb dL_law_96 rfl (lv_at hl 0 rfl) ?_
      refine lv_iconst (v := nI 1) hx hb dL_law_97 (by decide +kernel) ?_
      refine lv_iadd hx hb dL_law_98 ?_
      refine ja_top (y := nI (i + 1)) (nI_add _ _) ?_
      refine ja_sld hx hb hX hbl hbA hS (k := (i + 1)) (by omega) (by omega) dL_law_99 ?_
      refine lv_aload_n hx hb dL_law_100 rfl (lv_at hl 3 rfl) ?_
      refine lv_iload_n hx hb dL_law_101 rfl (lv_at hl 0 rfl) ?_
      refine lv_iconst (v := nI 2) hx hb dL_law_102 (by decide +kernel) ?_
      refine lv_iadd hx hb dL_law_103 ?_
      refine ja_top (y := nI (i + 2)) (nI_add _ _) ?_
      refine ja_sld hx hb hX hbl hbA hS (k := (i + 2)) (by omega) (by omega) dL_law_104 ?_
      have hPcM := hP.sub (ws' := ja_wM mh m1 m2 m3 m4 m5 m6 m7 cA fd nw sl vl la os ov ch hm ow de si fm cm) [0, 1, 2, 3, 4, 5, 6, 7] rfl
      refine ja_cW (wr := ja_uX xh x1 x2 x3 x4 cA ux) (wc := ja_wM mh m1 m2 m3 m4 m5 m6 m7 cA fd nw sl vl la os ov ch hm ow de si fm cm) (As := [.int (xs (i + 1)), .int (xs (i + 2))]) (rest := [.int rX]) ⟨hx, hb, hml, hown, hts⟩ (cM_change l dC dI mh m1 m2 m3 m4 m5 m6 m7 cA H.size fd nw sl vl la os ov ch hm ow de si fm cm (xs (i + 1)) (xs (i + 2)) (by omega) (by omega)) (cwV 2 hts gL_law_X1_change rfl rfl rfl (by decide +kernel) ⟨Nat.le_of_ble_eq_true rfl, Nat.le_of_ble_eq_true rfl⟩) hK hP hPcM hD hS hA [0, 1, 2, 3, 4, 5, 6, 7] [8, 9, 10, 11, 12] rfl rfl (by decide) (by decide) (by decide) (ja_rcv (ci := 1) (q0 := 0) hK hPcM rfl rfl rfl) rfl hl.1 rfl (Nat.le_of_ble_eq_true rfl) dL_law_105 ⟨hc7, hs7⟩ (fun rM um H locs hrM hP hD hS => ?_)
      have hP : va_P (dC, dI) vwCl (ja_uX xh x1 x2 x3 x4 cA ux ++ ja_uM mh m1 m2 m3 m4 m5 m6 m7 cA um) H := hP
      have hD : va_D A (ja_uX xh x1 x2 x3 x4 cA ux ++ ja_uM mh m1 m2 m3 m4 m5 m6 m7 cA um) := hD
      obtain ⟨he, hR2⟩ := ja_p_change hR hrX hrM
      refine lv_icmp_eq hx hb dL_law_108 (tgt := 244) (by decide) (fun h108 => ?_) (fun h108 => ?_)
      · -- iinc
        refine lv_iinc (k := 0) (v := nI (i + 3)) (lv' := [(3, .int (nI (i + 3))), (2, .ref mh), (1, .ref xh), (0, .ref b)]) hx hb dL_law_244 hl rfl (ja_inc3 _) (by decide) rfl (fun ls hl => ?_)
        refine lv_goto (tgt := 18) hx hb dL_law_247 (by decide) ?_
        exact ih (i + 3, ux, um) ls H locs ⟨lv_sub hl [0, 1, 2, 3] rfl, hP, hD, hS, hR2, (show i + 3 ≤ 1536 by omega)⟩ (show 2000 - (i + 3) < 2000 - i by omega)
      · exact absurd he h108
    · refine lv_tableIn (off := 81) (tgt := 113) hx hb dL_law_32 (by decide +kernel) (by decide +kernel) (by decide +kernel) (by decide) ?_
      refine lv_aload_n hx hb dL_law_113 rfl (lv_at hl 2 rfl) ?_
      have hPcX := hP.sub (ws' := ja_wX xh x1 x2 x3 x4 cA sv js jv jd cc oc sd jn fb fl cr) [0, 1, 2, 3, 4] rfl
      refine ja_cW (wr := ja_wM mh m1 m2 m3 m4 m5 m6 m7 cA fd nw sl vl la os ov ch hm ow de si fm cm) (wc := ja_wX xh x1 x2 x3 x4 cA sv js jv jd cc oc sd jn fb fl cr) (As := []) (rest := []) ⟨hx, hb, hml, hown, hts⟩ (cX_commit l dC dI xh x1 x2 x3 x4 cA H.size sv js jv jd cc oc sd jn fb fl cr  q4 q3) (cwV 0 hts gL_law_X0_commit rfl rfl rfl (by decide +kernel) ⟨Nat.le_of_ble_eq_true rfl, Nat.le_of_ble_eq_true rfl⟩) hK hP hPcX hD hS hA [0, 1, 2, 3, 4] [5, 6, 7, 8, 9, 10, 11, 12] rfl rfl (by decide) (by decide) (by decide) (ja_rcv (ci := 0) (q0 := 0) hK hPcX rfl rfl rfl) rfl hl.1 rfl (Nat.le_of_ble_eq_true rfl) dL_law_114 ⟨hc7, hs7⟩ (fun rX ux H locs hrX hP hD hS => ?_)
      have hP : va_P (dC, dI) vwCl (ja_wM mh m1 m2 m3 m4 m5 m6 m7 cA fd nw sl vl la os ov ch hm ow de si fm cm ++ ja_uX xh x1 x2 x3 x4 cA ux) H := hP
      have hD : va_D A (ja_wM mh m1 m2 m3 m4 m5 m6 m7 cA fd nw sl vl la os ov ch hm ow de si fm cm ++ ja_uX xh x1 x2 x3 x4 cA ux) := hD
      refine lv_aload_n hx hb dL_law_117 rfl (lv_at hl 1 rfl) ?_
      have hPcM := hP.sub (ws' := ja_wM mh m1 m2 m3 m4 m5 m6 m7 cA fd nw sl vl la os ov ch hm ow de si fm cm) [0, 1, 2, 3, 4, 5, 6, 7] rfl
      refine ja_cW (wr := ja_uX xh x1 x2 x3 x4 cA ux) (wc := ja_wM mh m1 m2 m3 m4 m5 m6 m7 cA fd nw sl vl la os ov ch hm ow de si fm cm) (As := []) (rest := [.int rX]) ⟨hx, hb, hml, hown, hts⟩ (cM_commit l dC dI mh m1 m2 m3 m4 m5 m6 m7 cA H.size fd nw sl vl la os ov ch hm ow de si fm cm  (by omega) (by omega) q8) (cwV 0 hts gL_law_X1_commit rfl rfl rfl (by decide +kernel) ⟨Nat.le_of_ble_eq_true rfl, Nat.le_of_ble_eq_true rfl⟩) hK hP hPcM hD hS hA [0, 1, 2, 3, 4, 5, 6, 7] [8, 9, 10, 11, 12] rfl rfl (by decide) (by decide) (by decide) (ja_rcv (ci := 1) (q0 := 0) hK hPcM rfl rfl rfl) rfl hl.1 rfl (Nat.le_of_ble_eq_true rfl) dL_law_118 ⟨hc7, hs7⟩ (fun rM um H locs hrM hP hD hS => ?_)
      have hP : va_P (dC, dI) vwCl (ja_uX xh x1 x2 x3 x4 cA ux ++ ja_uM mh m1 m2 m3 m4 m5 m6 m7 cA um) H := hP
      have hD : va_D A (ja_uX xh x1 x2 x3 x4 cA ux ++ ja_uM mh m1 m2 m3 m4 m5 m6 m7 cA um) := hD
      obtain ⟨he, hR2⟩ := ja_p_commit hR hrX hrM
      refine lv_icmp_eq hx hb dL_law_121 (tgt := 244) (by decide) (fun h121 => ?_) (fun h121 => ?_)
      · -- iinc
        refine lv_iinc (k := 0) (v := nI (i + 3)) (lv' := [(3, .int (nI (i + 3))), (2, .ref mh), (1, .ref xh), (0, .ref b)]) hx hb dL_law_244 hl rfl (ja_inc3 _) (by decide) rfl (fun ls hl => ?_)
        refine lv_goto (tgt := 18) hx hb dL_law_247 (by decide) ?_
        exact ih (i + 3, ux, um) ls H locs ⟨lv_sub hl [0, 1, 2, 3] rfl, hP, hD, hS, hR2, (show i + 3 ≤ 1536 by omega)⟩ (show 2000 - (i + 3) < 2000 - i by omega)
      · exact absurd he h121
    · refine lv_tableIn (off := 94) (tgt := 126) hx hb dL_law_32 (by decide +kernel) (by decide +kernel) (by decide +kernel) (by decide) ?_
      refine lv_aload_n hx hb dL_law_126 rfl (lv_at hl 2 rfl) ?_
      have hPcX := hP.sub (ws' := ja_wX xh x1 x2 x3 x4 cA sv js jv jd cc oc sd jn fb fl cr) [0, 1, 2, 3, 4] rfl
      refine ja_cW (wr := ja_wM mh m1 m2 m3 m4 m5 m6 m7 cA fd nw sl vl la os ov ch hm ow de si fm cm) (wc := ja_wX xh x1 x2 x3 x4 cA sv js jv jd cc oc sd jn fb fl cr) (As := []) (rest := []) ⟨hx, hb, hml, hown, hts⟩ (cX_forget l dC dI xh x1 x2 x3 x4 cA H.size sv js jv jd cc oc sd jn fb fl cr  ) (cwV 0 hts gL_law_X0_forget rfl rfl rfl (by decide +kernel) ⟨Nat.le_of_ble_eq_true rfl, Nat.le_of_ble_eq_true rfl⟩) hK hP hPcX hD hS hA [0, 1, 2, 3, 4] [5, 6, 7, 8, 9, 10, 11, 12] rfl rfl (by decide) (by decide) (by decide) (ja_rcv (ci := 0) (q0 := 0) hK hPcX rfl rfl rfl) rfl hl.1 rfl (Nat.le_of_ble_eq_true rfl) dL_law_127 ⟨hc7, hs7⟩ (fun rX ux H locs hrX hP hD hS => ?_)
      have hP : va_P (dC, dI) vwCl (ja_wM mh m1 m2 m3 m4 m5 m6 m7 cA fd nw sl vl la os ov ch hm ow de si fm cm ++ ja_uX xh x1 x2 x3 x4 cA ux) H := hP
      have hD : va_D A (ja_wM mh m1 m2 m3 m4 m5 m6 m7 cA fd nw sl vl la os ov ch hm ow de si fm cm ++ ja_uX xh x1 x2 x3 x4 cA ux) := hD
      refine lv_aload_n hx hb dL_law_130 rfl (lv_at hl 1 rfl) ?_
      have hPcM := hP.sub (ws' := ja_wM mh m1 m2 m3 m4 m5 m6 m7 cA fd nw sl vl la os ov ch hm ow de si fm cm) [0, 1, 2, 3, 4, 5, 6, 7] rfl
      refine ja_cW (wr := ja_uX xh x1 x2 x3 x4 cA ux) (wc := ja_wM mh m1 m2 m3 m4 m5 m6 m7 cA fd nw sl vl la os ov ch hm ow de si fm cm) (As := []) (rest := [.int rX]) ⟨hx, hb, hml, hown, hts⟩ (cM_forget l dC dI mh m1 m2 m3 m4 m5 m6 m7 cA H.size fd nw sl vl la os ov ch hm ow de si fm cm  ) (cwV 0 hts gL_law_X1_forget rfl rfl rfl (by decide +kernel) ⟨Nat.le_of_ble_eq_true rfl, Nat.le_of_ble_eq_true rfl⟩) hK hP hPcM hD hS hA [0, 1, 2, 3, 4, 5, 6, 7] [8, 9, 10, 11, 12] rfl rfl (by decide) (by decide) (by decide) (ja_rcv (ci := 1) (q0 := 0) hK hPcM rfl rfl rfl) rfl hl.1 rfl (Nat.le_of_ble_eq_true rfl) dL_law_131 ⟨hc7, hs7⟩ (fun rM um H locs hrM hP hD hS => ?_)
      have hP : va_P (dC, dI) vwCl (ja_uX xh x1 x2 x3 x4 cA ux ++ ja_uM mh m1 m2 m3 m4 m5 m6 m7 cA um) H := hP
      have hD : va_D A (ja_uX xh x1 x2 x3 x4 cA ux ++ ja_uM mh m1 m2 m3 m4 m5 m6 m7 cA um) := hD
      obtain ⟨he, hR2⟩ := ja_p_forget hR hrX hrM
      refine lv_icmp_eq hx hb dL_law_134 (tgt := 244) (by decide) (fun h134 => ?_) (fun h134 => ?_)
      · -- iinc
        refine lv_iinc (k := 0) (v := nI (i + 3)) (lv' := [(3, .int (nI (i + 3))), (2, .ref mh), (1, .ref xh), (0, .ref b)]) hx hb dL_law_244 hl rfl (ja_inc3 _) (by decide) rfl (fun ls hl => ?_)
        refine lv_goto (tgt := 18) hx hb dL_law_247 (by decide) ?_
        exact ih (i + 3, ux, um) ls H locs ⟨lv_sub hl [0, 1, 2, 3] rfl, hP, hD, hS, hR2, (show i + 3 ≤ 1536 by omega)⟩ (show 2000 - (i + 3) < 2000 - i by omega)
      · exact absurd he h134
    · refine lv_tableIn (off := 107) (tgt := 139) hx hb dL_law_32 (by decide +kernel) (by decide +kernel) (by decide +kernel) (by decide) ?_
      refine lv_aload_n hx hb dL_law_139 rfl (lv_at hl 2 rfl) ?_
      have hPcX := hP.sub (ws' := ja_wX xh x1 x2 x3 x4 cA sv js jv jd cc oc sd jn fb fl cr) [0, 1, 2, 3, 4] rfl
      refine ja_cW (wr := ja_wM mh m1 m2 m3 m4 m5 m6 m7 cA fd nw sl vl la os ov ch hm ow de si fm cm) (wc := ja_wX xh x1 x2 x3 x4 cA sv js jv jd cc oc sd jn fb fl cr) (As := []) (rest := []) ⟨hx, hb, hml, hown, hts⟩ (cX_flush l dC dI xh x1 x2 x3 x4 cA H.size sv js jv jd cc oc sd jn fb fl cr  q4 q6) (cwV 0 hts gL_law_X0_flush rfl rfl rfl (by decide +kernel) ⟨Nat.le_of_ble_eq_true rfl, Nat.le_of_ble_eq_true rfl⟩) hK hP hPcX hD hS hA [0, 1, 2, 3, 4] [5, 6, 7, 8, 9, 10, 11, 12] rfl rfl (by decide) (by decide) (by decide) (ja_rcv (ci := 0) (q0 := 0) hK hPcX rfl rfl rfl) rfl hl.1 rfl (Nat.le_of_ble_eq_true rfl) dL_law_140 ⟨hc7, hs7⟩ (fun rX ux H locs hrX hP hD hS => ?_)
      have hP : va_P (dC, dI) vwCl (ja_wM mh m1 m2 m3 m4 m5 m6 m7 cA fd nw sl vl la os ov ch hm ow de si fm cm ++ ja_uX xh x1 x2 x3 x4 cA ux) H := hP
      have hD : va_D A (ja_wM mh m1 m2 m3 m4 m5 m6 m7 cA fd nw sl vl la os ov ch hm ow de si fm cm ++ ja_uX xh x1 x2 x3 x4 cA ux) := hD
      refine lv_aload_n hx hb dL_law_143 rfl (lv_at hl 1 rfl) ?_
      have hPcM := hP.sub (ws' := ja_wM mh m1 m2 m3 m4 m5 m6 m7 cA fd nw sl vl la os ov ch hm ow de si fm cm) [0, 1, 2, 3, 4, 5, 6, 7] rfl
      refine ja_cW (wr := ja_uX xh x1 x2 x3 x4 cA ux) (wc := ja_wM mh m1 m2 m3 m4 m5 m6 m7 cA fd nw sl vl la os ov ch hm ow de si fm cm) (As := []) (rest := [.int rX]) ⟨hx, hb, hml, hown, hts⟩ (cM_flush l dC dI mh m1 m2 m3 m4 m5 m6 m7 cA H.size fd nw sl vl la os ov ch hm ow de si fm cm  (by omega)) (cwV 0 hts gL_law_X1_flush rfl rfl rfl (by decide +kernel) ⟨Nat.le_of_ble_eq_true rfl, Nat.le_of_ble_eq_true rfl⟩) hK hP hPcM hD hS hA [0, 1, 2, 3, 4, 5, 6, 7] [8, 9, 10, 11, 12] rfl rfl (by decide) (by decide) (by decide) (ja_rcv (ci := 1) (q0 := 0) hK hPcM rfl rfl rfl) rfl hl.1 rfl (Nat.le_of_ble_eq_true rfl) dL_law_144 ⟨hc7, hs7⟩ (fun rM um H locs hrM hP hD hS => ?_)
      have hP : va_P (dC, dI) vwCl (ja_uX xh x1 x2 x3 x4 cA ux ++ ja_uM mh m1 m2 m3 m4 m5 m6 m7 cA um) H := hP
      have hD : va_D A (ja_uX xh x1 x2 x3 x4 cA ux ++ ja_uM mh m1 m2 m3 m4 m5 m6 m7 cA um) := hD
      obtain ⟨he, hR2⟩ := ja_p_flush hR hrX hrM
      refine lv_icmp_eq hx hb dL_law_147 (tgt := 244) (by decide) (fun h147 => ?_) (fun h147 => ?_)
      · -- iinc
        refine lv_iinc (k := 0) (v := nI (i + 3)) (lv' := [(3, .int (nI (i + 3))), (2, .ref mh), (1, .ref xh), (0, .ref b)]) hx hb dL_law_244 hl rfl (ja_inc3 _) (by decide) rfl (fun ls hl => ?_)
        refine lv_goto (tgt := 18) hx hb dL_law_247 (by decide) ?_
        exact ih (i + 3, ux, um) ls H locs ⟨lv_sub hl [0, 1, 2, 3] rfl, hP, hD, hS, hR2, (show i + 3 ≤ 1536 by omega)⟩ (show 2000 - (i + 3) < 2000 - i by omega)
      · exact absurd he h147
    · refine lv_tableIn (off := 120) (tgt := 152) hx hb dL_law_32 (by decide +kernel) (by decide +kernel) (by decide +kernel) (by decide) ?_
      refine lv_aload_n hx hb dL_law_152 rfl (lv_at hl 2 rfl) ?_
      refine lv_aload_n hx hb dL_law_153 rfl (lv_at hl 3 rfl) ?_
      refine lv_iload_n hx hb dL_law_154 rfl (lv_at hl 0 rfl) ?_
      refine lv_iconst (v := nI 1) hx hb dL_law_155 (by decide +kernel) ?_
      refine lv_iadd hx hb dL_law_156 ?_
      refine ja_top (y := nI (i + 1)) (nI_add _ _) ?_
      refine ja_sld hx hb hX hbl hbA hS (k := (i + 1)) (by omega) (by omega) dL_law_157 ?_
      refine lv_aload_n hx hb dL_law_158 rfl (lv_at hl 3 rfl) ?_
      refine lv_iload_n hx hb dL_law_159 rfl (lv_at hl 0 rfl) ?_
      refine lv_iconst (v := nI 2) hx hb dL_law_160 (by decide +kernel) ?_
      refine lv_iadd hx hb dL_law_161 ?_
      refine ja_top (y := nI (i + 2)) (nI_add _ _) ?_
      refine ja_sld hx hb hX hbl hbA hS (k := (i + 2)) (by omega) (by omega) dL_law_162 ?_
      have hPcX := hP.sub (ws' := ja_wX xh x1 x2 x3 x4 cA sv js jv jd cc oc sd jn fb fl cr) [0, 1, 2, 3, 4] rfl
      refine ja_cW (wr := ja_wM mh m1 m2 m3 m4 m5 m6 m7 cA fd nw sl vl la os ov ch hm ow de si fm cm) (wc := ja_wX xh x1 x2 x3 x4 cA sv js jv jd cc oc sd jn fb fl cr) (As := [.int (xs (i + 1)), .int (xs (i + 2))]) (rest := []) ⟨hx, hb, hml, hown, hts⟩ (cX_crash l dC dI xh x1 x2 x3 x4 cA H.size sv js jv jd cc oc sd jn fb fl cr (xs (i + 1)) (xs (i + 2)) q4 q6) (cwV 2 hts gL_law_X0_crash rfl rfl rfl (by decide +kernel) ⟨Nat.le_of_ble_eq_true rfl, Nat.le_of_ble_eq_true rfl⟩) hK hP hPcX hD hS hA [0, 1, 2, 3, 4] [5, 6, 7, 8, 9, 10, 11, 12] rfl rfl (by decide) (by decide) (by decide) (ja_rcv (ci := 0) (q0 := 0) hK hPcX rfl rfl rfl) rfl hl.1 rfl (Nat.le_of_ble_eq_true rfl) dL_law_163 ⟨hc7, hs7⟩ (fun rX ux H locs hrX hP hD hS => ?_)
      have hP : va_P (dC, dI) vwCl (ja_wM mh m1 m2 m3 m4 m5 m6 m7 cA fd nw sl vl la os ov ch hm ow de si fm cm ++ ja_uX xh x1 x2 x3 x4 cA ux) H := hP
      have hD : va_D A (ja_wM mh m1 m2 m3 m4 m5 m6 m7 cA fd nw sl vl la os ov ch hm ow de si fm cm ++ ja_uX xh x1 x2 x3 x4 cA ux) := hD
      refine lv_aload_n hx hb dL_law_166 rfl (lv_at hl 1 rfl) ?_
      refine lv_aload_n hx hb dL_law_167 rfl (lv_at hl 3 rfl) ?_
      refine lv_iload_n hx hb dL_law_168 rfl (lv_at hl 0 rfl) ?_
      refine lv_iconst (v := nI 1) hx hb dL_law_169 (by decide +kernel) ?_
      refine lv_iadd hx hb dL_law_170 ?_
      refine ja_top (y := nI (i + 1)) (nI_add _ _) ?_
      refine ja_sld hx hb hX hbl hbA hS (k := (i + 1)) (by omega) (by omega) dL_law_171 ?_
      refine lv_aload_n hx hb dL_law_172 rfl (lv_at hl 3 rfl) ?_
      refine lv_iload_n hx hb dL_law_173 rfl (lv_at hl 0 rfl) ?_
      refine lv_iconst (v := nI 2) hx hb dL_law_174 (by decide +kernel) ?_
      refine lv_iadd hx hb dL_law_175 ?_
      refine ja_top (y := nI (i + 2)) (nI_add _ _) ?_
      refine ja_sld hx hb hX hbl hbA hS (k := (i + 2)) (by omega) (by omega) dL_law_176 ?_
      have hPcM := hP.sub (ws' := ja_wM mh m1 m2 m3 m4 m5 m6 m7 cA fd nw sl vl la os ov ch hm ow de si fm cm) [0, 1, 2, 3, 4, 5, 6, 7] rfl
      refine ja_cW (wr := ja_uX xh x1 x2 x3 x4 cA ux) (wc := ja_wM mh m1 m2 m3 m4 m5 m6 m7 cA fd nw sl vl la os ov ch hm ow de si fm cm) (As := [.int (xs (i + 1)), .int (xs (i + 2))]) (rest := [.int rX]) ⟨hx, hb, hml, hown, hts⟩ (cM_crash l dC dI mh m1 m2 m3 m4 m5 m6 m7 cA H.size fd nw sl vl la os ov ch hm ow de si fm cm (xs (i + 1)) (xs (i + 2)) (by omega) q7) (cwV 2 hts gL_law_X1_crash rfl rfl rfl (by decide +kernel) ⟨Nat.le_of_ble_eq_true rfl, Nat.le_of_ble_eq_true rfl⟩) hK hP hPcM hD hS hA [0, 1, 2, 3, 4, 5, 6, 7] [8, 9, 10, 11, 12] rfl rfl (by decide) (by decide) (by decide) (ja_rcv (ci := 1) (q0 := 0) hK hPcM rfl rfl rfl) rfl hl.1 rfl (Nat.le_of_ble_eq_true rfl) dL_law_177 ⟨hc7, hs7⟩ (fun rM um H locs hrM hP hD hS => ?_)
      have hP : va_P (dC, dI) vwCl (ja_uX xh x1 x2 x3 x4 cA ux ++ ja_uM mh m1 m2 m3 m4 m5 m6 m7 cA um) H := hP
      have hD : va_D A (ja_uX xh x1 x2 x3 x4 cA ux ++ ja_uM mh m1 m2 m3 m4 m5 m6 m7 cA um) := hD
      obtain ⟨he, hR2⟩ := ja_p_crash hR hrX hrM
      refine lv_icmp_eq hx hb dL_law_180 (tgt := 244) (by decide) (fun h180 => ?_) (fun h180 => ?_)
      · -- iinc
        refine lv_iinc (k := 0) (v := nI (i + 3)) (lv' := [(3, .int (nI (i + 3))), (2, .ref mh), (1, .ref xh), (0, .ref b)]) hx hb dL_law_244 hl rfl (ja_inc3 _) (by decide) rfl (fun ls hl => ?_)
        refine lv_goto (tgt := 18) hx hb dL_law_247 (by decide) ?_
        exact ih (i + 3, ux, um) ls H locs ⟨lv_sub hl [0, 1, 2, 3] rfl, hP, hD, hS, hR2, (show i + 3 ≤ 1536 by omega)⟩ (show 2000 - (i + 3) < 2000 - i by omega)
      · exact absurd he h180
    · refine lv_tableIn (off := 153) (tgt := 185) hx hb dL_law_32 (by decide +kernel) (by decide +kernel) (by decide +kernel) (by decide) ?_
      refine lv_aload_n hx hb dL_law_185 rfl (lv_at hl 2 rfl) ?_
      refine lv_aload_n hx hb dL_law_186 rfl (lv_at hl 3 rfl) ?_
      refine lv_iload_n hx hb dL_law_187 rfl (lv_at hl 0 rfl) ?_
      refine lv_iconst (v := nI 1) hx hb dL_law_188 (by decide +kernel) ?_
      refine lv_iadd hx hb dL_law_189 ?_
      refine ja_top (y := nI (i + 1)) (nI_add _ _) ?_
      refine ja_sld hx hb hX hbl hbA hS (k := (i + 1)) (by omega) (by omega) dL_law_190 ?_
      have hPcX := hP.sub (ws' := ja_wX xh x1 x2 x3 x4 cA sv js jv jd cc oc sd jn fb fl cr) [0, 1, 2, 3, 4] rfl
      refine ja_cR (As := [.int (xs (i + 1))]) (rest := []) ⟨hx, hb, hml, hown, hts⟩ (cX_get l dC dI xh x1 x2 x3 x4 cA sv js jv jd cc oc sd jn fb fl cr (xs (i + 1)) q4) (cwV 1 hts gL_law_X0_get rfl rfl rfl (by decide +kernel) ⟨Nat.le_of_ble_eq_true rfl, Nat.le_of_ble_eq_true rfl⟩) hK hPcX (ja_rcv (ci := 0) (q0 := 0) hK hPcX rfl rfl rfl) rfl hl.1 rfl (Nat.le_of_ble_eq_true rfl) dL_law_191 ⟨hc7, hs7⟩ (fun rX hrX => ?_)
      refine lv_aload_n hx hb dL_law_194 rfl (lv_at hl 1 rfl) ?_
      refine lv_aload_n hx hb dL_law_195 rfl (lv_at hl 3 rfl) ?_
      refine lv_iload_n hx hb dL_law_196 rfl (lv_at hl 0 rfl) ?_
      refine lv_iconst (v := nI 1) hx hb dL_law_197 (by decide +kernel) ?_
      refine lv_iadd hx hb dL_law_198 ?_
      refine ja_top (y := nI (i + 1)) (nI_add _ _) ?_
      refine ja_sld hx hb hX hbl hbA hS (k := (i + 1)) (by omega) (by omega) dL_law_199 ?_
      have hPcM := hP.sub (ws' := ja_wM mh m1 m2 m3 m4 m5 m6 m7 cA fd nw sl vl la os ov ch hm ow de si fm cm) [5, 6, 7, 8, 9, 10, 11, 12] rfl
      refine ja_cR (As := [.int (xs (i + 1))]) (rest := [.int rX]) ⟨hx, hb, hml, hown, hts⟩ (cM_get l dC dI mh m1 m2 m3 m4 m5 m6 m7 cA fd nw sl vl la os ov ch hm ow de si fm cm (xs (i + 1)) ) (cwV 1 hts gL_law_X1_get rfl rfl rfl (by decide +kernel) ⟨Nat.le_of_ble_eq_true rfl, Nat.le_of_ble_eq_true rfl⟩) hK hPcM (ja_rcv (ci := 1) (q0 := 0) hK hPcM rfl rfl rfl) rfl hl.1 rfl (Nat.le_of_ble_eq_true rfl) dL_law_200 ⟨hc7, hs7⟩ (fun rM hrM => ?_)
      have he : rX = rM := ja_p_get hR hrX hrM
      refine lv_icmp_eq hx hb dL_law_203 (tgt := 244) (by decide) (fun h203 => ?_) (fun h203 => ?_)
      · -- iinc
        refine lv_iinc (k := 0) (v := nI (i + 3)) (lv' := [(3, .int (nI (i + 3))), (2, .ref mh), (1, .ref xh), (0, .ref b)]) hx hb dL_law_244 hl rfl (ja_inc3 _) (by decide) rfl (fun ls hl => ?_)
        refine lv_goto (tgt := 18) hx hb dL_law_247 (by decide) ?_
        exact ih (i + 3, (sv, js, jv, jd, cc, oc, sd, jn, fb, fl, cr), (fd, nw, sl, vl, la, os, ov, ch, hm, ow, de, si, fm, cm)) ls H locs ⟨lv_sub hl [0, 1, 2, 3] rfl, hP, hD, hS, hR, (show i + 3 ≤ 1536 by omega)⟩ (show 2000 - (i + 3) < 2000 - i by omega)
      · exact absurd he h203
    · refine lv_tableIn (off := 176) (tgt := 208) hx hb dL_law_32 (by decide +kernel) (by decide +kernel) (by decide +kernel) (by decide) ?_
      refine lv_aload_n hx hb dL_law_208 rfl (lv_at hl 2 rfl) ?_
      have hPcX := hP.sub (ws' := ja_wX xh x1 x2 x3 x4 cA sv js jv jd cc oc sd jn fb fl cr) [0, 1, 2, 3, 4] rfl
      refine ja_cR (As := []) (rest := []) ⟨hx, hb, hml, hown, hts⟩ (cX_torn l dC dI xh x1 x2 x3 x4 cA sv js jv jd cc oc sd jn fb fl cr  ) (cwV 0 hts gL_law_X0_torn rfl rfl rfl (by decide +kernel) ⟨Nat.le_of_ble_eq_true rfl, Nat.le_of_ble_eq_true rfl⟩) hK hPcX (ja_rcv (ci := 0) (q0 := 0) hK hPcX rfl rfl rfl) rfl hl.1 rfl (Nat.le_of_ble_eq_true rfl) dL_law_209 ⟨hc7, hs7⟩ (fun rX hrX => ?_)
      refine lv_aload_n hx hb dL_law_212 rfl (lv_at hl 1 rfl) ?_
      have hPcM := hP.sub (ws' := ja_wM mh m1 m2 m3 m4 m5 m6 m7 cA fd nw sl vl la os ov ch hm ow de si fm cm) [5, 6, 7, 8, 9, 10, 11, 12] rfl
      refine ja_cR (As := []) (rest := [.int rX]) ⟨hx, hb, hml, hown, hts⟩ (cM_torn l dC dI mh m1 m2 m3 m4 m5 m6 m7 cA fd nw sl vl la os ov ch hm ow de si fm cm  ) (cwV 0 hts gL_law_X1_torn rfl rfl rfl (by decide +kernel) ⟨Nat.le_of_ble_eq_true rfl, Nat.le_of_ble_eq_true rfl⟩) hK hPcM (ja_rcv (ci := 1) (q0 := 0) hK hPcM rfl rfl rfl) rfl hl.1 rfl (Nat.le_of_ble_eq_true rfl) dL_law_213 ⟨hc7, hs7⟩ (fun rM hrM => ?_)
      have he : rX = rM := hrX.trans hrM.symm
      refine lv_icmp_eq hx hb dL_law_216 (tgt := 244) (by decide) (fun h216 => ?_) (fun h216 => ?_)
      · -- iinc
        refine lv_iinc (k := 0) (v := nI (i + 3)) (lv' := [(3, .int (nI (i + 3))), (2, .ref mh), (1, .ref xh), (0, .ref b)]) hx hb dL_law_244 hl rfl (ja_inc3 _) (by decide) rfl (fun ls hl => ?_)
        refine lv_goto (tgt := 18) hx hb dL_law_247 (by decide) ?_
        exact ih (i + 3, (sv, js, jv, jd, cc, oc, sd, jn, fb, fl, cr), (fd, nw, sl, vl, la, os, ov, ch, hm, ow, de, si, fm, cm)) ls H locs ⟨lv_sub hl [0, 1, 2, 3] rfl, hP, hD, hS, hR, (show i + 3 ≤ 1536 by omega)⟩ (show 2000 - (i + 3) < 2000 - i by omega)
      · exact absurd he h216
    · refine lv_tableIn (off := 189) (tgt := 221) hx hb dL_law_32 (by decide +kernel) (by decide +kernel) (by decide +kernel) (by decide) ?_
      refine lv_aload_n hx hb dL_law_221 rfl (lv_at hl 2 rfl) ?_
      refine lv_aload_n hx hb dL_law_222 rfl (lv_at hl 3 rfl) ?_
      refine lv_iload_n hx hb dL_law_223 rfl (lv_at hl 0 rfl) ?_
      refine lv_iconst (v := nI 1) hx hb dL_law_224 (by decide +kernel) ?_
      refine lv_iadd hx hb dL_law_225 ?_
      refine ja_top (y := nI (i + 1)) (nI_add _ _) ?_
      refine ja_sld hx hb hX hbl hbA hS (k := (i + 1)) (by omega) (by omega) dL_law_226 ?_
      have hPcX := hP.sub (ws' := ja_wX xh x1 x2 x3 x4 cA sv js jv jd cc oc sd jn fb fl cr) [0, 1, 2, 3, 4] rfl
      refine ja_cR (As := [.int (xs (i + 1))]) (rest := []) ⟨hx, hb, hml, hown, hts⟩ (cX_count l dC dI xh x1 x2 x3 x4 cA sv js jv jd cc oc sd jn fb fl cr (xs (i + 1)) ) (cwV 1 hts gL_law_X0_count rfl rfl rfl (by decide +kernel) ⟨Nat.le_of_ble_eq_true rfl, Nat.le_of_ble_eq_true rfl⟩) hK hPcX (ja_rcv (ci := 0) (q0 := 0) hK hPcX rfl rfl rfl) rfl hl.1 rfl (Nat.le_of_ble_eq_true rfl) dL_law_227 ⟨hc7, hs7⟩ (fun rX hrX => ?_)
      refine lv_aload_n hx hb dL_law_230 rfl (lv_at hl 1 rfl) ?_
      refine lv_aload_n hx hb dL_law_231 rfl (lv_at hl 3 rfl) ?_
      refine lv_iload_n hx hb dL_law_232 rfl (lv_at hl 0 rfl) ?_
      refine lv_iconst (v := nI 1) hx hb dL_law_233 (by decide +kernel) ?_
      refine lv_iadd hx hb dL_law_234 ?_
      refine ja_top (y := nI (i + 1)) (nI_add _ _) ?_
      refine ja_sld hx hb hX hbl hbA hS (k := (i + 1)) (by omega) (by omega) dL_law_235 ?_
      have hPcM := hP.sub (ws' := ja_wM mh m1 m2 m3 m4 m5 m6 m7 cA fd nw sl vl la os ov ch hm ow de si fm cm) [5, 6, 7, 8, 9, 10, 11, 12] rfl
      refine ja_cR (As := [.int (xs (i + 1))]) (rest := [.int rX]) ⟨hx, hb, hml, hown, hts⟩ (cM_count l dC dI mh m1 m2 m3 m4 m5 m6 m7 cA fd nw sl vl la os ov ch hm ow de si fm cm (xs (i + 1)) ) (cwV 1 hts gL_law_X1_count rfl rfl rfl (by decide +kernel) ⟨Nat.le_of_ble_eq_true rfl, Nat.le_of_ble_eq_true rfl⟩) hK hPcM (ja_rcv (ci := 1) (q0 := 0) hK hPcM rfl rfl rfl) rfl hl.1 rfl (Nat.le_of_ble_eq_true rfl) dL_law_236 ⟨hc7, hs7⟩ (fun rM hrM => ?_)
      have he : rX = rM := ja_p_count hR hrX hrM
      refine lv_icmp_eq hx hb dL_law_239 (tgt := 244) (by decide) (fun h239 => ?_) (fun h239 => ?_)
      · -- iinc
        refine lv_iinc (k := 0) (v := nI (i + 3)) (lv' := [(3, .int (nI (i + 3))), (2, .ref mh), (1, .ref xh), (0, .ref b)]) hx hb dL_law_244 hl rfl (ja_inc3 _) (by decide) rfl (fun ls hl => ?_)
        refine lv_goto (tgt := 18) hx hb dL_law_247 (by decide) ?_
        exact ih (i + 3, (sv, js, jv, jd, cc, oc, sd, jn, fb, fl, cr), (fd, nw, sl, vl, la, os, ov, ch, hm, ow, de, si, fm, cm)) ls H locs ⟨lv_sub hl [0, 1, 2, 3] rfl, hP, hD, hS, hR, (show i + 3 ≤ 1536 by omega)⟩ (show 2000 - (i + 3) < 2000 - i by omega)
      · exact absurd he h239
end
section
set_option maxHeartbeats 4000000 in
theorem lw_walk (l : Launch) (b : Addr) (xs : List Int32) : MetFree l x (headSpec (Jvm.Cond.code x code maxLocals ret :: tables_1) room_1) (lw_P b xs) (fun _ _ _ _ _ => True) lw_Q := by
  refine MetFree.of_bodyS (code := code) (maxLocals := maxLocals) (ret := ret) (by decide) ?_ ?_
  · intro args s m h hn
    obtain ⟨meth, c, h1, h2, h3, h4, h5, h6, -, -⟩ := Cond.code_spec hn (atoms_spec (ws := Jvm.Cond.code x code maxLocals ret :: tables_1) h _ List.mem_cons_self)
    exact ⟨meth, c, h1, h2, h3, h4, h5, h6⟩
  · intro p e s m args below meth c s₁ B hml0 hP _
    obtain ⟨rfl, hx, hbd, hgv⟩ := hP
    obtain ⟨scr, harrAt, hlist, hof, hsmall⟩ := hx
    obtain ⟨hcb, hkn, -, -⟩ := State.arrayAt?_spec harrAt
    have hown : s.vm.findClass R_law = some m.cls := findClass_of_methodNamed B.named
    have hts0 : ∀ c ∈ (Jvm.Cond.code x code maxLocals ret :: tables_1), c.before #[Value.ref b] s = true := atoms_spec (ws := Jvm.Cond.code x code maxLocals ret :: tables_1) B.pre
    have hts : ∀ w ∈ lw_tbl, w.before #[Value.ref b] s = true := k2_hts_sels lw_privs (fun w hw => hts0 w (List.mem_cons_of_mem _ hw)) lw_privs_ok
    have hml : c.maxLocals = 4 := B.maxLocals_eq (hts0 _ List.mem_cons_self)
    have X₀ : Stand p l e room_1 s m #[Value.ref b] below meth c s₁ [] 0 0 := Stand.of_body B
    have hh0 : s₁.heap = s.heap := by rw [B.state]; rfl
    have hsz : scr.slots.size = xs.length := by rw [← Array.length_toList, hlist, List.length_map]
    have hval : ∀ j : Nat, j < xs.length → scr.slots[j]? = some (.int (xs.getD j 0)) := fun j hj => by
      rw [← Array.getElem?_toList, hlist]
      simp [hj]
    have hbl : b < s.heap.size := (Array.getElem?_eq_some_iff.mp hcb).1
    have hX : va_X b xs.length (fun j => xs.getD j 0) s s.heap := ⟨scr, hcb, hof, hkn, hsz, hval⟩
    have K : W p l e room_1 s m #[Value.ref b] below meth c s₁.heap [] 0 0 (lw_Z below #[Value.ref b] s) (entryFrame m ([Value.ref b] : List Value).toArray 4) := by
      rw [hh0]
      exact whole_start l hbd ⟨B.exec, B.bytes, B.returns, hml, hown, hts, hX, hbl, B.notSynchronized, hgv⟩
    obtain ⟨t, a1, o, b1, b2, b3⟩ := K s₁ rfl X₀
    exact ⟨t, o, a1, b1, b2, b3⟩
theorem lw_pre_spec {args : Array Value} {s : State} (h : (Jvm.Cond.and given_1 narrow_1).before args s = true) (hr : rest_1_c.before args s = true) : ∃ (b : Addr) (xs : List Int32), lw_P b xs args s := by
  have hs := flat_of_before _ h
  have hq := flat_of_before _ hr
  have hc : (Cond.count 1).before args s = true := hs _ (by decide +kernel)
  have harr : (Cond.arrayOf (.arg 0) .int).before args s = true := hs _ (by decide +kernel)
  have hle : (Cond.le (.length (.arg 0)) (.int 1536)).before args s = true := hs _ (by decide +kernel)
  have hlen : (Cond.isInt (.length (.arg 0))).before args s = true := hq _ (by decide +kernel)
  have hall : (Cond.all (.arg 0) (.isInt (.elem (.arg 0) (.index 0)))).before args s = true := hq _ (by decide +kernel)
  obtain ⟨b, xs, hb, hx⟩ := State.ints_of_pre rfl harr hlen hall
  have hsm : xs.length < 2 ^ 31 := hx.choose_spec.2.2.2
  have hev : (Term.length (.arg 0)).eval args s none [] s = some (.int xs.length.toInt32) := hx.length_eval hb
  have hv := Cond.le_ints hev (show (Term.int 1536).eval args s none [] s = some (.int 1536) from rfl)
  have hd : xs.length.toInt32 ≤ 1536 := by
    simpa [Cond.before, Cond.holds, hv] using hle
  have hN : xs.length ≤ 1536 := (Int32.ofNat_le_ofNat hsm (by decide)).mp (show Int32.ofNat xs.length ≤ Int32.ofNat 1536 from hd)
  exact ⟨b, xs, Cond.one_arg hc (show args[0]? = some (.ref b) from hb), hx, hN, h⟩
theorem lw_comes (l : Launch) : Comes l x (Jvm.Cond.code x code maxLocals ret :: tables_1) room_1 (fun tb e args s => Calls_1 tb e args s ∧ rest_1 tb e args s ∧ Pre_1 tb e args s)
    (fun _ _ args s o t => lw_Q args s o t) := by
  intro p e ha hc hk s m args below hf hfit hheap happ hpre
  obtain ⟨b, xs, hP⟩ := lw_pre_spec hpre.2.2 hpre.2.1
  obtain ⟨k, o, h1, h2, h3, hQ⟩ := lw_walk l b xs p e ha hc hk s m args below hf ((Spec.applies_iff_loose hf).mp happ).1 hP trivial
  exact ⟨k, o, h1, h2, h3, hQ⟩
theorem lw_frame {s t : State} {o : Outcome} {args : Array Value} (h : Framed s o t [] 13 839) :
    Framed s o t (fieldLocs frame_1_writes args s ++ arrayLocs frame_1_arrays args s ++ staticLocs frame_1_statics s) 13 839 := h
theorem lw_limb (L : Cond) (hL : ∀ (args : Array Value) (s t : State), L.after args s (.returned (some (.int 1))) t = true) :
    ArmFor flags0 classFile x code maxLocals ret World_1 tables_1 room_1 Calls_1 rest_1 Pre_1
      (fun tb e a s o t => postC L tb e a s o t ∧ Framed s o t (fieldLocs frame_1_writes a s ++ arrayLocs frame_1_arrays a s ++ staticLocs frame_1_statics s) 13 839) := by
  intro l _ _ _ p e ha hc hk s m args below hf hfit hheap happ hpre
  obtain ⟨k, o, h1, h2, h3, rfl, hF⟩ := lw_comes l p e ha hc hk s m args below hf hfit hheap happ hpre
  exact ⟨k, _, h1, h2, h3, hL args s _, lw_frame hF⟩
theorem i_vc : Claimed_1_1 ∧ Claimed_1_2 := ⟨lw_limb limb_1_1 (fun args s t => by simp [limb_1_1, Cond.after, Cond.holds, Cond.value]), lw_limb limb_1_2 (fun args s t => Cond.after_iff.mpr (by
  first | (rw [show limb_1_2 = Cond.eq .result (.int 1) from rfl, Cond.eq_ints (x := 1) (y := 1) rfl rfl]; simp; done) | (simp [limb_1_2, Cond.value, Term.eval]; done)))⟩
end
