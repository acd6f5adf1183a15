section
-- ===== PART A: goes FIRST, ahead of the names: the tables' words, and 'selects' of the private methods out of them =====
/-- a private method of a class that the tables say can be made, by its rows of tables_1 -/
def lw_okq (q : MethodName × Nat) : Prop := (q.1.cls ≠ "java/lang/invoke/MethodHandle" ∧ q.1.cls ≠ "java/lang/invoke/VarHandle") ∧ Cond.instantiable q.1.cls q.2 ∈ tables_1 ∧ Cond.privateMethod q.1 ∈ tables_1 ∧ Cond.instanceMethod q.1 ∈ tables_1
theorem lw_p0 : lw_okq (⟨"PoolDesk$Keys", "isOf", "(ILPoolDesk$Name;)Z"⟩, 3) := ⟨⟨by decide +kernel, by decide +kernel⟩, List.mem_of_getElem? (i := 46) (by decide +kernel), List.mem_of_getElem? (i := 181) (by decide +kernel), List.mem_of_getElem? (i := 182) (by decide +kernel)⟩
theorem lw_p1 : lw_okq (⟨"PoolDesk$Pool", "isSpent", "(LPoolDesk$Keys;)Z"⟩, 3) := ⟨⟨by decide +kernel, by decide +kernel⟩, List.mem_of_getElem? (i := 66) (by decide +kernel), List.mem_of_getElem? (i := 215) (by decide +kernel), List.mem_of_getElem? (i := 216) (by decide +kernel)⟩
theorem lw_p2 : lw_okq (⟨"PoolDesk$Keys", "sameName", "(ILPoolDesk$Keys;I)Z"⟩, 3) := ⟨⟨by decide +kernel, by decide +kernel⟩, List.mem_of_getElem? (i := 46) (by decide +kernel), List.mem_of_getElem? (i := 223) (by decide +kernel), List.mem_of_getElem? (i := 224) (by decide +kernel)⟩
theorem lw_p3 : lw_okq (⟨"PoolDesk$Pool", "missesOutput", "(LPoolDesk$Name;LPoolDesk$Keys;I)Z"⟩, 3) := ⟨⟨by decide +kernel, by decide +kernel⟩, List.mem_of_getElem? (i := 66) (by decide +kernel), List.mem_of_getElem? (i := 227) (by decide +kernel), List.mem_of_getElem? (i := 228) (by decide +kernel)⟩
theorem lw_p4 : lw_okq (⟨"PoolDesk$Pool", "hangsOnItself", "(LPoolDesk$Name;LPoolDesk$Keys;)Z"⟩, 3) := ⟨⟨by decide +kernel, by decide +kernel⟩, List.mem_of_getElem? (i := 66) (by decide +kernel), List.mem_of_getElem? (i := 235) (by decide +kernel), List.mem_of_getElem? (i := 236) (by decide +kernel)⟩
theorem lw_p5 : lw_okq (⟨"PoolDesk$Pool", "spendersOf", "(LPoolDesk$Name;)J"⟩, 3) := ⟨⟨by decide +kernel, by decide +kernel⟩, List.mem_of_getElem? (i := 66) (by decide +kernel), List.mem_of_getElem? (i := 243) (by decide +kernel), List.mem_of_getElem? (i := 244) (by decide +kernel)⟩
theorem lw_p6 : lw_okq (⟨"PoolDesk$Pool", "named", "(LPoolDesk$Keys;)J"⟩, 3) := ⟨⟨by decide +kernel, by decide +kernel⟩, List.mem_of_getElem? (i := 66) (by decide +kernel), List.mem_of_getElem? (i := 262) (by decide +kernel), List.mem_of_getElem? (i := 263) (by decide +kernel)⟩
theorem lw_p7 : lw_okq (⟨"PoolDesk", "letIn", "(JII)I"⟩, 4) := ⟨⟨by decide +kernel, by decide +kernel⟩, List.mem_of_getElem? (i := 11) (by decide +kernel), List.mem_of_getElem? (i := 266) (by decide +kernel), List.mem_of_getElem? (i := 267) (by decide +kernel)⟩
theorem lw_p8 : lw_okq (⟨"PoolDesk", "removeFamily", "(I)I"⟩, 4) := ⟨⟨by decide +kernel, by decide +kernel⟩, List.mem_of_getElem? (i := 11) (by decide +kernel), List.mem_of_getElem? (i := 308) (by decide +kernel), List.mem_of_getElem? (i := 309) (by decide +kernel)⟩
theorem lw_p9 : lw_okq (⟨"PoolDeskModel", "come", "(I)I"⟩, 17) := ⟨⟨by decide +kernel, by decide +kernel⟩, List.mem_of_getElem? (i := 387) (by decide +kernel), List.mem_of_getElem? (i := 459) (by decide +kernel), List.mem_of_getElem? (i := 460) (by decide +kernel)⟩
theorem lw_p10 : lw_okq (⟨"PoolDeskModel", "find", "()I"⟩, 17) := ⟨⟨by decide +kernel, by decide +kernel⟩, List.mem_of_getElem? (i := 387) (by decide +kernel), List.mem_of_getElem? (i := 463) (by decide +kernel), List.mem_of_getElem? (i := 464) (by decide +kernel)⟩
theorem lw_p11 : lw_okq (⟨"PoolDeskModel", "isNamed", "(I)Z"⟩, 17) := ⟨⟨by decide +kernel, by decide +kernel⟩, List.mem_of_getElem? (i := 387) (by decide +kernel), List.mem_of_getElem? (i := 467) (by decide +kernel), List.mem_of_getElem? (i := 468) (by decide +kernel)⟩
theorem lw_p12 : lw_okq (⟨"PoolDeskModel", "clash", "(II)Z"⟩, 17) := ⟨⟨by decide +kernel, by decide +kernel⟩, List.mem_of_getElem? (i := 387) (by decide +kernel), List.mem_of_getElem? (i := 471) (by decide +kernel), List.mem_of_getElem? (i := 472) (by decide +kernel)⟩
theorem lw_p13 : lw_okq (⟨"PoolDeskModel", "sameKey", "(IIII)Z"⟩, 17) := ⟨⟨by decide +kernel, by decide +kernel⟩, List.mem_of_getElem? (i := 387) (by decide +kernel), List.mem_of_getElem? (i := 475) (by decide +kernel), List.mem_of_getElem? (i := 476) (by decide +kernel)⟩
theorem lw_p14 : lw_okq (⟨"PoolDeskModel", "misses", "(II)Z"⟩, 17) := ⟨⟨by decide +kernel, by decide +kernel⟩, List.mem_of_getElem? (i := 387) (by decide +kernel), List.mem_of_getElem? (i := 479) (by decide +kernel), List.mem_of_getElem? (i := 480) (by decide +kernel)⟩
theorem lw_p15 : lw_okq (⟨"PoolDeskModel", "hasName", "(III)Z"⟩, 17) := ⟨⟨by decide +kernel, by decide +kernel⟩, List.mem_of_getElem? (i := 387) (by decide +kernel), List.mem_of_getElem? (i := 483) (by decide +kernel), List.mem_of_getElem? (i := 484) (by decide +kernel)⟩
def lw_privs_1 : List (MethodName × Nat) := [(⟨"PoolDesk$Keys", "isOf", "(ILPoolDesk$Name;)Z"⟩, 3), (⟨"PoolDesk$Pool", "isSpent", "(LPoolDesk$Keys;)Z"⟩, 3), (⟨"PoolDesk$Keys", "sameName", "(ILPoolDesk$Keys;I)Z"⟩, 3), (⟨"PoolDesk$Pool", "missesOutput", "(LPoolDesk$Name;LPoolDesk$Keys;I)Z"⟩, 3), (⟨"PoolDesk$Pool", "hangsOnItself", "(LPoolDesk$Name;LPoolDesk$Keys;)Z"⟩, 3), (⟨"PoolDesk$Pool", "spendersOf", "(LPoolDesk$Name;)J"⟩, 3), (⟨"PoolDesk$Pool", "named", "(LPoolDesk$Keys;)J"⟩, 3), (⟨"PoolDesk", "letIn", "(JII)I"⟩, 4), (⟨"PoolDesk", "removeFamily", "(I)I"⟩, 4), (⟨"PoolDeskModel", "come", "(I)I"⟩, 17), (⟨"PoolDeskModel", "find", "()I"⟩, 17), (⟨"PoolDeskModel", "isNamed", "(I)Z"⟩, 17), (⟨"PoolDeskModel", "clash", "(II)Z"⟩, 17), (⟨"PoolDeskModel", "sameKey", "(IIII)Z"⟩, 17), (⟨"PoolDeskModel", "misses", "(II)Z"⟩, 17), (⟨"PoolDeskModel", "hasName", "(III)Z"⟩, 17)]
theorem lw_r1 : ∀ q ∈ lw_privs_1, lw_okq q := List.forall_mem_cons.mpr ⟨lw_p0, List.forall_mem_cons.mpr ⟨lw_p1, List.forall_mem_cons.mpr ⟨lw_p2, List.forall_mem_cons.mpr ⟨lw_p3, List.forall_mem_cons.mpr ⟨lw_p4, List.forall_mem_cons.mpr ⟨lw_p5, List.forall_mem_cons.mpr ⟨lw_p6, List.forall_mem_cons.mpr ⟨lw_p7, List.forall_mem_cons.mpr ⟨lw_p8, List.forall_mem_cons.mpr ⟨lw_p9, List.forall_mem_cons.mpr ⟨lw_p10, List.forall_mem_cons.mpr ⟨lw_p11, List.forall_mem_cons.mpr ⟨lw_p12, List.forall_mem_cons.mpr ⟨lw_p13, List.forall_mem_cons.mpr ⟨lw_p14, List.forall_mem_cons.mpr ⟨lw_p15, fun _ h => absurd h List.not_mem_nil⟩⟩⟩⟩⟩⟩⟩⟩⟩⟩⟩⟩⟩⟩⟩⟩
theorem lw_p16 : lw_okq (⟨"PoolDeskModel", "family", "(II)V"⟩, 17) := ⟨⟨by decide +kernel, by decide +kernel⟩, List.mem_of_getElem? (i := 387) (by decide +kernel), List.mem_of_getElem? (i := 487) (by decide +kernel), List.mem_of_getElem? (i := 488) (by decide +kernel)⟩
theorem lw_p17 : lw_okq (⟨"PoolDeskModel", "hangs", "(II)Z"⟩, 17) := ⟨⟨by decide +kernel, by decide +kernel⟩, List.mem_of_getElem? (i := 387) (by decide +kernel), List.mem_of_getElem? (i := 491) (by decide +kernel), List.mem_of_getElem? (i := 492) (by decide +kernel)⟩
theorem lw_p18 : lw_okq (⟨"PoolDeskModel", "copy", "(II)V"⟩, 17) := ⟨⟨by decide +kernel, by decide +kernel⟩, List.mem_of_getElem? (i := 387) (by decide +kernel), List.mem_of_getElem? (i := 495) (by decide +kernel), List.mem_of_getElem? (i := 496) (by decide +kernel)⟩
theorem lw_p19 : lw_okq (⟨"PoolDeskModel", "least", "()I"⟩, 17) := ⟨⟨by decide +kernel, by decide +kernel⟩, List.mem_of_getElem? (i := 387) (by decide +kernel), List.mem_of_getElem? (i := 499) (by decide +kernel), List.mem_of_getElem? (i := 500) (by decide +kernel)⟩
theorem lw_p20 : lw_okq (⟨"PoolDeskModel", "feesOf", "(Z)J"⟩, 17) := ⟨⟨by decide +kernel, by decide +kernel⟩, List.mem_of_getElem? (i := 387) (by decide +kernel), List.mem_of_getElem? (i := 503) (by decide +kernel), List.mem_of_getElem? (i := 504) (by decide +kernel)⟩
theorem lw_p21 : lw_okq (⟨"PoolDeskModel", "sizesOf", "(Z)J"⟩, 17) := ⟨⟨by decide +kernel, by decide +kernel⟩, List.mem_of_getElem? (i := 387) (by decide +kernel), List.mem_of_getElem? (i := 507) (by decide +kernel), List.mem_of_getElem? (i := 508) (by decide +kernel)⟩
theorem lw_p22 : lw_okq (⟨"PoolDeskModel", "remove", "()I"⟩, 17) := ⟨⟨by decide +kernel, by decide +kernel⟩, List.mem_of_getElem? (i := 387) (by decide +kernel), List.mem_of_getElem? (i := 514) (by decide +kernel), List.mem_of_getElem? (i := 515) (by decide +kernel)⟩
theorem lw_p23 : lw_okq (⟨"PoolDeskModel", "kin", "(IZ)I"⟩, 17) := ⟨⟨by decide +kernel, by decide +kernel⟩, List.mem_of_getElem? (i := 387) (by decide +kernel), List.mem_of_getElem? (i := 535) (by decide +kernel), List.mem_of_getElem? (i := 536) (by decide +kernel)⟩
theorem lw_p24 : lw_okq (⟨"PoolDeskModel", "isFree", "(I)Z"⟩, 17) := ⟨⟨by decide +kernel, by decide +kernel⟩, List.mem_of_getElem? (i := 387) (by decide +kernel), List.mem_of_getElem? (i := 543) (by decide +kernel), List.mem_of_getElem? (i := 544) (by decide +kernel)⟩
def lw_privs_2 : List (MethodName × Nat) := [(⟨"PoolDeskModel", "family", "(II)V"⟩, 17), (⟨"PoolDeskModel", "hangs", "(II)Z"⟩, 17), (⟨"PoolDeskModel", "copy", "(II)V"⟩, 17), (⟨"PoolDeskModel", "least", "()I"⟩, 17), (⟨"PoolDeskModel", "feesOf", "(Z)J"⟩, 17), (⟨"PoolDeskModel", "sizesOf", "(Z)J"⟩, 17), (⟨"PoolDeskModel", "remove", "()I"⟩, 17), (⟨"PoolDeskModel", "kin", "(IZ)I"⟩, 17), (⟨"PoolDeskModel", "isFree", "(I)Z"⟩, 17)]
theorem lw_r2 : ∀ q ∈ lw_privs_2, lw_okq q := List.forall_mem_cons.mpr ⟨lw_p16, List.forall_mem_cons.mpr ⟨lw_p17, List.forall_mem_cons.mpr ⟨lw_p18, List.forall_mem_cons.mpr ⟨lw_p19, List.forall_mem_cons.mpr ⟨lw_p20, List.forall_mem_cons.mpr ⟨lw_p21, List.forall_mem_cons.mpr ⟨lw_p22, List.forall_mem_cons.mpr ⟨lw_p23, List.forall_mem_cons.mpr ⟨lw_p24, fun _ h => absurd h List.not_mem_nil⟩⟩⟩⟩⟩⟩⟩⟩⟩
def lw_privs : List (MethodName × Nat) := lw_privs_1 ++ (lw_privs_2)
def lw_tbl : List Cond := k2_sels lw_privs ++ tables_1
theorem lw_privs_ok : ∀ q ∈ lw_privs, lw_okq q := by
  show ∀ q ∈ lw_privs_1 ++ (lw_privs_2), lw_okq q
  exact List.forall_mem_append.mpr ⟨lw_r1, lw_r2⟩
/-! Names, by program (wip/gen/names.py) out of the tables: classes, fields, methods, nest links. -/
def F_Name : u_T := fun k => match k with
  | 0 => ("PoolDesk$Name", "a", "J", false)
  | 1 => ("PoolDesk$Name", "b", "J", false)
  | 2 => ("PoolDesk$Name", "c", "J", false)
  | _ => ("PoolDesk$Name", "d", "J", false)
def t_Name : Nat → FieldType := fun k => match k with
  | 0 => .long
  | 1 => .long
  | 2 => .long
  | _ => .long
def F_Keys : u_T := fun k => match k with
  | 0 => ("PoolDesk$Keys", "words", "[J", true)
  | 1 => ("PoolDesk$Keys", "indexes", "[I", true)
  | _ => ("PoolDesk$Keys", "held", "I", false)
def t_Keys : Nat → FieldType := fun k => match k with
  | 0 => .array .long
  | 1 => .array .int
  | _ => .int
def F_Tx : u_T := fun k => match k with
  | 0 => ("PoolDesk$Transaction", "ownName", "LPoolDesk$Name;", true)
  | 1 => ("PoolDesk$Transaction", "keys", "LPoolDesk$Keys;", true)
  | 2 => ("PoolDesk$Transaction", "fee", "J", false)
  | 3 => ("PoolDesk$Transaction", "size", "I", false)
  | 4 => ("PoolDesk$Transaction", "outputs", "I", false)
  | 5 => ("PoolDesk$Transaction", "coming", "I", false)
  | 6 => ("PoolDesk$Transaction", "parents", "J", false)
  | _ => ("PoolDesk$Transaction", "children", "J", false)
def t_Tx : Nat → FieldType := fun k => match k with
  | 0 => .object "PoolDesk$Name"
  | 1 => .object "PoolDesk$Keys"
  | 2 => .long
  | 3 => .int
  | 4 => .int
  | 5 => .int
  | 6 => .long
  | _ => .long
def F_Pool : u_T := fun k => match k with
  | 0 => ("PoolDesk$Pool", "places", "[LPoolDesk$Transaction;", true)
  | 1 => ("PoolDesk$Pool", "present", "J", false)
  | _ => ("PoolDesk$Pool", "came", "I", false)
def t_Pool : Nat → FieldType := fun k => match k with
  | 0 => .array (.object "PoolDesk$Transaction")
  | 1 => .long
  | _ => .int
def F_Row : u_T := fun k => match k with
  | 0 => ("PoolDesk$Row", "words", "[J", true)
  | _ => ("PoolDesk$Row", "length", "I", false)
def t_Row : Nat → FieldType := fun k => match k with
  | 0 => .array .long
  | _ => .int
def F_Desk : u_T := fun k => match k with
  | 0 => ("PoolDesk", "hand", "LPoolDesk$Name;", true)
  | 1 => ("PoolDesk", "told", "LPoolDesk$Keys;", true)
  | 2 => ("PoolDesk", "pool", "LPoolDesk$Pool;", true)
  | _ => ("PoolDesk", "block", "LPoolDesk$Row;", true)
def t_Desk : Nat → FieldType := fun k => match k with
  | 0 => .object "PoolDesk$Name"
  | 1 => .object "PoolDesk$Keys"
  | 2 => .object "PoolDesk$Pool"
  | _ => .object "PoolDesk$Row"
def F_Model : u_T := fun k => match k with
  | 0 => ("PoolDeskModel", "size", "I", false)
  | 1 => ("PoolDeskModel", "names", "[J", true)
  | 2 => ("PoolDeskModel", "spends", "[I", true)
  | 3 => ("PoolDeskModel", "keys", "[J", true)
  | 4 => ("PoolDeskModel", "indexes", "[I", true)
  | 5 => ("PoolDeskModel", "fees", "[J", true)
  | 6 => ("PoolDeskModel", "sizes", "[I", true)
  | 7 => ("PoolDeskModel", "outputs", "[I", true)
  | 8 => ("PoolDeskModel", "coming", "[I", true)
  | 9 => ("PoolDeskModel", "came", "I", false)
  | 10 => ("PoolDeskModel", "name", "[J", true)
  | 11 => ("PoolDeskModel", "told", "I", false)
  | 12 => ("PoolDeskModel", "toldKeys", "[J", true)
  | 13 => ("PoolDeskModel", "toldIndexes", "[I", true)
  | 14 => ("PoolDeskModel", "marks", "[Z", true)
  | 15 => ("PoolDeskModel", "row", "[J", true)
  | _ => ("PoolDeskModel", "rowSize", "I", false)
def t_Model : Nat → FieldType := fun k => match k with
  | 0 => .int
  | 1 => .array .long
  | 2 => .array .int
  | 3 => .array .long
  | 4 => .array .int
  | 5 => .array .long
  | 6 => .array .int
  | 7 => .array .int
  | 8 => .array .int
  | 9 => .int
  | 10 => .array .long
  | 11 => .int
  | 12 => .array .long
  | 13 => .array .int
  | 14 => .array .boolean
  | 15 => .array .long
  | _ => .int
abbrev classes : List vw_C := [("PoolDesk$Name", F_Name, 4), ("PoolDesk$Keys", F_Keys, 3), ("PoolDesk$Transaction", F_Tx, 8), ("PoolDesk$Pool", F_Pool, 3), ("PoolDesk$Row", F_Row, 2), ("PoolDesk", F_Desk, 4), ("PoolDeskModel", F_Model, 17)]
abbrev ma_tys : List FieldType := [.int, .long, .object "PoolDesk$Transaction", .boolean]
def y_Desk_init : MethodName := ⟨"PoolDesk", "<init>", "()V"⟩
abbrev M_Desk_init : MethodName × ByteArray × Nat × Option FieldType := (y_Desk_init, prog_1_method_1_code, 1, none)
def y_Name_init : MethodName := ⟨"PoolDesk$Name", "<init>", "()V"⟩
abbrev M_Name_init : MethodName × ByteArray × Nat × Option FieldType := (y_Name_init, prog_3_method_1_code, 1, none)
def y_Keys_init : MethodName := ⟨"PoolDesk$Keys", "<init>", "()V"⟩
abbrev M_Keys_init : MethodName × ByteArray × Nat × Option FieldType := (y_Keys_init, prog_2_method_1_code, 1, none)
def y_Pool_init : MethodName := ⟨"PoolDesk$Pool", "<init>", "()V"⟩
abbrev M_Pool_init : MethodName × ByteArray × Nat × Option FieldType := (y_Pool_init, prog_4_method_1_code, 2, none)
def y_Tx_init : MethodName := ⟨"PoolDesk$Transaction", "<init>", "()V"⟩
abbrev M_Tx_init : MethodName × ByteArray × Nat × Option FieldType := (y_Tx_init, prog_6_method_1_code, 1, none)
def y_Row_init : MethodName := ⟨"PoolDesk$Row", "<init>", "()V"⟩
abbrev M_Row_init : MethodName × ByteArray × Nat × Option FieldType := (y_Row_init, prog_5_method_1_code, 1, none)
def y_Desk_name : MethodName := ⟨"PoolDesk", "name", "(JJJJ)V"⟩
abbrev M_Desk_name : MethodName × ByteArray × Nat × Option FieldType := (y_Desk_name, prog_1_method_2_code, 9, none)
def y_Name_set : MethodName := ⟨"PoolDesk$Name", "set", "(JJJJ)V"⟩
abbrev M_Name_set : MethodName × ByteArray × Nat × Option FieldType := (y_Name_set, prog_3_method_2_code, 9, none)
def y_Desk_spend : MethodName := ⟨"PoolDesk", "spend", "(I)Z"⟩
abbrev M_Desk_spend : MethodName × ByteArray × Nat × Option FieldType := (y_Desk_spend, prog_1_method_3_code, 2, (some .boolean))
def y_Keys_add : MethodName := ⟨"PoolDesk$Keys", "add", "(LPoolDesk$Name;I)Z"⟩
abbrev M_Keys_add : MethodName × ByteArray × Nat × Option FieldType := (y_Keys_add, prog_2_method_3_code, 3, (some .boolean))
def y_Keys_contains : MethodName := ⟨"PoolDesk$Keys", "contains", "(LPoolDesk$Name;I)Z"⟩
abbrev M_Keys_contains : MethodName × ByteArray × Nat × Option FieldType := (y_Keys_contains, prog_2_method_5_code, 4, (some .boolean))
def y_Keys_isOf : MethodName := ⟨"PoolDesk$Keys", "isOf", "(ILPoolDesk$Name;)Z"⟩
abbrev M_Keys_isOf : MethodName × ByteArray × Nat × Option FieldType := (y_Keys_isOf, prog_2_method_9_code, 4, (some .boolean))
def y_Name_write : MethodName := ⟨"PoolDesk$Name", "write", "([JI)V"⟩
abbrev M_Name_write : MethodName × ByteArray × Nat × Option FieldType := (y_Name_write, prog_3_method_3_code, 3, none)
def y_Desk_enter : MethodName := ⟨"PoolDesk", "enter", "(JII)I"⟩
abbrev M_Desk_enter : MethodName × ByteArray × Nat × Option FieldType := (y_Desk_enter, prog_1_method_4_code, 6, (some .int))
def y_Desk_isTransaction : MethodName := ⟨"PoolDesk", "isTransaction", "(JII)Z"⟩
abbrev M_Desk_isTransaction : MethodName × ByteArray × Nat × Option FieldType := (y_Desk_isTransaction, prog_1_method_13_code, 4, (some .boolean))
def y_Pool_hindrance : MethodName := ⟨"PoolDesk$Pool", "hindrance", "(LPoolDesk$Name;LPoolDesk$Keys;I)I"⟩
abbrev M_Pool_hindrance : MethodName × ByteArray × Nat × Option FieldType := (y_Pool_hindrance, prog_4_method_5_code, 4, (some .int))
def y_Pool_find : MethodName := ⟨"PoolDesk$Pool", "find", "(LPoolDesk$Name;)I"⟩
abbrev M_Pool_find : MethodName × ByteArray × Nat × Option FieldType := (y_Pool_find, prog_4_method_2_code, 3, (some .int))
def y_Desk_has : MethodName := ⟨"PoolDesk", "has", "(JI)Z"⟩
abbrev M_Desk_has : MethodName × ByteArray × Nat × Option FieldType := (y_Desk_has, prog_1_method_17_code, 3, (some .boolean))
def y_Desk_bit : MethodName := ⟨"PoolDesk", "bit", "(I)J"⟩
abbrev M_Desk_bit : MethodName × ByteArray × Nat × Option FieldType := (y_Desk_bit, prog_1_method_16_code, 1, (some .long))
def y_Name_same : MethodName := ⟨"PoolDesk$Name", "same", "(LPoolDesk$Name;)Z"⟩
abbrev M_Name_same : MethodName × ByteArray × Nat × Option FieldType := (y_Name_same, prog_3_method_4_code, 2, (some .boolean))
def y_Pool_isSpent : MethodName := ⟨"PoolDesk$Pool", "isSpent", "(LPoolDesk$Keys;)Z"⟩
abbrev M_Pool_isSpent : MethodName × ByteArray × Nat × Option FieldType := (y_Pool_isSpent, prog_4_method_6_code, 3, (some .boolean))
def y_Keys_containsOneOf : MethodName := ⟨"PoolDesk$Keys", "containsOneOf", "(LPoolDesk$Keys;)Z"⟩
abbrev M_Keys_containsOneOf : MethodName × ByteArray × Nat × Option FieldType := (y_Keys_containsOneOf, prog_2_method_6_code, 4, (some .boolean))
def y_Keys_sameName : MethodName := ⟨"PoolDesk$Keys", "sameName", "(ILPoolDesk$Keys;I)Z"⟩
abbrev M_Keys_sameName : MethodName × ByteArray × Nat × Option FieldType := (y_Keys_sameName, prog_2_method_10_code, 5, (some .boolean))
def y_Pool_missesOutput : MethodName := ⟨"PoolDesk$Pool", "missesOutput", "(LPoolDesk$Name;LPoolDesk$Keys;I)Z"⟩
abbrev M_Pool_missesOutput : MethodName × ByteArray × Nat × Option FieldType := (y_Pool_missesOutput, prog_4_method_7_code, 6, (some .boolean))
def y_Keys_misses : MethodName := ⟨"PoolDesk$Keys", "misses", "(LPoolDesk$Name;I)Z"⟩
abbrev M_Keys_misses : MethodName × ByteArray × Nat × Option FieldType := (y_Keys_misses, prog_2_method_8_code, 4, (some .boolean))
def y_Pool_hangsOnItself : MethodName := ⟨"PoolDesk$Pool", "hangsOnItself", "(LPoolDesk$Name;LPoolDesk$Keys;)Z"⟩
abbrev M_Pool_hangsOnItself : MethodName × ByteArray × Nat × Option FieldType := (y_Pool_hangsOnItself, prog_4_method_8_code, 3, (some .boolean))
def y_Keys_bears : MethodName := ⟨"PoolDesk$Keys", "bears", "(LPoolDesk$Name;)Z"⟩
abbrev M_Keys_bears : MethodName × ByteArray × Nat × Option FieldType := (y_Keys_bears, prog_2_method_7_code, 3, (some .boolean))
def y_Pool_spendersOf : MethodName := ⟨"PoolDesk$Pool", "spendersOf", "(LPoolDesk$Name;)J"⟩
abbrev M_Pool_spendersOf : MethodName × ByteArray × Nat × Option FieldType := (y_Pool_spendersOf, prog_4_method_9_code, 5, (some .long))
def y_Pool_family : MethodName := ⟨"PoolDesk$Pool", "family", "(J)J"⟩
abbrev M_Pool_family : MethodName × ByteArray × Nat × Option FieldType := (y_Pool_family, prog_4_method_13_code, 11, (some .long))
def y_Desk_lowest : MethodName := ⟨"PoolDesk", "lowest", "(J)I"⟩
abbrev M_Desk_lowest : MethodName × ByteArray × Nat × Option FieldType := (y_Desk_lowest, prog_1_method_18_code, 2, (some .int))
def y_Long_bitCount : MethodName := ⟨"java/lang/Long", "bitCount", "(J)I"⟩
abbrev M_Long_bitCount : MethodName × ByteArray × Nat × Option FieldType := (y_Long_bitCount, prog_9_method_50_code, 2, (some .int))
def y_Pool_named : MethodName := ⟨"PoolDesk$Pool", "named", "(LPoolDesk$Keys;)J"⟩
abbrev M_Pool_named : MethodName × ByteArray × Nat × Option FieldType := (y_Pool_named, prog_4_method_10_code, 5, (some .long))
def y_Desk_letIn : MethodName := ⟨"PoolDesk", "letIn", "(JII)I"⟩
abbrev M_Desk_letIn : MethodName × ByteArray × Nat × Option FieldType := (y_Desk_letIn, prog_1_method_14_code, 6, (some .int))
def y_Pool_freePlace : MethodName := ⟨"PoolDesk$Pool", "freePlace", "()I"⟩
abbrev M_Pool_freePlace : MethodName × ByteArray × Nat × Option FieldType := (y_Pool_freePlace, prog_4_method_4_code, 2, (some .int))
def y_Tx_describe : MethodName := ⟨"PoolDesk$Transaction", "describe", "(JII)V"⟩
abbrev M_Tx_describe : MethodName × ByteArray × Nat × Option FieldType := (y_Tx_describe, prog_6_method_2_code, 5, none)
def y_Pool_settle : MethodName := ⟨"PoolDesk$Pool", "settle", "(ILPoolDesk$Name;LPoolDesk$Keys;)V"⟩
abbrev M_Pool_settle : MethodName × ByteArray × Nat × Option FieldType := (y_Pool_settle, prog_4_method_11_code, 6, none)
def y_Keys_copy : MethodName := ⟨"PoolDesk$Keys", "copy", "(LPoolDesk$Keys;)V"⟩
abbrev M_Keys_copy : MethodName × ByteArray × Nat × Option FieldType := (y_Keys_copy, prog_2_method_4_code, 2, none)
def y_Pool_leastPaying : MethodName := ⟨"PoolDesk$Pool", "leastPaying", "()I"⟩
abbrev M_Pool_leastPaying : MethodName × ByteArray × Nat × Option FieldType := (y_Pool_leastPaying, prog_4_method_17_code, 13, (some .int))
def y_Pool_sumOfFees : MethodName := ⟨"PoolDesk$Pool", "sumOfFees", "(J)J"⟩
abbrev M_Pool_sumOfFees : MethodName × ByteArray × Nat × Option FieldType := (y_Pool_sumOfFees, prog_4_method_14_code, 6, (some .long))
def y_Pool_sumOfSizes : MethodName := ⟨"PoolDesk$Pool", "sumOfSizes", "(J)I"⟩
abbrev M_Pool_sumOfSizes : MethodName × ByteArray × Nat × Option FieldType := (y_Pool_sumOfSizes, prog_4_method_15_code, 5, (some .int))
def y_Desk_compareRates : MethodName := ⟨"PoolDesk", "compareRates", "(JJJJ)I"⟩
abbrev M_Desk_compareRates : MethodName × ByteArray × Nat × Option FieldType := (y_Desk_compareRates, prog_1_method_19_code, 9, (some .int))
def y_Long_compare : MethodName := ⟨"java/lang/Long", "compare", "(JJ)I"⟩
abbrev M_Long_compare : MethodName × ByteArray × Nat × Option FieldType := (y_Long_compare, prog_9_method_42_code, 4, (some .int))
def y_Desk_removeFamily : MethodName := ⟨"PoolDesk", "removeFamily", "(I)I"⟩
abbrev M_Desk_removeFamily : MethodName × ByteArray × Nat × Option FieldType := (y_Desk_removeFamily, prog_1_method_15_code, 4, (some .int))
def y_Pool_remove : MethodName := ⟨"PoolDesk$Pool", "remove", "(J)V"⟩
abbrev M_Pool_remove : MethodName × ByteArray × Nat × Option FieldType := (y_Pool_remove, prog_4_method_12_code, 4, none)
def y_Keys_clear : MethodName := ⟨"PoolDesk$Keys", "clear", "()V"⟩
abbrev M_Keys_clear : MethodName × ByteArray × Nat × Option FieldType := (y_Keys_clear, prog_2_method_2_code, 1, none)
def y_Desk_take : MethodName := ⟨"PoolDesk", "take", "()Z"⟩
abbrev M_Desk_take : MethodName × ByteArray × Nat × Option FieldType := (y_Desk_take, prog_1_method_5_code, 2, (some .boolean))
def y_Desk_drop : MethodName := ⟨"PoolDesk", "drop", "()I"⟩
abbrev M_Desk_drop : MethodName × ByteArray × Nat × Option FieldType := (y_Desk_drop, prog_1_method_6_code, 1, (some .int))
def y_Desk_strike : MethodName := ⟨"PoolDesk", "strike", "(I)I"⟩
abbrev M_Desk_strike : MethodName × ByteArray × Nat × Option FieldType := (y_Desk_strike, prog_1_method_7_code, 2, (some .int))
def y_Pool_findSpender : MethodName := ⟨"PoolDesk$Pool", "findSpender", "(LPoolDesk$Name;I)I"⟩
abbrev M_Pool_findSpender : MethodName × ByteArray × Nat × Option FieldType := (y_Pool_findSpender, prog_4_method_3_code, 4, (some .int))
def y_Desk_look : MethodName := ⟨"PoolDesk", "look", "(I)J"⟩
abbrev M_Desk_look : MethodName × ByteArray × Nat × Option FieldType := (y_Desk_look, prog_1_method_8_code, 4, (some .long))
def y_Desk_order : MethodName := ⟨"PoolDesk", "order", "(I)I"⟩
abbrev M_Desk_order : MethodName × ByteArray × Nat × Option FieldType := (y_Desk_order, prog_1_method_9_code, 8, (some .int))
def y_Row_clear : MethodName := ⟨"PoolDesk$Row", "clear", "()V"⟩
abbrev M_Row_clear : MethodName × ByteArray × Nat × Option FieldType := (y_Row_clear, prog_5_method_2_code, 1, none)
def y_Pool_bestPaying : MethodName := ⟨"PoolDesk$Pool", "bestPaying", "(JI)I"⟩
abbrev M_Pool_bestPaying : MethodName × ByteArray × Nat × Option FieldType := (y_Pool_bestPaying, prog_4_method_18_code, 8, (some .int))
def y_Pool_paysBetter : MethodName := ⟨"PoolDesk$Pool", "paysBetter", "(LPoolDesk$Transaction;LPoolDesk$Transaction;)Z"⟩
abbrev M_Pool_paysBetter : MethodName × ByteArray × Nat × Option FieldType := (y_Pool_paysBetter, prog_4_method_19_code, 3, (some .boolean))
def y_Row_add : MethodName := ⟨"PoolDesk$Row", "add", "(LPoolDesk$Name;)V"⟩
abbrev M_Row_add : MethodName × ByteArray × Nat × Option FieldType := (y_Row_add, prog_5_method_3_code, 2, none)
def y_Desk_row : MethodName := ⟨"PoolDesk", "row", "(II)J"⟩
abbrev M_Desk_row : MethodName × ByteArray × Nat × Option FieldType := (y_Desk_row, prog_1_method_10_code, 3, (some .long))
def y_Row_word : MethodName := ⟨"PoolDesk$Row", "word", "(II)J"⟩
abbrev M_Row_word : MethodName × ByteArray × Nat × Option FieldType := (y_Row_word, prog_5_method_4_code, 3, (some .long))
def y_Desk_count : MethodName := ⟨"PoolDesk", "count", "(I)I"⟩
abbrev M_Desk_count : MethodName × ByteArray × Nat × Option FieldType := (y_Desk_count, prog_1_method_11_code, 2, (some .int))
def y_Pool_sumOfKeys : MethodName := ⟨"PoolDesk$Pool", "sumOfKeys", "()I"⟩
abbrev M_Pool_sumOfKeys : MethodName × ByteArray × Nat × Option FieldType := (y_Pool_sumOfKeys, prog_4_method_16_code, 3, (some .int))
def y_Desk_fees : MethodName := ⟨"PoolDesk", "fees", "()J"⟩
abbrev M_Desk_fees : MethodName × ByteArray × Nat × Option FieldType := (y_Desk_fees, prog_1_method_12_code, 1, (some .long))
def y_Model_init : MethodName := ⟨"PoolDeskModel", "<init>", "()V"⟩
abbrev M_Model_init : MethodName × ByteArray × Nat × Option FieldType := (y_Model_init, prog_8_method_1_code, 1, none)
def y_Model_name : MethodName := ⟨"PoolDeskModel", "name", "(JJJJ)V"⟩
abbrev M_Model_name : MethodName × ByteArray × Nat × Option FieldType := (y_Model_name, prog_8_method_2_code, 9, none)
def y_Model_spend : MethodName := ⟨"PoolDeskModel", "spend", "(I)Z"⟩
abbrev M_Model_spend : MethodName × ByteArray × Nat × Option FieldType := (y_Model_spend, prog_8_method_5_code, 5, (some .boolean))
def y_Model_enter : MethodName := ⟨"PoolDeskModel", "enter", "(JII)I"⟩
abbrev M_Model_enter : MethodName × ByteArray × Nat × Option FieldType := (y_Model_enter, prog_8_method_18_code, 7, (some .int))
def y_Model_come : MethodName := ⟨"PoolDeskModel", "come", "(I)I"⟩
abbrev M_Model_come : MethodName × ByteArray × Nat × Option FieldType := (y_Model_come, prog_8_method_19_code, 5, (some .int))
def y_Model_find : MethodName := ⟨"PoolDeskModel", "find", "()I"⟩
abbrev M_Model_find : MethodName × ByteArray × Nat × Option FieldType := (y_Model_find, prog_8_method_4_code, 2, (some .int))
def y_Model_isNamed : MethodName := ⟨"PoolDeskModel", "isNamed", "(I)Z"⟩
abbrev M_Model_isNamed : MethodName × ByteArray × Nat × Option FieldType := (y_Model_isNamed, prog_8_method_3_code, 4, (some .boolean))
def y_Model_clash : MethodName := ⟨"PoolDeskModel", "clash", "(II)Z"⟩
abbrev M_Model_clash : MethodName × ByteArray × Nat × Option FieldType := (y_Model_clash, prog_8_method_9_code, 6, (some .boolean))
def y_Model_sameKey : MethodName := ⟨"PoolDeskModel", "sameKey", "(IIII)Z"⟩
abbrev M_Model_sameKey : MethodName × ByteArray × Nat × Option FieldType := (y_Model_sameKey, prog_8_method_8_code, 7, (some .boolean))
def y_Model_misses : MethodName := ⟨"PoolDeskModel", "misses", "(II)Z"⟩
abbrev M_Model_misses : MethodName × ByteArray × Nat × Option FieldType := (y_Model_misses, prog_8_method_10_code, 6, (some .boolean))
def y_Model_hasName : MethodName := ⟨"PoolDeskModel", "hasName", "(III)Z"⟩
abbrev M_Model_hasName : MethodName × ByteArray × Nat × Option FieldType := (y_Model_hasName, prog_8_method_6_code, 6, (some .boolean))
def y_Model_family : MethodName := ⟨"PoolDeskModel", "family", "(II)V"⟩
abbrev M_Model_family : MethodName × ByteArray × Nat × Option FieldType := (y_Model_family, prog_8_method_11_code, 6, none)
def y_Model_hangs : MethodName := ⟨"PoolDeskModel", "hangs", "(II)Z"⟩
abbrev M_Model_hangs : MethodName × ByteArray × Nat × Option FieldType := (y_Model_hangs, prog_8_method_7_code, 5, (some .boolean))
def y_Model_copy : MethodName := ⟨"PoolDeskModel", "copy", "(II)V"⟩
abbrev M_Model_copy : MethodName × ByteArray × Nat × Option FieldType := (y_Model_copy, prog_8_method_12_code, 4, none)
def y_Model_least : MethodName := ⟨"PoolDeskModel", "least", "()I"⟩
abbrev M_Model_least : MethodName × ByteArray × Nat × Option FieldType := (y_Model_least, prog_8_method_17_code, 11, (some .int))
def y_Model_feesOf : MethodName := ⟨"PoolDeskModel", "feesOf", "(Z)J"⟩
abbrev M_Model_feesOf : MethodName × ByteArray × Nat × Option FieldType := (y_Model_feesOf, prog_8_method_15_code, 5, (some .long))
def y_Model_sizesOf : MethodName := ⟨"PoolDeskModel", "sizesOf", "(Z)J"⟩
abbrev M_Model_sizesOf : MethodName × ByteArray × Nat × Option FieldType := (y_Model_sizesOf, prog_8_method_16_code, 5, (some .long))
def y_Model_compare : MethodName := ⟨"PoolDeskModel", "compare", "(JJJJ)I"⟩
abbrev M_Model_compare : MethodName × ByteArray × Nat × Option FieldType := (y_Model_compare, prog_8_method_14_code, 21, (some .int))
def y_Model_remove : MethodName := ⟨"PoolDeskModel", "remove", "()I"⟩
abbrev M_Model_remove : MethodName × ByteArray × Nat × Option FieldType := (y_Model_remove, prog_8_method_13_code, 4, (some .int))
def y_Model_take : MethodName := ⟨"PoolDeskModel", "take", "()Z"⟩
abbrev M_Model_take : MethodName × ByteArray × Nat × Option FieldType := (y_Model_take, prog_8_method_20_code, 3, (some .boolean))
def y_Model_drop : MethodName := ⟨"PoolDeskModel", "drop", "()I"⟩
abbrev M_Model_drop : MethodName × ByteArray × Nat × Option FieldType := (y_Model_drop, prog_8_method_21_code, 2, (some .int))
def y_Model_strike : MethodName := ⟨"PoolDeskModel", "strike", "(I)I"⟩
abbrev M_Model_strike : MethodName × ByteArray × Nat × Option FieldType := (y_Model_strike, prog_8_method_22_code, 6, (some .int))
def y_Model_look : MethodName := ⟨"PoolDeskModel", "look", "(I)J"⟩
abbrev M_Model_look : MethodName × ByteArray × Nat × Option FieldType := (y_Model_look, prog_8_method_24_code, 5, (some .long))
def y_Model_kin : MethodName := ⟨"PoolDeskModel", "kin", "(IZ)I"⟩
abbrev M_Model_kin : MethodName × ByteArray × Nat × Option FieldType := (y_Model_kin, prog_8_method_23_code, 5, (some .int))
def y_Model_order : MethodName := ⟨"PoolDeskModel", "order", "(I)I"⟩
abbrev M_Model_order : MethodName × ByteArray × Nat × Option FieldType := (y_Model_order, prog_8_method_26_code, 7, (some .int))
def y_Model_isFree : MethodName := ⟨"PoolDeskModel", "isFree", "(I)Z"⟩
abbrev M_Model_isFree : MethodName × ByteArray × Nat × Option FieldType := (y_Model_isFree, prog_8_method_25_code, 3, (some .boolean))
def y_Model_row : MethodName := ⟨"PoolDeskModel", "row", "(II)J"⟩
abbrev M_Model_row : MethodName × ByteArray × Nat × Option FieldType := (y_Model_row, prog_8_method_27_code, 3, (some .long))
def y_Model_count : MethodName := ⟨"PoolDeskModel", "count", "(I)I"⟩
abbrev M_Model_count : MethodName × ByteArray × Nat × Option FieldType := (y_Model_count, prog_8_method_28_code, 4, (some .int))
def y_Model_fees : MethodName := ⟨"PoolDeskModel", "fees", "()J"⟩
abbrev M_Model_fees : MethodName × ByteArray × Nat × Option FieldType := (y_Model_fees, prog_8_method_29_code, 1, (some .long))
def y_Law_law : MethodName := ⟨"PoolDeskLaw", "law", "([I)Z"⟩
abbrev M_Law_law : MethodName × ByteArray × Nat × Option FieldType := (y_Law_law, code, 4, (some .boolean))
def ma_N : List (String × Nat × MethodName × String) := [("PoolDesk", 11, y_Name_init, "PoolDesk"), ("PoolDesk", 18, y_Keys_init, "PoolDesk"), ("PoolDesk$Pool", 17, y_Tx_init, "PoolDesk"), ("PoolDesk$Transaction", 9, y_Name_init, "PoolDesk"), ("PoolDesk$Transaction", 18, y_Keys_init, "PoolDesk"), ("PoolDesk", 32, y_Row_init, "PoolDesk"), ("PoolDesk$Pool", 22, y_Desk_has, "PoolDesk"), ("PoolDesk$Pool", 93, y_Desk_bit, "PoolDesk"), ("PoolDesk$Pool", 48, y_Desk_lowest, "PoolDesk"), ("PoolDesk$Pool", 144, y_Desk_compareRates, "PoolDesk")]
def ma_AO : List String := ["PoolDesk$Transaction"]
end
section
/-! The judgement ma_V: method M stands at pc with locals lv and stack st over the picture hp of the heap, and will return with Q; at every context. Rows: an instruction a row. -/
section Pic
abbrev hp_T : Type := Nat → Option va_E
def hp_up (hp : hp_T) (a : Nat) (x : va_E) : hp_T := fun b => if b = a then some x else hp b
theorem hp_us {hp : hp_T} {a : Nat} {x : va_E} : hp_up hp a x a = some x := by simp [hp_up]
theorem hp_un {hp : hp_T} {a b : Nat} {x : va_E} (h : b ≠ a) : hp_up hp a x b = hp b := by simp [hp_up, h]
theorem hp_ne {hp : hp_T} {a b : Nat} {x y : va_E} (ha : hp a = some x) (hb : hp b = some y) (h : x ≠ y) : a ≠ b := by
  intro q
  subst q
  exact h (Option.some.inj (ha.symm.trans hb))
theorem hp_uu {hp : hp_T} {a : Nat} {x y : va_E} : hp_up (hp_up hp a x) a y = hp_up hp a y := by
  funext b
  by_cases h : b = a <;> simp [hp_up, h]
theorem hp_self {hp : hp_T} {a : Nat} {x : va_E} (h : hp a = some x) : hp_up hp a x = hp := by
  funext b
  by_cases e : b = a
  · subst e; simp [hp_up, h]
  · simp [hp_up, e]
def hp_W (hp : hp_T) (ws : va_W) : Prop := ∀ (a : Nat) (x : va_E), hp a = some x → ∃ k : Nat, ws[k]? = some (a, x)
theorem hp_W.set {hp : hp_T} {ws : va_W} {A : Nat → Prop} {a k : Nat} {x x' : va_E} (h : hp_W hp ws) (hk : ws[k]? = some (a, x)) : hp_W (hp_up hp a x') (ws.set k (a, x')) := by
  intro b y hb
  have hl := (List.getElem?_eq_some_iff.mp hk).1
  by_cases hba : b = a
  · subst hba
    rw [hp_us] at hb
    cases hb
    exact ⟨k, List.getElem?_set_self hl⟩
  · rw [hp_un hba] at hb
    obtain ⟨j, hj⟩ := h b y hb
    have hjk : k ≠ j := fun q => by
      subst q
      rw [hk] at hj
      cases hj
      exact hba rfl
    exact ⟨j, by rw [List.getElem?_set_ne hjk]; exact hj⟩
theorem hp_W.push {hp : hp_T} {ws : va_W} {q : Nat} {x : va_E} (h : hp_W hp ws) : hp_W (hp_up hp q x) (ws ++ [(q, x)]) := by
  intro b y hb
  by_cases hbq : b = q
  · subst hbq
    rw [hp_us] at hb
    cases hb
    exact ⟨ws.length, by simp⟩
  · rw [hp_un hbq] at hb
    obtain ⟨j, hj⟩ := h b y hb
    have hl := (List.getElem?_eq_some_iff.mp hj).1
    exact ⟨j, by rw [List.getElem?_append_left hl]; exact hj⟩
theorem hp_W.fresh {hp : hp_T} {ws : va_W} {A : Nat → Prop} {q : Nat} {x : va_E} (h : hp_W hp ws) (hD : va_D A (ws ++ [(q, x)])) : hp q = none := by
  cases hq : hp q with
  | none => rfl
  | some y =>
    obtain ⟨j, hj⟩ := h q y hq
    have hl := (List.getElem?_eq_some_iff.mp hj).1
    have h1 : (ws ++ [(q, x)])[j]? = some (q, y) := by rw [List.getElem?_append_left hl]; exact hj
    have h2 : (ws ++ [(q, x)])[ws.length]? = some (q, x) := by simp
    have := hD.1 j ws.length (q, y) (q, x) h1 h2 rfl
    omega
def hp_R (D : va_G) (A : Nat → Prop) (hp : hp_T) (H : Heap) : Prop := ∃ ws : va_W, va_P D classes ws H ∧ va_D A ws ∧ hp_W hp ws
end Pic
section Mach
/-- a method: name, bytes, locals, what it returns -/
abbrev ma_M : Type := MethodName × ByteArray × Nat × Option FieldType
def ma_good (w : Cond) : Bool := (w.onTables && w.keeps) || (match w with | .arrayClass _ => true | _ => false)
def ma_tbl : List Cond := lw_tbl.filter ma_good
theorem ma_good_of {w : Cond} (h : ma_good w = true) : (w.onTables && w.keeps) = true ∨ ∃ ty, w = .arrayClass ty := by
  unfold ma_good at h
  rcases Bool.or_eq_true _ _ |>.mp h with h | h
  · exact Or.inl h
  · right
    cases w <;> first | exact ⟨_, rfl⟩ | cases h
theorem ma_tbl_good {w : Cond} (h : w ∈ ma_tbl) : (w.onTables && w.keeps) = true ∨ ∃ ty, w = .arrayClass ty := ma_good_of (List.mem_filter.mp h).2
abbrev ma_ty (ca : Nat → ClassId) : List (ClassId × FieldType) := (List.range ma_tys.length).map (fun k => (ca k, ma_tys.getD k .int))
def ma_Ns (U : State) : Prop := ∀ q ∈ ma_N, va_Nw (.methodLinkNest q.1 q.2.1 q.2.2.1 q.2.2.2) U
def ma_AOs (U : State) : Prop := ∀ C ∈ ma_AO, va_AO C U
def ma_W (D : va_G) (ca : Nat → ClassId) (U : State) : Prop := va_K D classes (ma_ty ca) U ∧ ma_Ns U ∧ ma_AOs U
theorem ma_W.warm {D : va_G} {ca : Nat → ClassId} {s U : State} (hW : s.WarmedH U.vm) (h : ma_W D ca s) : ma_W D ca U := ⟨va_K.moved hW.alike h.1, fun q hq => va_Nw.warmM hW (h.2.1 q hq), fun C hC => (h.2.2 C hC).moved hW.alike⟩
theorem ma_W.same {D : va_G} {ca : Nat → ClassId} {s U : State} (hv : s.vm = U.vm) (h : ma_W D ca s) : ma_W D ca U := by
  have ha : s.vm.Alike U.vm := hv ▸ Vm.Alike.refl s.vm
  exact ⟨va_K.moved ha h.1, fun q hq => va_Nw.same rfl hv (h.2.1 q hq), fun C hC => (h.2.2 C hC).moved ha⟩
def ma_C (D : va_G) (ca : Nat → ClassId) (M : ma_M) (d : Nat) (p : Program) (R : Room) (s : State) (m : MethodId) (args : Array Value) (meth : Method) (c : Code) : Prop :=
  p.tables.exec = Jvm.exec ∧ c.code = M.2.1 ∧ c.maxLocals = M.2.2.1 ∧ s.vm.findClass M.1.cls = some m.cls ∧ (∀ w ∈ ma_tbl, w.before args s = true) ∧ ma_W D ca s ∧ meth.name = M.1.name ∧ d ≤ R.frames ∧ 45 * d ≤ R.locals
def ma_ret (M : ma_M) (pc : Nat) (v : Option Value) : Prop :=
  (v = none ∧ decode M.2.1 pc = .ok (.return_, 1) ∧ M.2.2.2 = none) ∨ (∃ (x : Int32) (ty : FieldType), v = some (.int x) ∧ decode M.2.1 pc = .ok (.ireturn, 1) ∧ M.2.2.2 = some ty ∧ narrow ty (.int x) = .int x) ∨
  (∃ x : Int64, v = some (.long x) ∧ decode M.2.1 pc = .ok (.lreturn, 1) ∧ M.2.2.2 = some .long) ∨ (∃ (x : Value) (ty : FieldType), v = some x ∧ decode M.2.1 pc = .ok (.areturn, 1) ∧ M.2.2.2 = some ty ∧ ((∃ n, ty = .object n) ∨ ∃ t, ty = .array t) ∧ (x = .null ∨ ∃ a, x = .ref a))
def ma_E (l : Launch) (D : va_G) (M : ma_M) (Q : Option Value → hp_T → Prop) (p : Program) (e : Env) (R : Room) (s : State) (m : MethodId) (args : Array Value) (below : List Frame) (meth : Method) (c : Code) (A : Nat → Prop) (Z : State → Prop) : Prop :=
  ∀ (pc : Nat) (ls : Array Slot) (v : Option Value) (hp' : hp_T) (H' : Heap) (locs' : List Loc) (cells' slots' : Nat), ma_ret M pc v → Q v hp' → hp_R D A hp' H' → va_S A s.heap H' locs' → cells' ≤ R.cells → slots' ≤ R.slots →
    W p l e R s m args below meth c H' locs' cells' slots' Z (F0 m pc ls v.toList)
def ma_V (l : Launch) (D : va_G) (ca : Nat → ClassId) (EX : State → (Nat → Prop) → Prop) (M : ma_M) (d kc ks : Nat) (hp : hp_T) (Q : Option Value → hp_T → Prop) (pc : Nat) (lv : List (Nat × Value)) (st : List Value) : Prop :=
  ∀ (p : Program) (e : Env) (R : Room) (s : State) (m : MethodId) (args : Array Value) (below : List Frame) (meth : Method) (c : Code) (A : Nat → Prop) (Z : State → Prop) (H : Heap) (locs : List Loc) (cells slots : Nat) (ls : Array Slot),
    ma_C D ca M d p R s m args meth c → EX s A → (∀ q, s.heap.size ≤ q → A q) → ma_E l D M Q p e R s m args below meth c A Z →
    hp_R D A hp H → va_S A s.heap H locs → cells + kc ≤ R.cells → slots + ks ≤ R.slots → lv_has ls M.2.2.1 lv →
    W p l e R s m args below meth c H locs cells slots Z (F0 m pc ls st)
def ma_T : State → (Nat → Prop) → Prop := fun _ _ => True
def ma_qi (q : Int32 → hp_T → Prop) : Option Value → hp_T → Prop := fun v hp => ∃ x, v = some (.int x) ∧ q x hp
def ma_ql (q : Int64 → hp_T → Prop) : Option Value → hp_T → Prop := fun v hp => ∃ x, v = some (.long x) ∧ q x hp
def ma_qv (q : hp_T → Prop) : Option Value → hp_T → Prop := fun v hp => v = none ∧ q hp
def ma_qr (q : Nat → hp_T → Prop) : Option Value → hp_T → Prop := fun v hp => ∃ x, v = some (.ref x) ∧ q x hp
def ma_eq {α : Type} (r : α) (hp0 : hp_T) : α → hp_T → Prop := fun x hp => x = r ∧ hp = hp0
abbrev ma_ws (M : ma_M) : List Cond := Cond.code M.1 M.2.1 M.2.2.1 M.2.2.2 :: ma_tbl
def ma_rm (d kc ks : Nat) : Room := { frames := d, cells := kc, slots := ks, locals := 45 * d }
def ma_B (D : va_G) (ca : Nat → ClassId) (A : Nat → Prop) (hp : hp_T) (U : State) : Prop := hp_R D A hp U.heap ∧ ma_W D ca U ∧ ∀ q, U.heap.size ≤ q → A q
def ma_Qc (D : va_G) (A : Nat → Prop) (Q : Option Value → hp_T → Prop) : Array Value → State → Outcome → State → Prop := fun _ st oc t => (∃ (v : Option Value) (hp' : hp_T), oc = .returned v ∧ Q v hp' ∧ hp_R D A hp' t.heap) ∧ va_F A st t
variable {l : Launch} {D : va_G} {ca : Nat → ClassId} {EX : State → (Nat → Prop) → Prop} {M M' : ma_M} {d kc ks : Nat} {hp : hp_T} {Q Q' : Option Value → hp_T → Prop} {pc : Nat} {lv : List (Nat × Value)} {st : List Value}
theorem ma_met {av : List Value} (hV : ma_V l D ca ma_T M d kc ks hp Q 0 (lv_args 0 av) []) (hy : plainName M.1.cls = true) (hn : (lg_sl av).length ≤ M.2.2.1) (A : Nat → Prop) :
    Met l M.1 (ma_ws M) (ma_rm d kc ks) (va_Pc av (ma_B D ca A hp)) (ma_Qc D A Q) kc ks A := by
  refine Met.ofW (cc := M.2.1) (maxL := M.2.2.1) (ret := M.2.2.2) hy rfl ?_
  intro p e s m args below meth c s₁ B hml hv
  obtain ⟨rfl, hR, hW, hA⟩ := hv
  have hts := atoms_spec (ws := ma_ws M) B.pre
  rw [lg_entry_eq]
  refine hV p e (headSpec (ma_ws M) (ma_rm d kc ks)).room s m _ below meth c A _ s.heap [] 0 0 _ ⟨B.exec, B.bytes, hml, findClass_of_methodNamed B.named, fun w h => hts w (List.mem_cons_of_mem _ h), hW, (name_of_methodNamed B.named B.method).1, Nat.le_refl _, Nat.le_refl _⟩ trivial hA ?_ hR va_S.rf (by show 0 + kc ≤ kc; omega) (by show 0 + ks ≤ ks; omega) (lv_entry av hn)
  intro pc ls v hp' H' locs' cells' slots' hr hQ hR' hS' hc hs
  refine W.widen (k := kc) (n := ks) hc hs ?_
  have fin : ∀ t : State, t.heap = H' → s.WarmedH t.vm → ma_Qc D A Q av.toArray s (.returned v) t := fun t ht _ => ⟨⟨v, hp', rfl, hQ, by rw [ht]; exact hR'⟩, hS'.F ht⟩
  have hl := B.notSynchronized
  rcases hr with ⟨rfl, h1, h2⟩ | ⟨x, ty, rfl, h1, h2, h3⟩ | ⟨x, rfl, h1, h2⟩ | ⟨x, ty, rfl, h1, h2, h3, h4⟩
  · exact W.vret B.exec B.bytes (B.returns.trans h2) fin hS'.2.2 h1 hl
  · exact W.zret B.exec B.bytes (B.returns.trans h2) h3 fin hS'.2.2 h1 hl
  · exact W.lret B.exec B.bytes (B.returns.trans h2) fin hS'.2.2 h1 hl
  · exact W.aret B.exec B.bytes (B.returns.trans h2) h3 h4 fin hS'.2.2 h1 hl
theorem ma_blind {av : List Value} {A : Nat → Prop} : FrameBlind (va_Pc av (ma_B D ca A hp)) := fun a U g mk h => ⟨h.1, h.2.1, ma_W.same (U := U.calling g mk a) rfl h.2.2.1, h.2.2.2⟩

section Go
variable {p : Program} {e : Env} {R : Room} {s : State} {m : MethodId} {args : Array Value} {below : List Frame} {meth : Method} {c : Code} {H : Heap} {locs : List Loc} {cells slots : Nat} {Z : State → Prop} {A : Nat → Prop}
theorem ma_go {mc ms : Nat} {ls : Array Slot} {st0 rest : List Value} {a : Array Value} (hr : va_Run p l e R s m args below meth c H locs cells slots mc ms (F0 m pc ls st0) rest (ma_Qc D A Q' a) A) (hS : va_S A s.heap H locs)
    (kk : ∀ (v : Option Value) (hp' : hp_T) (H1 : Heap) (locs1 : List Loc), Q' v hp' → hp_R D A hp' H1 → va_S A s.heap H1 locs1 → W p l e R s m args below meth c H1 locs1 (cells + mc) (slots + ms) Z (F0 m (pc + 3) ls (v.toList ++ rest))) :
    W p l e R s m args below meth c H locs cells slots Z (F0 m pc ls st0) := by
  intro T hT X
  obtain ⟨v, st₀, t, T', L, h0, X', hL, e1, e2, ⟨⟨v', hp', hv, hq, hR⟩, hz, hk⟩, st⟩ := hr T hT X
  cases hv
  rw [h0] at hz hk
  obtain ⟨t2, a1, b1⟩ := kk v hp' T'.heap (locs ++ L) hq (by rw [e1]; exact hR) ⟨Nat.le_trans hS.1 (by rw [e1]; exact hz), fun q h1 h2 => by rw [e1, hk q (Nat.lt_of_lt_of_le h1 hS.1) h2]; exact hS.2.1 q h1 h2, fun q hq => by
      rcases List.mem_append.mp hq with h | h
      · exact hS.2.2 q h
      · exact hL q h⟩ T' rfl X'
  exact ⟨t2, st t2 a1, b1⟩
theorem ma_pre {av : List Value} (hC : ma_C D ca M d p R s m args meth c) (hA : ∀ q, s.heap.size ≤ q → A q) (hR : hp_R D A hp H) (hS : va_S A s.heap H locs) : ∀ U : State, U.heap = H → s.WarmedH U.vm → va_Pc av (ma_B D ca A hp) av.toArray U := by
  intro U hU hW
  refine ⟨rfl, by rw [hU]; exact hR, hC.2.2.2.2.2.1.warm hW, fun q hq => hA q (Nat.le_trans hS.1 (by rw [← hU]; exact hq))⟩
end Go
/-- a method that may be called: its words stand in the tables -/
def ma_Ok (M : ma_M) (n : Nat) : Prop := plainName M.1.cls = true ∧ (M.1.cls ≠ "java/lang/invoke/MethodHandle" ∧ M.1.cls ≠ "java/lang/invoke/VarHandle" ∧ (parseMethodDescriptor M.1.desc).map (fun d => d.parameters.length) = some n) ∧ Cond.code M.1 M.2.1 M.2.2.1 M.2.2.2 ∈ ma_tbl ∧ Cond.initialized M.1.cls ∈ ma_tbl ∧ M.2.2.1 ≤ 26
theorem ma_Ok.good {n : Nat} (h : ma_Ok M n) : GoodIn ma_tbl (ma_ws M) := fun w hw => by
  rcases List.mem_cons.mp hw with rfl | hw
  · exact ⟨h.2.2.1, ma_tbl_good h.2.2.1⟩
  · exact ⟨hw, ma_tbl_good hw⟩
theorem ma_room {R : Room} {d kc ks n : Nat} (h : n ≤ 26) (h1 : d + 1 ≤ R.frames) (h2 : 45 * (d + 1) ≤ R.locals) : (ma_rm d kc ks).frames + 1 ≤ R.frames ∧ 8 + (n + 11) + (ma_rm d kc ks).locals ≤ R.locals := by
  refine ⟨h1, ?_⟩
  show 8 + (n + 11) + 45 * d ≤ R.locals
  omega

theorem rv_callV {kc' ks' kc1 ks1 n index : Nat} {As rest : List Value} {b ci N : Nat} {T : u_T} {fs : List Value} (hb : hp b = some (.inr (ci, fs))) (hcl : classes[ci]? = some (M'.1.cls, T, N)) (hV : ma_V l D ca ma_T M' d kc' ks' hp Q' 0 (lv_args 0 (.ref b :: As)) []) (hok : ma_Ok M' n) (hlk : Cond.methodLink M.1.cls index M'.1 ∈ ma_tbl) (hin : Cond.instanceMethod M'.1 ∈ ma_tbl) (hse : Cond.selects M'.1.cls M'.1 M'.1 ∈ ma_tbl) (hst0 : st = As.reverse ++ .ref b :: rest) (hn : As.length = n) (hlen : (lg_sl (.ref b :: As)).length ≤ M'.2.2.1) (hrs : (rest.map fun v => v.category).sum ≤ 8) (hk : kc1 + kc' ≤ kc ∧ ks1 + ks' ≤ ks) (hd : decode M.2.1 pc = .ok (.invokevirtual index, 3))
    (K : ∀ (v : Option Value) (hp' : hp_T), Q' v hp' → ma_V l D ca EX M (d + 1) kc1 ks1 hp' Q (pc + 3) lv (v.toList ++ rest)) : ma_V l D ca EX M (d + 1) kc ks hp Q pc lv st := by
  intro p e R s m args below meth c A Z H locs cells slots ls hC hX hA hE hR hS hc hs hl
  subst hst0
  obtain ⟨hx, hb0, hml, hown, hts, hW, hnm, hfr, hlo⟩ := id hC
  obtain ⟨ws, hP, hD, hw⟩ := id hR
  obtain ⟨k, hkk⟩ := hw _ _ hb
  have hpre : PreV s H M'.1.cls b (va_Pc (.ref b :: As) (ma_B D ca A hp)) As := ⟨ma_blind, va_recv hW.1 hP hcl hkk, ma_pre hC hA hR hS⟩
  have hg : GoodIn ma_tbl (wsV M.1.cls index M'.1.cls M'.1 (ma_ws M')) := fun w h => by
    unfold wsV at h
    rcases List.mem_append.mp h with h | h
    · simp only [List.mem_cons, List.not_mem_nil, or_false] at h
      rcases h with rfl | rfl | rfl | rfl
      · exact ⟨hlk, ma_tbl_good hlk⟩
      · exact ⟨hin, ma_tbl_good hin⟩
      · exact ⟨hse, ma_tbl_good hse⟩
      · exact ⟨hok.2.2.2.1, ma_tbl_good hok.2.2.2.1⟩
    · exact hok.good w h
  have cw := cwV (R := R) (s := s) (args := args) (own := M.1.cls) (C := M'.1.cls) (index := index) (y := M'.1) (rm := ma_rm d kc' ks') n hts hg rfl rfl rfl ⟨rfl, hok.2.1⟩ (ma_room hok.2.2.2.2 hfr hlo)
  have hr := va_runV (below := below) (p := p) (e := e) (meth := meth) (locs := locs) (cells := cells) (slots := slots) (rest := rest) (g := F0 m pc ls (As.reverse ++ .ref b :: rest)) ⟨hx, hb0, hml, hown, hts⟩ (ma_met hV hok.1 hlen A) cw hpre rfl hn hl.1 rfl (lv_room hrs) hd ⟨by omega, by omega⟩
  exact ma_go hr hS (fun v hp' H1 locs1 hq hR1 hS1 => K v hp' hq p e R s m args below meth c A Z H1 locs1 (cells + kc') (slots + ks') ls hC hX hA hE hR1 hS1 (by omega) (by omega) hl)
theorem rv_callVN {kc' ks' kc1 ks1 n index : Nat} {As rest : List Value} {b ci N : Nat} {T : u_T} {fs : List Value} (hb : hp b = some (.inr (ci, fs))) (hcl : classes[ci]? = some (M'.1.cls, T, N)) (hV : ma_V l D ca ma_T M' d kc' ks' hp Q' 0 (lv_args 0 (.ref b :: As)) []) (hok : ma_Ok M' n) {host : String} (hlk : (M.1.cls, index, M'.1, host) ∈ ma_N) (hin : Cond.instanceMethod M'.1 ∈ ma_tbl) (hse : Cond.selects M'.1.cls M'.1 M'.1 ∈ ma_tbl) (hst0 : st = As.reverse ++ .ref b :: rest) (hn : As.length = n) (hlen : (lg_sl (.ref b :: As)).length ≤ M'.2.2.1) (hrs : (rest.map fun v => v.category).sum ≤ 8) (hk : kc1 + kc' ≤ kc ∧ ks1 + ks' ≤ ks) (hd : decode M.2.1 pc = .ok (.invokevirtual index, 3))
    (K : ∀ (v : Option Value) (hp' : hp_T), Q' v hp' → ma_V l D ca EX M (d + 1) kc1 ks1 hp' Q (pc + 3) lv (v.toList ++ rest)) : ma_V l D ca EX M (d + 1) kc ks hp Q pc lv st := by
  intro p e R s m args below meth c A Z H locs cells slots ls hC hX hA hE hR hS hc hs hl
  subst hst0
  obtain ⟨hx, hb0, hml, hown, hts, hW, hnm, hfr, hlo⟩ := id hC
  obtain ⟨ws, hP, hD, hw⟩ := id hR
  obtain ⟨k, hkk⟩ := hw _ _ hb
  have hpre : PreV s H M'.1.cls b (va_Pc (.ref b :: As) (ma_B D ca A hp)) As := ⟨ma_blind, va_recv hW.1 hP hcl hkk, ma_pre hC hA hR hS⟩
  have cw := va_cnB (R := R) (s := s) (args := args) (own := M.1.cls) (host := host) (index := index) (y := M'.1) (rm := ma_rm d kc' ks') n hts hok.good rfl rfl rfl (hW.2.1 _ hlk) (hts _ hok.2.2.2.1) hok.2.1 (ma_room hok.2.2.2.2 hfr hlo)
  have hr := va_runVN (below := below) (p := p) (e := e) (meth := meth) (locs := locs) (cells := cells) (slots := slots) (rest := rest) (g := F0 m pc ls (As.reverse ++ .ref b :: rest)) ⟨hx, hb0, hml, hown, hts⟩ (ma_met hV hok.1 hlen A) ⟨cw, hts _ hin, hts _ hse⟩ hpre rfl hn hl.1 rfl (lv_room hrs) hd ⟨by omega, by omega⟩
  exact ma_go hr hS (fun v hp' H1 locs1 hq hR1 hS1 => K v hp' hq p e R s m args below meth c A Z H1 locs1 (cells + kc') (slots + ks') ls hC hX hA hE hR1 hS1 (by omega) (by omega) hl)
theorem rv_callS {kc' ks' kc1 ks1 n index : Nat} {As rest : List Value} (hV : ma_V l D ca ma_T M' d kc' ks' hp Q' 0 (lv_args 0 (As)) []) (hok : ma_Ok M' n) (hlk : Cond.methodLink M.1.cls index M'.1 ∈ ma_tbl) (hst : Cond.static M'.1 ∈ ma_tbl) (hst0 : st = As.reverse ++ rest) (hn : As.length = n) (hlen : (lg_sl (As)).length ≤ M'.2.2.1) (hrs : (rest.map fun v => v.category).sum ≤ 8) (hk : kc1 + kc' ≤ kc ∧ ks1 + ks' ≤ ks) (hd : decode M.2.1 pc = .ok (.invokestatic index, 3))
    (K : ∀ (v : Option Value) (hp' : hp_T), Q' v hp' → ma_V l D ca EX M (d + 1) kc1 ks1 hp' Q (pc + 3) lv (v.toList ++ rest)) : ma_V l D ca EX M (d + 1) kc ks hp Q pc lv st := by
  intro p e R s m args below meth c A Z H locs cells slots ls hC hX hA hE hR hS hc hs hl
  subst hst0
  obtain ⟨hx, hb0, hml, hown, hts, hW, hnm, hfr, hlo⟩ := id hC
  have hpre : PreS s H (va_Pc (As) (ma_B D ca A hp)) As := ⟨ma_blind, ma_pre hC hA hR hS⟩
  have hg : GoodIn ma_tbl (va_wsS M.1.cls index M'.1 (ma_ws M')) := fun w h => by
    unfold va_wsS at h
    rcases List.mem_append.mp h with h | h
    · simp only [List.mem_cons, List.not_mem_nil, or_false] at h
      rcases h with rfl | rfl | rfl
      · exact ⟨hlk, ma_tbl_good hlk⟩
      · exact ⟨hst, ma_tbl_good hst⟩
      · exact ⟨hok.2.2.2.1, ma_tbl_good hok.2.2.2.1⟩
    · exact hok.good w h
  have cw := va_cwS (R := R) (s := s) (args := args) (own := M.1.cls) (index := index) (y := M'.1) (rm := ma_rm d kc' ks') n hts hg rfl rfl rfl hok.2.1 (ma_room hok.2.2.2.2 hfr hlo)
  have hr := va_runS (below := below) (p := p) (e := e) (meth := meth) (locs := locs) (cells := cells) (slots := slots) (rest := rest) (g := F0 m pc ls (As.reverse ++ rest)) ⟨hx, hb0, hml, hown, hts⟩ (ma_met hV hok.1 hlen A) cw hpre rfl hn hl.1 rfl (lv_room hrs) hd ⟨by omega, by omega⟩
  exact ma_go hr hS (fun v hp' H1 locs1 hq hR1 hS1 => K v hp' hq p e R s m args below meth c A Z H1 locs1 (cells + kc') (slots + ks') ls hC hX hA hE hR1 hS1 (by omega) (by omega) hl)
theorem rv_callSN {kc' ks' kc1 ks1 n index : Nat} {As rest : List Value} (hV : ma_V l D ca ma_T M' d kc' ks' hp Q' 0 (lv_args 0 (As)) []) (hok : ma_Ok M' n) {host : String} (hlk : (M.1.cls, index, M'.1, host) ∈ ma_N) (hst : Cond.static M'.1 ∈ ma_tbl) (hst0 : st = As.reverse ++ rest) (hn : As.length = n) (hlen : (lg_sl (As)).length ≤ M'.2.2.1) (hrs : (rest.map fun v => v.category).sum ≤ 8) (hk : kc1 + kc' ≤ kc ∧ ks1 + ks' ≤ ks) (hd : decode M.2.1 pc = .ok (.invokestatic index, 3))
    (K : ∀ (v : Option Value) (hp' : hp_T), Q' v hp' → ma_V l D ca EX M (d + 1) kc1 ks1 hp' Q (pc + 3) lv (v.toList ++ rest)) : ma_V l D ca EX M (d + 1) kc ks hp Q pc lv st := by
  intro p e R s m args below meth c A Z H locs cells slots ls hC hX hA hE hR hS hc hs hl
  subst hst0
  obtain ⟨hx, hb0, hml, hown, hts, hW, hnm, hfr, hlo⟩ := id hC
  have hpre : PreS s H (va_Pc (As) (ma_B D ca A hp)) As := ⟨ma_blind, ma_pre hC hA hR hS⟩
  have cw := va_cnB (R := R) (s := s) (args := args) (own := M.1.cls) (host := host) (index := index) (y := M'.1) (rm := ma_rm d kc' ks') n hts hok.good rfl rfl rfl (hW.2.1 _ hlk) (hts _ hok.2.2.2.1) hok.2.1 (ma_room hok.2.2.2.2 hfr hlo)
  have hr := va_runSN (below := below) (p := p) (e := e) (meth := meth) (locs := locs) (cells := cells) (slots := slots) (rest := rest) (g := F0 m pc ls (As.reverse ++ rest)) ⟨hx, hb0, hml, hown, hts⟩ (ma_met hV hok.1 hlen A) ⟨cw, hts _ hst, trivial⟩ hpre rfl hn hl.1 rfl (lv_room hrs) hd ⟨by omega, by omega⟩
  exact ma_go hr hS (fun v hp' H1 locs1 hq hR1 hS1 => K v hp' hq p e R s m args below meth c A Z H1 locs1 (cells + kc') (slots + ks') ls hC hX hA hE hR1 hS1 (by omega) (by omega) hl)
theorem rv_callI {kc' ks' kc1 ks1 n index : Nat} {As rest : List Value} {b : Nat} (hV : ma_V l D ca ma_T M' d kc' ks' hp Q' 0 (lv_args 0 (.ref b :: As)) []) (hok : ma_Ok M' n) (hlk : Cond.methodLink M.1.cls index M'.1 ∈ ma_tbl) (hin : Cond.instanceMethod M'.1 ∈ ma_tbl) (hy1 : M'.1.name = "<init>") (hrn : M'.2.2.2 = none) (hst0 : st = As.reverse ++ .ref b :: rest) (hn : As.length = n) (hlen : (lg_sl (.ref b :: As)).length ≤ M'.2.2.1) (hrs : (rest.map fun v => v.category).sum ≤ 8) (hk : kc1 + kc' ≤ kc ∧ ks1 + ks' ≤ ks) (hd : decode M.2.1 pc = .ok (.invokespecial index, 3))
    (K : ∀ (v : Option Value) (hp' : hp_T), Q' v hp' → ma_V l D ca EX M (d + 1) kc1 ks1 hp' Q (pc + 3) lv (v.toList ++ rest)) : ma_V l D ca EX M (d + 1) kc ks hp Q pc lv st := by
  intro p e R s m args below meth c A Z H locs cells slots ls hC hX hA hE hR hS hc hs hl
  subst hst0
  obtain ⟨hx, hb0, hml, hown, hts, hW, hnm, hfr, hlo⟩ := id hC
  obtain ⟨y, bs, mL, rt⟩ := M'
  dsimp only at hrn
  subst hrn
  have hpre : PreS s H (va_Pc (.ref b :: As) (ma_B D ca A hp)) (.ref b :: As) := ⟨ma_blind, ma_pre hC hA hR hS⟩
  have cw := cwI (R := R) (s := s) (args := args) (own := M.1.cls) (index := index) (y := y) (rm := ma_rm d kc' ks') n hts hok.good rfl rfl rfl (hts _ hok.2.2.2.1) (hts _ hlk) (hts _ hin) hy1 hok.2.1 (ma_room hok.2.2.2.2 hfr hlo)
  have hr := va_runI (below := below) (p := p) (e := e) (meth := meth) (locs := locs) (cells := cells) (slots := slots) (rest := rest) (g := F0 m pc ls (As.reverse ++ .ref b :: rest)) ⟨hx, hb0, hml, hown, hts⟩ (ma_met hV hok.1 hlen A) cw hpre rfl hn hl.1 rfl (lv_room hrs) hd ⟨by omega, by omega⟩
  exact ma_go hr hS (fun v hp' H1 locs1 hq hR1 hS1 => K v hp' hq p e R s m args below meth c A Z H1 locs1 (cells + kc') (slots + ks') ls hC hX hA hE hR1 hS1 (by omega) (by omega) hl)
theorem rv_callIN {kc' ks' kc1 ks1 n index : Nat} {As rest : List Value} {b : Nat} (hV : ma_V l D ca ma_T M' d kc' ks' hp Q' 0 (lv_args 0 (.ref b :: As)) []) (hok : ma_Ok M' n) {host : String} (hlk : (M.1.cls, index, M'.1, host) ∈ ma_N) (hin : Cond.instanceMethod M'.1 ∈ ma_tbl) (hy1 : M'.1.name = "<init>") (hrn : M'.2.2.2 = none) (hst0 : st = As.reverse ++ .ref b :: rest) (hn : As.length = n) (hlen : (lg_sl (.ref b :: As)).length ≤ M'.2.2.1) (hrs : (rest.map fun v => v.category).sum ≤ 8) (hk : kc1 + kc' ≤ kc ∧ ks1 + ks' ≤ ks) (hd : decode M.2.1 pc = .ok (.invokespecial index, 3))
    (K : ∀ (v : Option Value) (hp' : hp_T), Q' v hp' → ma_V l D ca EX M (d + 1) kc1 ks1 hp' Q (pc + 3) lv (v.toList ++ rest)) : ma_V l D ca EX M (d + 1) kc ks hp Q pc lv st := by
  intro p e R s m args below meth c A Z H locs cells slots ls hC hX hA hE hR hS hc hs hl
  subst hst0
  obtain ⟨hx, hb0, hml, hown, hts, hW, hnm, hfr, hlo⟩ := id hC
  obtain ⟨y, bs, mL, rt⟩ := M'
  dsimp only at hrn
  subst hrn
  have hpre : PreS s H (va_Pc (.ref b :: As) (ma_B D ca A hp)) (.ref b :: As) := ⟨ma_blind, ma_pre hC hA hR hS⟩
  have cw := va_cnB (R := R) (s := s) (args := args) (own := M.1.cls) (host := host) (index := index) (y := y) (rm := ma_rm d kc' ks') n hts hok.good rfl rfl rfl (hW.2.1 _ hlk) (hts _ hok.2.2.2.1) hok.2.1 (ma_room hok.2.2.2.2 hfr hlo)
  have hr := va_runIN (below := below) (p := p) (e := e) (meth := meth) (locs := locs) (cells := cells) (slots := slots) (rest := rest) (g := F0 m pc ls (As.reverse ++ .ref b :: rest)) ⟨hx, hb0, hml, hown, hts⟩ (ma_met hV hok.1 hlen A) ⟨cw, hy1, hts _ hin⟩ hpre rfl hn hl.1 rfl (lv_room hrs) hd ⟨by omega, by omega⟩
  exact ma_go hr hS (fun v hp' H1 locs1 hq hR1 hS1 => K v hp' hq p e R s m args below meth c A Z H1 locs1 (cells + kc') (slots + ks') ls hC hX hA hE hR1 hS1 (by omega) (by omega) hl)
theorem rv_ki {d1 : Nat} {q : Int32 → hp_T → Prop} (K : ∀ (x : Int32) (hp' : hp_T), q x hp' → ma_V l D ca EX M d1 kc ks hp' Q pc lv (.int x :: st)) : ∀ (v : Option Value) (hp' : hp_T), ma_qi q v hp' → ma_V l D ca EX M d1 kc ks hp' Q pc lv (v.toList ++ st) := by
  rintro v hp' ⟨x, rfl, h⟩
  exact K x hp' h
theorem rv_kl {d1 : Nat} {q : Int64 → hp_T → Prop} (K : ∀ (x : Int64) (hp' : hp_T), q x hp' → ma_V l D ca EX M d1 kc ks hp' Q pc lv (.long x :: st)) : ∀ (v : Option Value) (hp' : hp_T), ma_ql q v hp' → ma_V l D ca EX M d1 kc ks hp' Q pc lv (v.toList ++ st) := by
  rintro v hp' ⟨x, rfl, h⟩
  exact K x hp' h
theorem rv_kv {d1 : Nat} {q : hp_T → Prop} (K : ∀ (hp' : hp_T), q hp' → ma_V l D ca EX M d1 kc ks hp' Q pc lv st) : ∀ (v : Option Value) (hp' : hp_T), ma_qv q v hp' → ma_V l D ca EX M d1 kc ks hp' Q pc lv (v.toList ++ st) := by
  rintro v hp' ⟨rfl, h⟩
  exact K hp' h
theorem rv_kr {d1 : Nat} {q : Nat → hp_T → Prop} (K : ∀ (x : Nat) (hp' : hp_T), q x hp' → ma_V l D ca EX M d1 kc ks hp' Q pc lv (.ref x :: st)) : ∀ (v : Option Value) (hp' : hp_T), ma_qr q v hp' → ma_V l D ca EX M d1 kc ks hp' Q pc lv (v.toList ++ st) := by
  rintro v hp' ⟨x, rfl, h⟩
  exact K x hp' h
theorem rv_kie {d1 : Nat} {r : Int32} (K : ma_V l D ca EX M d1 kc ks hp Q pc lv (.int r :: st)) : ∀ (v : Option Value) (hp' : hp_T), ma_qi (ma_eq r hp) v hp' → ma_V l D ca EX M d1 kc ks hp' Q pc lv (v.toList ++ st) := rv_ki (fun x hp' h => by
  obtain ⟨rfl, rfl⟩ := h
  exact K)
theorem rv_kle {d1 : Nat} {r : Int64} (K : ma_V l D ca EX M d1 kc ks hp Q pc lv (.long r :: st)) : ∀ (v : Option Value) (hp' : hp_T), ma_ql (ma_eq r hp) v hp' → ma_V l D ca EX M d1 kc ks hp' Q pc lv (v.toList ++ st) := rv_kl (fun x hp' h => by
  obtain ⟨rfl, rfl⟩ := h
  exact K)
theorem rv_mono {kc1 ks1 : Nat} (h1 : kc1 ≤ kc) (h2 : ks1 ≤ ks) (K : ma_V l D ca EX M d kc1 ks1 hp Q pc lv st) : ma_V l D ca EX M d kc ks hp Q pc lv st := by
  intro p e R s m args below meth c A Z H locs cells slots ls hC hX hA hE hR hS hc hs hl
  exact K p e R s m args below meth c A Z H locs cells slots ls hC hX hA hE hR hS (by omega) (by omega) hl
theorem rv_post (h : ∀ v hp', Q' v hp' → Q v hp') (K : ma_V l D ca EX M d kc ks hp Q' pc lv st) : ma_V l D ca EX M d kc ks hp Q pc lv st := by
  intro p e R s m args below meth c A Z H locs cells slots ls hC hX hA hE hR hS hc hs hl
  exact K p e R s m args below meth c A Z H locs cells slots ls hC hX hA (fun a b v hp' c1 d1 e1 f1 g1 h1 => hE a b v hp' c1 d1 e1 f1 g1 (h _ _ h1)) hR hS hc hs hl
theorem rv_lv {lv' : List (Nat × Value)} (ps : List Nat) (h : lv_pick lv ps = lv') (K : ma_V l D ca EX M d kc ks hp Q pc lv' st) : ma_V l D ca EX M d kc ks hp Q pc lv st := by
  intro p e R s m args below meth c A Z H locs cells slots ls hC hX hA hE hR hS hc hs hl
  exact K p e R s m args below meth c A Z H locs cells slots ls hC hX hA hE hR hS hc hs (lv_sub hl ps h)
theorem rv_st {st' : List Value} (h : st = st') (K : ma_V l D ca EX M d kc ks hp Q pc lv st') : ma_V l D ca EX M d kc ks hp Q pc lv st := h ▸ K
theorem rv_pc {pc' : Nat} (h : pc = pc') (K : ma_V l D ca EX M d kc ks hp Q pc' lv st) : ma_V l D ca EX M d kc ks hp Q pc lv st := h ▸ K

theorem rv_ireturn {x : Int32} {ty : FieldType} (hq : Q (some (.int x)) hp) (hd : decode M.2.1 pc = .ok (.ireturn, 1)) (hr : M.2.2.2 = some ty) (hn : narrow ty (.int x) = .int x) : ma_V l D ca EX M d kc ks hp Q pc lv [.int x] := by
  intro p e R s m args below meth c A Z H locs cells slots ls hC hX hA hE hR hS hc hs hl
  exact hE pc ls (some (.int x)) hp H locs cells slots (Or.inr (Or.inl ⟨x, ty, rfl, hd, hr, hn⟩)) hq hR hS (by omega) (by omega)
theorem rv_lreturn {x : Int64} (hq : Q (some (.long x)) hp) (hd : decode M.2.1 pc = .ok (.lreturn, 1)) (hr : M.2.2.2 = some .long) : ma_V l D ca EX M d kc ks hp Q pc lv [.long x] := by
  intro p e R s m args below meth c A Z H locs cells slots ls hC hX hA hE hR hS hc hs hl
  exact hE pc ls (some (.long x)) hp H locs cells slots (Or.inr (Or.inr (Or.inl ⟨x, rfl, hd, hr⟩))) hq hR hS (by omega) (by omega)
theorem rv_vreturn (hq : Q none hp) (hd : decode M.2.1 pc = .ok (.return_, 1)) (hr : M.2.2.2 = none) : ma_V l D ca EX M d kc ks hp Q pc lv [] := by
  intro p e R s m args below meth c A Z H locs cells slots ls hC hX hA hE hR hS hc hs hl
  exact hE pc ls none hp H locs cells slots (Or.inl ⟨rfl, hd, hr⟩) hq hR hS (by omega) (by omega)
theorem rv_areturn {x : Nat} {C : String} (hq : Q (some (.ref x)) hp) (hd : decode M.2.1 pc = .ok (.areturn, 1)) (hr : M.2.2.2 = some (.object C)) : ma_V l D ca EX M d kc ks hp Q pc lv [.ref x] := by
  intro p e R s m args below meth c A Z H locs cells slots ls hC hX hA hE hR hS hc hs hl
  exact hE pc ls (some (.ref x)) hp H locs cells slots (Or.inr (Or.inr (Or.inr ⟨.ref x, _, rfl, hd, hr, Or.inl ⟨_, rfl⟩, Or.inr ⟨_, rfl⟩⟩))) hq hR hS (by omega) (by omega)
theorem rv_iconst {n : Int} {v : Int32} (hd : decode M.2.1 pc = .ok (.iconst n, 1)) (hv : Int32.ofInt n = v) (K : ma_V l D ca EX M d kc ks hp Q (pc + 1) lv (.int v :: st)) : ma_V l D ca EX M d kc ks hp Q pc lv (st) := by
  intro p e R s m args below meth c A Z H locs cells slots ls hC hX hA hE hR hS hc hs hl
  exact lv_iconst hC.1 hC.2.1 hd hv (K p e R s m args below meth c A Z H locs cells slots ls hC hX hA hE hR hS hc hs hl)
theorem rv_bipush {n : Int} {v : Int32} (hd : decode M.2.1 pc = .ok (.bipush n, 2)) (hv : (Int8.ofInt n).toInt32 = v) (K : ma_V l D ca EX M d kc ks hp Q (pc + 2) lv (.int v :: st)) : ma_V l D ca EX M d kc ks hp Q pc lv (st) := by
  intro p e R s m args below meth c A Z H locs cells slots ls hC hX hA hE hR hS hc hs hl
  exact lv_bipush hC.1 hC.2.1 hd hv (K p e R s m args below meth c A Z H locs cells slots ls hC hX hA hE hR hS hc hs hl)
theorem rv_sipush {n : Int} {v : Int32} (hd : decode M.2.1 pc = .ok (.sipush n, 3)) (hv : (Int16.ofInt n).toInt32 = v) (K : ma_V l D ca EX M d kc ks hp Q (pc + 3) lv (.int v :: st)) : ma_V l D ca EX M d kc ks hp Q pc lv (st) := by
  intro p e R s m args below meth c A Z H locs cells slots ls hC hX hA hE hR hS hc hs hl
  exact lv_sipush hC.1 hC.2.1 hd hv (K p e R s m args below meth c A Z H locs cells slots ls hC hX hA hE hR hS hc hs hl)
theorem rv_lconst {n : Fin 2} {v : Int64} (hd : decode M.2.1 pc = .ok (.lconst n, 1)) (hv : Int64.ofNat (n : Nat) = v) (K : ma_V l D ca EX M d kc ks hp Q (pc + 1) lv (.long v :: st)) : ma_V l D ca EX M d kc ks hp Q pc lv (st) := by
  intro p e R s m args below meth c A Z H locs cells slots ls hC hX hA hE hR hS hc hs hl
  exact lv_lconst hC.1 hC.2.1 hd hv (K p e R s m args below meth c A Z H locs cells slots ls hC hX hA hE hR hS hc hs hl)
theorem rv_ldc {index : Nat} {v : Int32} (hd : decode M.2.1 pc = .ok (.ldc index, 2)) (hw : Cond.constant M.1.cls index v ∈ ma_tbl) (K : ma_V l D ca EX M d kc ks hp Q (pc + 2) lv (.int v :: st)) : ma_V l D ca EX M d kc ks hp Q pc lv (st) := by
  intro p e R s m args below meth c A Z H locs cells slots ls hC hX hA hE hR hS hc hs hl
  exact lv_ldc hC.1 hC.2.1 hC.2.2.2.1 (hC.2.2.2.2.1 _ hw) hd (K p e R s m args below meth c A Z H locs cells slots ls hC hX hA hE hR hS hc hs hl)
theorem rv_ldcw {index : Nat} {v : Int32} (hd : decode M.2.1 pc = .ok (.ldc_w index, 3)) (hw : Cond.constant M.1.cls index v ∈ ma_tbl) (K : ma_V l D ca EX M d kc ks hp Q (pc + 3) lv (.int v :: st)) : ma_V l D ca EX M d kc ks hp Q pc lv (st) := by
  intro p e R s m args below meth c A Z H locs cells slots ls hC hX hA hE hR hS hc hs hl
  exact lv_ldcw hC.1 hC.2.1 hC.2.2.2.1 (hC.2.2.2.2.1 _ hw) hd (K p e R s m args below meth c A Z H locs cells slots ls hC hX hA hE hR hS hc hs hl)
theorem rv_ldc2 {index : Nat} {v : Int64} (hd : decode M.2.1 pc = .ok (.ldc2_w index, 3)) (hw : Cond.constantLong M.1.cls index v ∈ ma_tbl) (K : ma_V l D ca EX M d kc ks hp Q (pc + 3) lv (.long v :: st)) : ma_V l D ca EX M d kc ks hp Q pc lv (st) := by
  intro p e R s m args below meth c A Z H locs cells slots ls hC hX hA hE hR hS hc hs hl
  exact lv_ldc2 hC.1 hC.2.1 hC.2.2.2.1 (hC.2.2.2.2.1 _ hw) hd (K p e R s m args below meth c A Z H locs cells slots ls hC hX hA hE hR hS hc hs hl)
theorem rv_iload_n {k : Fin 4} {i : Nat} {x : Int32} (hd : decode M.2.1 pc = .ok (.iload_n k, 1)) (hi : (k : Nat) = i) (j : Nat) (hv : lv[j]? = some (i, .int x)) (K : ma_V l D ca EX M d kc ks hp Q (pc + 1) lv (.int x :: st)) : ma_V l D ca EX M d kc ks hp Q pc lv (st) := by
  intro p e R s m args below meth c A Z H locs cells slots ls hC hX hA hE hR hS hc hs hl
  exact lv_iload_n hC.1 hC.2.1 hd hi (lv_at hl j hv) (K p e R s m args below meth c A Z H locs cells slots ls hC hX hA hE hR hS hc hs hl)
theorem rv_iload {i : Nat} {x : Int32} (hd : decode M.2.1 pc = .ok (.iload i, 2)) (j : Nat) (hv : lv[j]? = some (i, .int x)) (K : ma_V l D ca EX M d kc ks hp Q (pc + 2) lv (.int x :: st)) : ma_V l D ca EX M d kc ks hp Q pc lv (st) := by
  intro p e R s m args below meth c A Z H locs cells slots ls hC hX hA hE hR hS hc hs hl
  exact lv_iload hC.1 hC.2.1 hd (lv_at hl j hv) (K p e R s m args below meth c A Z H locs cells slots ls hC hX hA hE hR hS hc hs hl)
theorem rv_istore_n {k : Fin 4} {i : Nat} {x : Int32} {lv' : List (Nat × Value)} (hd : decode M.2.1 pc = .ok (.istore_n k, 1)) (hi : (k : Nat) = i) (hn : i < M.2.2.1) (hv : (i, Value.int x) :: lv.filter (fun q => !(q.1 == i) && !(q.1 + 1 == i && q.2.category == 2)) = lv') (K : ma_V l D ca EX M d kc ks hp Q (pc + 1) lv' st) : ma_V l D ca EX M d kc ks hp Q pc lv (.int x :: st) := by
  intro p e R s m args below meth c A Z H locs cells slots ls hC hX hA hE hR hS hc hs hl
  exact lv_istore_n hC.1 hC.2.1 hd hi hl hn hv (fun ls' hl' => K p e R s m args below meth c A Z H locs cells slots ls' hC hX hA hE hR hS hc hs hl')
theorem rv_istore {i : Nat} {x : Int32} {lv' : List (Nat × Value)} (hd : decode M.2.1 pc = .ok (.istore i, 2)) (hn : i < M.2.2.1) (hv : (i, Value.int x) :: lv.filter (fun q => !(q.1 == i) && !(q.1 + 1 == i && q.2.category == 2)) = lv') (K : ma_V l D ca EX M d kc ks hp Q (pc + 2) lv' st) : ma_V l D ca EX M d kc ks hp Q pc lv (.int x :: st) := by
  intro p e R s m args below meth c A Z H locs cells slots ls hC hX hA hE hR hS hc hs hl
  exact lv_istore hC.1 hC.2.1 hd hl hn hv (fun ls' hl' => K p e R s m args below meth c A Z H locs cells slots ls' hC hX hA hE hR hS hc hs hl')
theorem rv_lload_n {k : Fin 4} {i : Nat} {x : Int64} (hd : decode M.2.1 pc = .ok (.lload_n k, 1)) (hi : (k : Nat) = i) (j : Nat) (hv : lv[j]? = some (i, .long x)) (K : ma_V l D ca EX M d kc ks hp Q (pc + 1) lv (.long x :: st)) : ma_V l D ca EX M d kc ks hp Q pc lv (st) := by
  intro p e R s m args below meth c A Z H locs cells slots ls hC hX hA hE hR hS hc hs hl
  exact lv_lload_n hC.1 hC.2.1 hd hi (lv_at hl j hv) (K p e R s m args below meth c A Z H locs cells slots ls hC hX hA hE hR hS hc hs hl)
theorem rv_lload {i : Nat} {x : Int64} (hd : decode M.2.1 pc = .ok (.lload i, 2)) (j : Nat) (hv : lv[j]? = some (i, .long x)) (K : ma_V l D ca EX M d kc ks hp Q (pc + 2) lv (.long x :: st)) : ma_V l D ca EX M d kc ks hp Q pc lv (st) := by
  intro p e R s m args below meth c A Z H locs cells slots ls hC hX hA hE hR hS hc hs hl
  exact lv_lload hC.1 hC.2.1 hd (lv_at hl j hv) (K p e R s m args below meth c A Z H locs cells slots ls hC hX hA hE hR hS hc hs hl)
theorem rv_lstore_n {k : Fin 4} {i : Nat} {x : Int64} {lv' : List (Nat × Value)} (hd : decode M.2.1 pc = .ok (.lstore_n k, 1)) (hi : (k : Nat) = i) (hn : i + 1 < M.2.2.1) (hv : (i, Value.long x) :: lv.filter (fun q => !(q.1 == i) && (!(q.1 == i + 1) && !(q.1 + 1 == i && q.2.category == 2))) = lv') (K : ma_V l D ca EX M d kc ks hp Q (pc + 1) lv' st) : ma_V l D ca EX M d kc ks hp Q pc lv (.long x :: st) := by
  intro p e R s m args below meth c A Z H locs cells slots ls hC hX hA hE hR hS hc hs hl
  exact lv_lstore_n hC.1 hC.2.1 hd hi hl hn hv (fun ls' hl' => K p e R s m args below meth c A Z H locs cells slots ls' hC hX hA hE hR hS hc hs hl')
theorem rv_lstore {i : Nat} {x : Int64} {lv' : List (Nat × Value)} (hd : decode M.2.1 pc = .ok (.lstore i, 2)) (hn : i + 1 < M.2.2.1) (hv : (i, Value.long x) :: lv.filter (fun q => !(q.1 == i) && (!(q.1 == i + 1) && !(q.1 + 1 == i && q.2.category == 2))) = lv') (K : ma_V l D ca EX M d kc ks hp Q (pc + 2) lv' st) : ma_V l D ca EX M d kc ks hp Q pc lv (.long x :: st) := by
  intro p e R s m args below meth c A Z H locs cells slots ls hC hX hA hE hR hS hc hs hl
  exact lv_lstore hC.1 hC.2.1 hd hl hn hv (fun ls' hl' => K p e R s m args below meth c A Z H locs cells slots ls' hC hX hA hE hR hS hc hs hl')
theorem rv_aload_n {k : Fin 4} {i : Nat} {x : Nat} (hd : decode M.2.1 pc = .ok (.aload_n k, 1)) (hi : (k : Nat) = i) (j : Nat) (hv : lv[j]? = some (i, .ref x)) (K : ma_V l D ca EX M d kc ks hp Q (pc + 1) lv (.ref x :: st)) : ma_V l D ca EX M d kc ks hp Q pc lv (st) := by
  intro p e R s m args below meth c A Z H locs cells slots ls hC hX hA hE hR hS hc hs hl
  exact lv_aload_n hC.1 hC.2.1 hd hi (lv_at hl j hv) (K p e R s m args below meth c A Z H locs cells slots ls hC hX hA hE hR hS hc hs hl)
theorem rv_aload {i : Nat} {x : Nat} (hd : decode M.2.1 pc = .ok (.aload i, 2)) (j : Nat) (hv : lv[j]? = some (i, .ref x)) (K : ma_V l D ca EX M d kc ks hp Q (pc + 2) lv (.ref x :: st)) : ma_V l D ca EX M d kc ks hp Q pc lv (st) := by
  intro p e R s m args below meth c A Z H locs cells slots ls hC hX hA hE hR hS hc hs hl
  exact lv_aload hC.1 hC.2.1 hd (lv_at hl j hv) (K p e R s m args below meth c A Z H locs cells slots ls hC hX hA hE hR hS hc hs hl)
theorem rv_astore_n {k : Fin 4} {i : Nat} {x : Nat} {lv' : List (Nat × Value)} (hd : decode M.2.1 pc = .ok (.astore_n k, 1)) (hi : (k : Nat) = i) (hn : i < M.2.2.1) (hv : (i, Value.ref x) :: lv.filter (fun q => !(q.1 == i) && !(q.1 + 1 == i && q.2.category == 2)) = lv') (K : ma_V l D ca EX M d kc ks hp Q (pc + 1) lv' st) : ma_V l D ca EX M d kc ks hp Q pc lv (.ref x :: st) := by
  intro p e R s m args below meth c A Z H locs cells slots ls hC hX hA hE hR hS hc hs hl
  exact lv_astore_n hC.1 hC.2.1 hd hi hl hn hv (fun ls' hl' => K p e R s m args below meth c A Z H locs cells slots ls' hC hX hA hE hR hS hc hs hl')
theorem rv_astore {i : Nat} {x : Nat} {lv' : List (Nat × Value)} (hd : decode M.2.1 pc = .ok (.astore i, 2)) (hn : i < M.2.2.1) (hv : (i, Value.ref x) :: lv.filter (fun q => !(q.1 == i) && !(q.1 + 1 == i && q.2.category == 2)) = lv') (K : ma_V l D ca EX M d kc ks hp Q (pc + 2) lv' st) : ma_V l D ca EX M d kc ks hp Q pc lv (.ref x :: st) := by
  intro p e R s m args below meth c A Z H locs cells slots ls hC hX hA hE hR hS hc hs hl
  exact lv_astore hC.1 hC.2.1 hd hl hn hv (fun ls' hl' => K p e R s m args below meth c A Z H locs cells slots ls' hC hX hA hE hR hS hc hs hl')
theorem rv_iinc {i k : Nat} {n : Int} {x v : Int32} {lv' : List (Nat × Value)} (hd : decode M.2.1 pc = .ok (.iinc i n, 3)) (hk : lv[k]? = some (i, .int x)) (hv : x + Int32.ofInt n = v) (hn : i < M.2.2.1) (hl' : (i, Value.int v) :: lv.filter (fun q => !(q.1 == i) && !(q.1 + 1 == i && q.2.category == 2)) = lv') (K : ma_V l D ca EX M d kc ks hp Q (pc + 3) lv' st) : ma_V l D ca EX M d kc ks hp Q pc lv st := by
  intro p e R s m args below meth c A Z H locs cells slots ls hC hX hA hE hR hS hc hs hl
  exact lv_iinc hC.1 hC.2.1 hd hl hk hv hn hl' (fun ls' hl'' => K p e R s m args below meth c A Z H locs cells slots ls' hC hX hA hE hR hS hc hs hl'')
theorem rv_iadd {x y : Int32} (hd : decode M.2.1 pc = .ok (.iadd, 1))  (K : ma_V l D ca EX M d kc ks hp Q (pc + 1) lv (.int (x + y) :: st)) : ma_V l D ca EX M d kc ks hp Q pc lv (.int y :: .int x :: st) := by
  intro p e R s m args below meth c A Z H locs cells slots ls hC hX hA hE hR hS hc hs hl
  exact lv_iadd hC.1 hC.2.1 hd (K p e R s m args below meth c A Z H locs cells slots ls hC hX hA hE hR hS hc hs hl)
theorem rv_isub {x y : Int32} (hd : decode M.2.1 pc = .ok (.isub, 1))  (K : ma_V l D ca EX M d kc ks hp Q (pc + 1) lv (.int (x - y) :: st)) : ma_V l D ca EX M d kc ks hp Q pc lv (.int y :: .int x :: st) := by
  intro p e R s m args below meth c A Z H locs cells slots ls hC hX hA hE hR hS hc hs hl
  exact lv_isub hC.1 hC.2.1 hd (K p e R s m args below meth c A Z H locs cells slots ls hC hX hA hE hR hS hc hs hl)
theorem rv_imul {x y : Int32} (hd : decode M.2.1 pc = .ok (.imul, 1))  (K : ma_V l D ca EX M d kc ks hp Q (pc + 1) lv (.int (x * y) :: st)) : ma_V l D ca EX M d kc ks hp Q pc lv (.int y :: .int x :: st) := by
  intro p e R s m args below meth c A Z H locs cells slots ls hC hX hA hE hR hS hc hs hl
  exact lv_imul hC.1 hC.2.1 hd (K p e R s m args below meth c A Z H locs cells slots ls hC hX hA hE hR hS hc hs hl)
theorem rv_iand {x y : Int32} (hd : decode M.2.1 pc = .ok (.iand, 1))  (K : ma_V l D ca EX M d kc ks hp Q (pc + 1) lv (.int (x &&& y) :: st)) : ma_V l D ca EX M d kc ks hp Q pc lv (.int y :: .int x :: st) := by
  intro p e R s m args below meth c A Z H locs cells slots ls hC hX hA hE hR hS hc hs hl
  exact lv_iand hC.1 hC.2.1 hd (K p e R s m args below meth c A Z H locs cells slots ls hC hX hA hE hR hS hc hs hl)
theorem rv_ior {x y : Int32} (hd : decode M.2.1 pc = .ok (.ior, 1))  (K : ma_V l D ca EX M d kc ks hp Q (pc + 1) lv (.int (x ||| y) :: st)) : ma_V l D ca EX M d kc ks hp Q pc lv (.int y :: .int x :: st) := by
  intro p e R s m args below meth c A Z H locs cells slots ls hC hX hA hE hR hS hc hs hl
  exact lv_ior hC.1 hC.2.1 hd (K p e R s m args below meth c A Z H locs cells slots ls hC hX hA hE hR hS hc hs hl)
theorem rv_ixor {x y : Int32} (hd : decode M.2.1 pc = .ok (.ixor, 1))  (K : ma_V l D ca EX M d kc ks hp Q (pc + 1) lv (.int (x ^^^ y) :: st)) : ma_V l D ca EX M d kc ks hp Q pc lv (.int y :: .int x :: st) := by
  intro p e R s m args below meth c A Z H locs cells slots ls hC hX hA hE hR hS hc hs hl
  exact lv_ixor hC.1 hC.2.1 hd (K p e R s m args below meth c A Z H locs cells slots ls hC hX hA hE hR hS hc hs hl)
theorem rv_ishl {x y : Int32} (hd : decode M.2.1 pc = .ok (.ishl, 1))  (K : ma_V l D ca EX M d kc ks hp Q (pc + 1) lv (.int (x <<< (y &&& 31)) :: st)) : ma_V l D ca EX M d kc ks hp Q pc lv (.int y :: .int x :: st) := by
  intro p e R s m args below meth c A Z H locs cells slots ls hC hX hA hE hR hS hc hs hl
  exact lv_ishl hC.1 hC.2.1 hd (K p e R s m args below meth c A Z H locs cells slots ls hC hX hA hE hR hS hc hs hl)
theorem rv_ishr {x y : Int32} (hd : decode M.2.1 pc = .ok (.ishr, 1))  (K : ma_V l D ca EX M d kc ks hp Q (pc + 1) lv (.int (x >>> (y &&& 31)) :: st)) : ma_V l D ca EX M d kc ks hp Q pc lv (.int y :: .int x :: st) := by
  intro p e R s m args below meth c A Z H locs cells slots ls hC hX hA hE hR hS hc hs hl
  exact lv_ishr hC.1 hC.2.1 hd (K p e R s m args below meth c A Z H locs cells slots ls hC hX hA hE hR hS hc hs hl)
theorem rv_idiv {x y : Int32} (hd : decode M.2.1 pc = .ok (.idiv, 1)) (hne : ¬ y = 0) (K : ma_V l D ca EX M d kc ks hp Q (pc + 1) lv (.int (x / y) :: st)) : ma_V l D ca EX M d kc ks hp Q pc lv (.int y :: .int x :: st) := by
  intro p e R s m args below meth c A Z H locs cells slots ls hC hX hA hE hR hS hc hs hl
  exact lv_idiv hC.1 hC.2.1 hd hne (K p e R s m args below meth c A Z H locs cells slots ls hC hX hA hE hR hS hc hs hl)
theorem rv_irem {x y : Int32} (hd : decode M.2.1 pc = .ok (.irem, 1)) (hne : ¬ y = 0) (K : ma_V l D ca EX M d kc ks hp Q (pc + 1) lv (.int (x - x / y * y) :: st)) : ma_V l D ca EX M d kc ks hp Q pc lv (.int y :: .int x :: st) := by
  intro p e R s m args below meth c A Z H locs cells slots ls hC hX hA hE hR hS hc hs hl
  exact lv_irem hC.1 hC.2.1 hd hne (K p e R s m args below meth c A Z H locs cells slots ls hC hX hA hE hR hS hc hs hl)
theorem rv_ineg {x : Int32} (hd : decode M.2.1 pc = .ok (.ineg, 1))  (K : ma_V l D ca EX M d kc ks hp Q (pc + 1) lv (.int (-x) :: st)) : ma_V l D ca EX M d kc ks hp Q pc lv (.int x :: st) := by
  intro p e R s m args below meth c A Z H locs cells slots ls hC hX hA hE hR hS hc hs hl
  exact lv_ineg hC.1 hC.2.1 hd (K p e R s m args below meth c A Z H locs cells slots ls hC hX hA hE hR hS hc hs hl)
theorem rv_ladd {x y : Int64} (hd : decode M.2.1 pc = .ok (.ladd, 1))  (K : ma_V l D ca EX M d kc ks hp Q (pc + 1) lv (.long (x + y) :: st)) : ma_V l D ca EX M d kc ks hp Q pc lv (.long y :: .long x :: st) := by
  intro p e R s m args below meth c A Z H locs cells slots ls hC hX hA hE hR hS hc hs hl
  exact lv_ladd hC.1 hC.2.1 hd (K p e R s m args below meth c A Z H locs cells slots ls hC hX hA hE hR hS hc hs hl)
theorem rv_lsub {x y : Int64} (hd : decode M.2.1 pc = .ok (.lsub, 1))  (K : ma_V l D ca EX M d kc ks hp Q (pc + 1) lv (.long (x - y) :: st)) : ma_V l D ca EX M d kc ks hp Q pc lv (.long y :: .long x :: st) := by
  intro p e R s m args below meth c A Z H locs cells slots ls hC hX hA hE hR hS hc hs hl
  exact lv_lsub hC.1 hC.2.1 hd (K p e R s m args below meth c A Z H locs cells slots ls hC hX hA hE hR hS hc hs hl)
theorem rv_lmul {x y : Int64} (hd : decode M.2.1 pc = .ok (.lmul, 1))  (K : ma_V l D ca EX M d kc ks hp Q (pc + 1) lv (.long (x * y) :: st)) : ma_V l D ca EX M d kc ks hp Q pc lv (.long y :: .long x :: st) := by
  intro p e R s m args below meth c A Z H locs cells slots ls hC hX hA hE hR hS hc hs hl
  exact lv_lmul hC.1 hC.2.1 hd (K p e R s m args below meth c A Z H locs cells slots ls hC hX hA hE hR hS hc hs hl)
theorem rv_land {x y : Int64} (hd : decode M.2.1 pc = .ok (.land, 1))  (K : ma_V l D ca EX M d kc ks hp Q (pc + 1) lv (.long (x &&& y) :: st)) : ma_V l D ca EX M d kc ks hp Q pc lv (.long y :: .long x :: st) := by
  intro p e R s m args below meth c A Z H locs cells slots ls hC hX hA hE hR hS hc hs hl
  exact lv_land hC.1 hC.2.1 hd (K p e R s m args below meth c A Z H locs cells slots ls hC hX hA hE hR hS hc hs hl)
theorem rv_lor {x y : Int64} (hd : decode M.2.1 pc = .ok (.lor, 1))  (K : ma_V l D ca EX M d kc ks hp Q (pc + 1) lv (.long (x ||| y) :: st)) : ma_V l D ca EX M d kc ks hp Q pc lv (.long y :: .long x :: st) := by
  intro p e R s m args below meth c A Z H locs cells slots ls hC hX hA hE hR hS hc hs hl
  exact lv_lor hC.1 hC.2.1 hd (K p e R s m args below meth c A Z H locs cells slots ls hC hX hA hE hR hS hc hs hl)
theorem rv_lxor {x y : Int64} (hd : decode M.2.1 pc = .ok (.lxor, 1))  (K : ma_V l D ca EX M d kc ks hp Q (pc + 1) lv (.long (x ^^^ y) :: st)) : ma_V l D ca EX M d kc ks hp Q pc lv (.long y :: .long x :: st) := by
  intro p e R s m args below meth c A Z H locs cells slots ls hC hX hA hE hR hS hc hs hl
  exact lv_lxor hC.1 hC.2.1 hd (K p e R s m args below meth c A Z H locs cells slots ls hC hX hA hE hR hS hc hs hl)
theorem rv_ldiv {x y : Int64} (hd : decode M.2.1 pc = .ok (.ldiv, 1)) (hne : ¬ y = 0) (K : ma_V l D ca EX M d kc ks hp Q (pc + 1) lv (.long (x / y) :: st)) : ma_V l D ca EX M d kc ks hp Q pc lv (.long y :: .long x :: st) := by
  intro p e R s m args below meth c A Z H locs cells slots ls hC hX hA hE hR hS hc hs hl
  exact lv_ldiv hC.1 hC.2.1 hd hne (K p e R s m args below meth c A Z H locs cells slots ls hC hX hA hE hR hS hc hs hl)
theorem rv_lrem {x y : Int64} (hd : decode M.2.1 pc = .ok (.lrem, 1)) (hne : ¬ y = 0) (K : ma_V l D ca EX M d kc ks hp Q (pc + 1) lv (.long (x - x / y * y) :: st)) : ma_V l D ca EX M d kc ks hp Q pc lv (.long y :: .long x :: st) := by
  intro p e R s m args below meth c A Z H locs cells slots ls hC hX hA hE hR hS hc hs hl
  exact lv_lrem hC.1 hC.2.1 hd hne (K p e R s m args below meth c A Z H locs cells slots ls hC hX hA hE hR hS hc hs hl)
theorem rv_lneg {x : Int64} (hd : decode M.2.1 pc = .ok (.lneg, 1))  (K : ma_V l D ca EX M d kc ks hp Q (pc + 1) lv (.long (-x) :: st)) : ma_V l D ca EX M d kc ks hp Q pc lv (.long x :: st) := by
  intro p e R s m args below meth c A Z H locs cells slots ls hC hX hA hE hR hS hc hs hl
  exact lv_lneg hC.1 hC.2.1 hd (K p e R s m args below meth c A Z H locs cells slots ls hC hX hA hE hR hS hc hs hl)
theorem rv_i2l {x : Int32} (hd : decode M.2.1 pc = .ok (.i2l, 1))  (K : ma_V l D ca EX M d kc ks hp Q (pc + 1) lv (.long x.toInt64 :: st)) : ma_V l D ca EX M d kc ks hp Q pc lv (.int x :: st) := by
  intro p e R s m args below meth c A Z H locs cells slots ls hC hX hA hE hR hS hc hs hl
  exact lv_i2l hC.1 hC.2.1 hd rfl (K p e R s m args below meth c A Z H locs cells slots ls hC hX hA hE hR hS hc hs hl)
theorem rv_l2i {x : Int64} (hd : decode M.2.1 pc = .ok (.l2i, 1))  (K : ma_V l D ca EX M d kc ks hp Q (pc + 1) lv (.int x.toInt32 :: st)) : ma_V l D ca EX M d kc ks hp Q pc lv (.long x :: st) := by
  intro p e R s m args below meth c A Z H locs cells slots ls hC hX hA hE hR hS hc hs hl
  exact lv_l2i hC.1 hC.2.1 hd rfl (K p e R s m args below meth c A Z H locs cells slots ls hC hX hA hE hR hS hc hs hl)
theorem rv_iushr {x y : Int32} (hd : decode M.2.1 pc = .ok (.iushr, 1))  (K : ma_V l D ca EX M d kc ks hp Q (pc + 1) lv (.int (x.toUInt32 >>> (y.toUInt32 &&& Int32.toUInt32 31)).toInt32 :: st)) : ma_V l D ca EX M d kc ks hp Q pc lv (.int y :: .int x :: st) := by
  intro p e R s m args below meth c A Z H locs cells slots ls hC hX hA hE hR hS hc hs hl
  exact lv_iushr hC.1 hC.2.1 hd rfl (K p e R s m args below meth c A Z H locs cells slots ls hC hX hA hE hR hS hc hs hl)
theorem rv_lushr {x : Int64} {y : Int32} (hd : decode M.2.1 pc = .ok (.lushr, 1))  (K : ma_V l D ca EX M d kc ks hp Q (pc + 1) lv (.long (x.toUInt64 >>> (y.toInt64.toUInt64 &&& Int64.toUInt64 63)).toInt64 :: st)) : ma_V l D ca EX M d kc ks hp Q pc lv (.int y :: .long x :: st) := by
  intro p e R s m args below meth c A Z H locs cells slots ls hC hX hA hE hR hS hc hs hl
  exact lv_lushr hC.1 hC.2.1 hd rfl (K p e R s m args below meth c A Z H locs cells slots ls hC hX hA hE hR hS hc hs hl)
theorem rv_lshl {x : Int64} {y : Int32} (hd : decode M.2.1 pc = .ok (.lshl, 1))  (K : ma_V l D ca EX M d kc ks hp Q (pc + 1) lv (.long (x <<< (y.toInt64 &&& 63)) :: st)) : ma_V l D ca EX M d kc ks hp Q pc lv (.int y :: .long x :: st) := by
  intro p e R s m args below meth c A Z H locs cells slots ls hC hX hA hE hR hS hc hs hl
  exact lv_lshl hC.1 hC.2.1 hd rfl (K p e R s m args below meth c A Z H locs cells slots ls hC hX hA hE hR hS hc hs hl)
theorem rv_lshr {x : Int64} {y : Int32} (hd : decode M.2.1 pc = .ok (.lshr, 1))  (K : ma_V l D ca EX M d kc ks hp Q (pc + 1) lv (.long (x >>> (y.toInt64 &&& 63)) :: st)) : ma_V l D ca EX M d kc ks hp Q pc lv (.int y :: .long x :: st) := by
  intro p e R s m args below meth c A Z H locs cells slots ls hC hX hA hE hR hS hc hs hl
  exact lv_lshr hC.1 hC.2.1 hd rfl (K p e R s m args below meth c A Z H locs cells slots ls hC hX hA hE hR hS hc hs hl)
theorem rv_lcmp {x y : Int64} (hd : decode M.2.1 pc = .ok (.lcmp, 1))  (K : ma_V l D ca EX M d kc ks hp Q (pc + 1) lv (.int (lg_cmp x y) :: st)) : ma_V l D ca EX M d kc ks hp Q pc lv (.long y :: .long x :: st) := by
  intro p e R s m args below meth c A Z H locs cells slots ls hC hX hA hE hR hS hc hs hl
  exact W.lcmp hC.1 hC.2.1 hd (K p e R s m args below meth c A Z H locs cells slots ls hC hX hA hE hR hS hc hs hl)
theorem rv_dup {va : Value} (hd : decode M.2.1 pc = .ok (.dup, 1)) (h1 : va.category = 1) (K : ma_V l D ca EX M d kc ks hp Q (pc + 1) lv (va :: va :: st)) : ma_V l D ca EX M d kc ks hp Q pc lv (va :: st) := by
  intro p e R s m args below meth c A Z H locs cells slots ls hC hX hA hE hR hS hc hs hl
  exact lv_dup hC.1 hC.2.1 hd h1 (K p e R s m args below meth c A Z H locs cells slots ls hC hX hA hE hR hS hc hs hl)
theorem rv_pop {va : Value} (hd : decode M.2.1 pc = .ok (.pop, 1)) (h1 : va.category = 1) (K : ma_V l D ca EX M d kc ks hp Q (pc + 1) lv (st)) : ma_V l D ca EX M d kc ks hp Q pc lv (va :: st) := by
  intro p e R s m args below meth c A Z H locs cells slots ls hC hX hA hE hR hS hc hs hl
  exact lv_pop hC.1 hC.2.1 hd h1 (K p e R s m args below meth c A Z H locs cells slots ls hC hX hA hE hR hS hc hs hl)
theorem rv_dup_x1 {va vb : Value} (hd : decode M.2.1 pc = .ok (.dup_x1, 1)) (h1 : va.category = 1) (h2 : vb.category = 1) (K : ma_V l D ca EX M d kc ks hp Q (pc + 1) lv (va :: vb :: va :: st)) : ma_V l D ca EX M d kc ks hp Q pc lv (va :: vb :: st) := by
  intro p e R s m args below meth c A Z H locs cells slots ls hC hX hA hE hR hS hc hs hl
  exact lv_dup_x1 hC.1 hC.2.1 hd h1 h2 (K p e R s m args below meth c A Z H locs cells slots ls hC hX hA hE hR hS hc hs hl)
theorem rv_dup_x2 {va vb vd : Value} (hd : decode M.2.1 pc = .ok (.dup_x2, 1)) (h1 : va.category = 1) (h2 : vb.category = 1) (h3 : vd.category = 1) (K : ma_V l D ca EX M d kc ks hp Q (pc + 1) lv (va :: vb :: vd :: va :: st)) : ma_V l D ca EX M d kc ks hp Q pc lv (va :: vb :: vd :: st) := by
  intro p e R s m args below meth c A Z H locs cells slots ls hC hX hA hE hR hS hc hs hl
  exact lv_dup_x2 hC.1 hC.2.1 hd h1 h2 h3 (K p e R s m args below meth c A Z H locs cells slots ls hC hX hA hE hR hS hc hs hl)
theorem rv_dup2_11 {va vb : Value} (hd : decode M.2.1 pc = .ok (.dup2, 1)) (h1 : va.category = 1) (h2 : vb.category = 1) (K : ma_V l D ca EX M d kc ks hp Q (pc + 1) lv (va :: vb :: va :: vb :: st)) : ma_V l D ca EX M d kc ks hp Q pc lv (va :: vb :: st) := by
  intro p e R s m args below meth c A Z H locs cells slots ls hC hX hA hE hR hS hc hs hl
  exact lv_dup2_11 hC.1 hC.2.1 hd h1 h2 (K p e R s m args below meth c A Z H locs cells slots ls hC hX hA hE hR hS hc hs hl)
theorem rv_dup2_2 {va : Value} (hd : decode M.2.1 pc = .ok (.dup2, 1)) (h1 : va.category = 2) (K : ma_V l D ca EX M d kc ks hp Q (pc + 1) lv (va :: va :: st)) : ma_V l D ca EX M d kc ks hp Q pc lv (va :: st) := by
  intro p e R s m args below meth c A Z H locs cells slots ls hC hX hA hE hR hS hc hs hl
  exact lv_dup2_2 hC.1 hC.2.1 hd h1 (K p e R s m args below meth c A Z H locs cells slots ls hC hX hA hE hR hS hc hs hl)
theorem rv_pop2_2 {va : Value} (hd : decode M.2.1 pc = .ok (.pop2, 1)) (h1 : va.category = 2) (K : ma_V l D ca EX M d kc ks hp Q (pc + 1) lv (st)) : ma_V l D ca EX M d kc ks hp Q pc lv (va :: st) := by
  intro p e R s m args below meth c A Z H locs cells slots ls hC hX hA hE hR hS hc hs hl
  exact lv_pop2_2 hC.1 hC.2.1 hd h1 (K p e R s m args below meth c A Z H locs cells slots ls hC hX hA hE hR hS hc hs hl)
theorem rv_dup2_x1_2 {va vb : Value} (hd : decode M.2.1 pc = .ok (.dup2_x1, 1)) (h1 : va.category = 2) (h2 : vb.category = 1) (K : ma_V l D ca EX M d kc ks hp Q (pc + 1) lv (va :: vb :: va :: st)) : ma_V l D ca EX M d kc ks hp Q pc lv (va :: vb :: st) := by
  intro p e R s m args below meth c A Z H locs cells slots ls hC hX hA hE hR hS hc hs hl
  exact lv_dup2_x1_2 hC.1 hC.2.1 hd h1 h2 (K p e R s m args below meth c A Z H locs cells slots ls hC hX hA hE hR hS hc hs hl)
theorem rv_dup2_x2_2 {va vb vd : Value} (hd : decode M.2.1 pc = .ok (.dup2_x2, 1)) (h1 : va.category = 2) (h2 : vb.category = 1) (h3 : vd.category = 1) (K : ma_V l D ca EX M d kc ks hp Q (pc + 1) lv (va :: vb :: vd :: va :: st)) : ma_V l D ca EX M d kc ks hp Q pc lv (va :: vb :: vd :: st) := by
  intro p e R s m args below meth c A Z H locs cells slots ls hC hX hA hE hR hS hc hs hl
  exact lv_dup2_x2_2 hC.1 hC.2.1 hd h1 h2 h3 (K p e R s m args below meth c A Z H locs cells slots ls hC hX hA hE hR hS hc hs hl)
theorem rv_null  (hd : decode M.2.1 pc = .ok (.aconst_null, 1))  (K : ma_V l D ca EX M d kc ks hp Q (pc + 1) lv (.null :: st)) : ma_V l D ca EX M d kc ks hp Q pc lv (st) := by
  intro p e R s m args below meth c A Z H locs cells slots ls hC hX hA hE hR hS hc hs hl
  exact lv_null hC.1 hC.2.1 hd (K p e R s m args below meth c A Z H locs cells slots ls hC hX hA hE hR hS hc hs hl)
theorem rv_if_eq {x : Int32} {off : Int} {tgt : Nat} (hd : decode M.2.1 pc = .ok (.ifCond .eq off, 3)) (ht : (pc : Int) + off = (tgt : Int)) (K1 : x = 0 → ma_V l D ca EX M d kc ks hp Q tgt lv st) (K2 : ¬ x = 0 → ma_V l D ca EX M d kc ks hp Q (pc + 3) lv st) : ma_V l D ca EX M d kc ks hp Q pc lv (.int x :: st) := by
  intro p e R s m args below meth c A Z H locs cells slots ls hC hX hA hE hR hS hc hs hl
  exact lv_if_eq hC.1 hC.2.1 hd ht (fun h => K1 h p e R s m args below meth c A Z H locs cells slots ls hC hX hA hE hR hS hc hs hl) (fun h => K2 h p e R s m args below meth c A Z H locs cells slots ls hC hX hA hE hR hS hc hs hl)
theorem rv_icmp_eq {x y : Int32} {off : Int} {tgt : Nat} (hd : decode M.2.1 pc = .ok (.if_icmp .eq off, 3)) (ht : (pc : Int) + off = (tgt : Int)) (K1 : x = y → ma_V l D ca EX M d kc ks hp Q tgt lv st) (K2 : ¬ x = y → ma_V l D ca EX M d kc ks hp Q (pc + 3) lv st) : ma_V l D ca EX M d kc ks hp Q pc lv (.int y :: .int x :: st) := by
  intro p e R s m args below meth c A Z H locs cells slots ls hC hX hA hE hR hS hc hs hl
  exact lv_icmp_eq hC.1 hC.2.1 hd ht (fun h => K1 h p e R s m args below meth c A Z H locs cells slots ls hC hX hA hE hR hS hc hs hl) (fun h => K2 h p e R s m args below meth c A Z H locs cells slots ls hC hX hA hE hR hS hc hs hl)
theorem rv_if_ne {x : Int32} {off : Int} {tgt : Nat} (hd : decode M.2.1 pc = .ok (.ifCond .ne off, 3)) (ht : (pc : Int) + off = (tgt : Int)) (K1 : ¬ x = 0 → ma_V l D ca EX M d kc ks hp Q tgt lv st) (K2 : x = 0 → ma_V l D ca EX M d kc ks hp Q (pc + 3) lv st) : ma_V l D ca EX M d kc ks hp Q pc lv (.int x :: st) := by
  intro p e R s m args below meth c A Z H locs cells slots ls hC hX hA hE hR hS hc hs hl
  exact lv_if_ne hC.1 hC.2.1 hd ht (fun h => K1 h p e R s m args below meth c A Z H locs cells slots ls hC hX hA hE hR hS hc hs hl) (fun h => K2 h p e R s m args below meth c A Z H locs cells slots ls hC hX hA hE hR hS hc hs hl)
theorem rv_icmp_ne {x y : Int32} {off : Int} {tgt : Nat} (hd : decode M.2.1 pc = .ok (.if_icmp .ne off, 3)) (ht : (pc : Int) + off = (tgt : Int)) (K1 : ¬ x = y → ma_V l D ca EX M d kc ks hp Q tgt lv st) (K2 : x = y → ma_V l D ca EX M d kc ks hp Q (pc + 3) lv st) : ma_V l D ca EX M d kc ks hp Q pc lv (.int y :: .int x :: st) := by
  intro p e R s m args below meth c A Z H locs cells slots ls hC hX hA hE hR hS hc hs hl
  exact lv_icmp_ne hC.1 hC.2.1 hd ht (fun h => K1 h p e R s m args below meth c A Z H locs cells slots ls hC hX hA hE hR hS hc hs hl) (fun h => K2 h p e R s m args below meth c A Z H locs cells slots ls hC hX hA hE hR hS hc hs hl)
theorem rv_if_lt {x : Int32} {off : Int} {tgt : Nat} (hd : decode M.2.1 pc = .ok (.ifCond .lt off, 3)) (ht : (pc : Int) + off = (tgt : Int)) (K1 : x < 0 → ma_V l D ca EX M d kc ks hp Q tgt lv st) (K2 : ¬ x < 0 → ma_V l D ca EX M d kc ks hp Q (pc + 3) lv st) : ma_V l D ca EX M d kc ks hp Q pc lv (.int x :: st) := by
  intro p e R s m args below meth c A Z H locs cells slots ls hC hX hA hE hR hS hc hs hl
  exact lv_if_lt hC.1 hC.2.1 hd ht (fun h => K1 h p e R s m args below meth c A Z H locs cells slots ls hC hX hA hE hR hS hc hs hl) (fun h => K2 h p e R s m args below meth c A Z H locs cells slots ls hC hX hA hE hR hS hc hs hl)
theorem rv_icmp_lt {x y : Int32} {off : Int} {tgt : Nat} (hd : decode M.2.1 pc = .ok (.if_icmp .lt off, 3)) (ht : (pc : Int) + off = (tgt : Int)) (K1 : x < y → ma_V l D ca EX M d kc ks hp Q tgt lv st) (K2 : ¬ x < y → ma_V l D ca EX M d kc ks hp Q (pc + 3) lv st) : ma_V l D ca EX M d kc ks hp Q pc lv (.int y :: .int x :: st) := by
  intro p e R s m args below meth c A Z H locs cells slots ls hC hX hA hE hR hS hc hs hl
  exact lv_icmp_lt hC.1 hC.2.1 hd ht (fun h => K1 h p e R s m args below meth c A Z H locs cells slots ls hC hX hA hE hR hS hc hs hl) (fun h => K2 h p e R s m args below meth c A Z H locs cells slots ls hC hX hA hE hR hS hc hs hl)
theorem rv_if_ge {x : Int32} {off : Int} {tgt : Nat} (hd : decode M.2.1 pc = .ok (.ifCond .ge off, 3)) (ht : (pc : Int) + off = (tgt : Int)) (K1 : 0 ≤ x → ma_V l D ca EX M d kc ks hp Q tgt lv st) (K2 : ¬ 0 ≤ x → ma_V l D ca EX M d kc ks hp Q (pc + 3) lv st) : ma_V l D ca EX M d kc ks hp Q pc lv (.int x :: st) := by
  intro p e R s m args below meth c A Z H locs cells slots ls hC hX hA hE hR hS hc hs hl
  exact lv_if_ge hC.1 hC.2.1 hd ht (fun h => K1 h p e R s m args below meth c A Z H locs cells slots ls hC hX hA hE hR hS hc hs hl) (fun h => K2 h p e R s m args below meth c A Z H locs cells slots ls hC hX hA hE hR hS hc hs hl)
theorem rv_icmp_ge {x y : Int32} {off : Int} {tgt : Nat} (hd : decode M.2.1 pc = .ok (.if_icmp .ge off, 3)) (ht : (pc : Int) + off = (tgt : Int)) (K1 : y ≤ x → ma_V l D ca EX M d kc ks hp Q tgt lv st) (K2 : ¬ y ≤ x → ma_V l D ca EX M d kc ks hp Q (pc + 3) lv st) : ma_V l D ca EX M d kc ks hp Q pc lv (.int y :: .int x :: st) := by
  intro p e R s m args below meth c A Z H locs cells slots ls hC hX hA hE hR hS hc hs hl
  exact lv_icmp_ge hC.1 hC.2.1 hd ht (fun h => K1 h p e R s m args below meth c A Z H locs cells slots ls hC hX hA hE hR hS hc hs hl) (fun h => K2 h p e R s m args below meth c A Z H locs cells slots ls hC hX hA hE hR hS hc hs hl)
theorem rv_if_gt {x : Int32} {off : Int} {tgt : Nat} (hd : decode M.2.1 pc = .ok (.ifCond .gt off, 3)) (ht : (pc : Int) + off = (tgt : Int)) (K1 : 0 < x → ma_V l D ca EX M d kc ks hp Q tgt lv st) (K2 : ¬ 0 < x → ma_V l D ca EX M d kc ks hp Q (pc + 3) lv st) : ma_V l D ca EX M d kc ks hp Q pc lv (.int x :: st) := by
  intro p e R s m args below meth c A Z H locs cells slots ls hC hX hA hE hR hS hc hs hl
  exact lv_if_gt hC.1 hC.2.1 hd ht (fun h => K1 h p e R s m args below meth c A Z H locs cells slots ls hC hX hA hE hR hS hc hs hl) (fun h => K2 h p e R s m args below meth c A Z H locs cells slots ls hC hX hA hE hR hS hc hs hl)
theorem rv_icmp_gt {x y : Int32} {off : Int} {tgt : Nat} (hd : decode M.2.1 pc = .ok (.if_icmp .gt off, 3)) (ht : (pc : Int) + off = (tgt : Int)) (K1 : y < x → ma_V l D ca EX M d kc ks hp Q tgt lv st) (K2 : ¬ y < x → ma_V l D ca EX M d kc ks hp Q (pc + 3) lv st) : ma_V l D ca EX M d kc ks hp Q pc lv (.int y :: .int x :: st) := by
  intro p e R s m args below meth c A Z H locs cells slots ls hC hX hA hE hR hS hc hs hl
  exact lv_icmp_gt hC.1 hC.2.1 hd ht (fun h => K1 h p e R s m args below meth c A Z H locs cells slots ls hC hX hA hE hR hS hc hs hl) (fun h => K2 h p e R s m args below meth c A Z H locs cells slots ls hC hX hA hE hR hS hc hs hl)
theorem rv_if_le {x : Int32} {off : Int} {tgt : Nat} (hd : decode M.2.1 pc = .ok (.ifCond .le off, 3)) (ht : (pc : Int) + off = (tgt : Int)) (K1 : x ≤ 0 → ma_V l D ca EX M d kc ks hp Q tgt lv st) (K2 : ¬ x ≤ 0 → ma_V l D ca EX M d kc ks hp Q (pc + 3) lv st) : ma_V l D ca EX M d kc ks hp Q pc lv (.int x :: st) := by
  intro p e R s m args below meth c A Z H locs cells slots ls hC hX hA hE hR hS hc hs hl
  exact lv_if_le hC.1 hC.2.1 hd ht (fun h => K1 h p e R s m args below meth c A Z H locs cells slots ls hC hX hA hE hR hS hc hs hl) (fun h => K2 h p e R s m args below meth c A Z H locs cells slots ls hC hX hA hE hR hS hc hs hl)
theorem rv_icmp_le {x y : Int32} {off : Int} {tgt : Nat} (hd : decode M.2.1 pc = .ok (.if_icmp .le off, 3)) (ht : (pc : Int) + off = (tgt : Int)) (K1 : x ≤ y → ma_V l D ca EX M d kc ks hp Q tgt lv st) (K2 : ¬ x ≤ y → ma_V l D ca EX M d kc ks hp Q (pc + 3) lv st) : ma_V l D ca EX M d kc ks hp Q pc lv (.int y :: .int x :: st) := by
  intro p e R s m args below meth c A Z H locs cells slots ls hC hX hA hE hR hS hc hs hl
  exact lv_icmp_le hC.1 hC.2.1 hd ht (fun h => K1 h p e R s m args below meth c A Z H locs cells slots ls hC hX hA hE hR hS hc hs hl) (fun h => K2 h p e R s m args below meth c A Z H locs cells slots ls hC hX hA hE hR hS hc hs hl)
theorem rv_goto {off : Int} {tgt : Nat} (hd : decode M.2.1 pc = .ok (.goto off, 3)) (ht : (pc : Int) + off = (tgt : Int)) (K : ma_V l D ca EX M d kc ks hp Q (tgt) lv (st)) : ma_V l D ca EX M d kc ks hp Q pc lv (st) := by
  intro p e R s m args below meth c A Z H locs cells slots ls hC hX hA hE hR hS hc hs hl
  exact lv_goto hC.1 hC.2.1 hd ht (K p e R s m args below meth c A Z H locs cells slots ls hC hX hA hE hR hS hc hs hl)
theorem rv_tblO {dflt lo hi : Int} {offs : Array Int} {len : Nat} {x : Int32} {tgt : Nat} (hd : decode M.2.1 pc = .ok (.tableswitch dflt lo hi offs, len)) (h : x.toInt < lo ∨ hi < x.toInt) (ht : (pc : Int) + dflt = (tgt : Int)) (K : ma_V l D ca EX M d kc ks hp Q (tgt) lv (st)) : ma_V l D ca EX M d kc ks hp Q pc lv (.int x :: st) := by
  intro p e R s m args below meth c A Z H locs cells slots ls hC hX hA hE hR hS hc hs hl
  exact lv_tableOut hC.1 hC.2.1 hd h ht (K p e R s m args below meth c A Z H locs cells slots ls hC hX hA hE hR hS hc hs hl)
theorem rv_tblI {dflt lo hi : Int} {offs : Array Int} {len : Nat} {x : Int32} {off : Int} {tgt : Nat} (hd : decode M.2.1 pc = .ok (.tableswitch dflt lo hi offs, len)) (h1 : ¬ x.toInt < lo) (h2 : ¬ hi < x.toInt) (ho : offs[(x.toInt - lo).toNat]? = some off) (ht : (pc : Int) + off = (tgt : Int)) (K : ma_V l D ca EX M d kc ks hp Q (tgt) lv (st)) : ma_V l D ca EX M d kc ks hp Q pc lv (.int x :: st) := by
  intro p e R s m args below meth c A Z H locs cells slots ls hC hX hA hE hR hS hc hs hl
  exact lv_tableIn hC.1 hC.2.1 hd h1 h2 ho ht (K p e R s m args below meth c A Z H locs cells slots ls hC hX hA hE hR hS hc hs hl)
theorem rv_look {dflt : Int} {ps : Array (Int × Int)} {len : Nat} {x : Int32} {off : Int} {tgt : Nat} (hd : decode M.2.1 pc = .ok (.lookupswitch dflt ps, len)) (hp0 : (ps.toList.zip (ps.toList.drop 1)).all (fun (a, next) => a.1 < next.1) = true) (ho : Op.lookupswitch.offset ps.toList dflt x.toInt = off) (ht : (pc : Int) + off = (tgt : Int)) (K : ma_V l D ca EX M d kc ks hp Q (tgt) lv (st)) : ma_V l D ca EX M d kc ks hp Q pc lv (.int x :: st) := by
  intro p e R s m args below meth c A Z H locs cells slots ls hC hX hA hE hR hS hc hs hl
  exact lv_lookup hC.1 hC.2.1 hd hp0 ho ht (K p e R s m args below meth c A Z H locs cells slots ls hC hX hA hE hR hS hc hs hl)
theorem rv_nonnull {x : Nat} {off : Int} {tgt : Nat} (hd : decode M.2.1 pc = .ok (.ifnonnull off, 3)) (ht : (pc : Int) + off = (tgt : Int)) (K : ma_V l D ca EX M d kc ks hp Q (tgt) lv (st)) : ma_V l D ca EX M d kc ks hp Q pc lv (.ref x :: st) := by
  intro p e R s m args below meth c A Z H locs cells slots ls hC hX hA hE hR hS hc hs hl
  exact lv_ifnonnull hC.1 hC.2.1 hd ht (K p e R s m args below meth c A Z H locs cells slots ls hC hX hA hE hR hS hc hs hl)
theorem rv_isnull {x : Nat} {off : Int} (hd : decode M.2.1 pc = .ok (.ifnull off, 3))  (K : ma_V l D ca EX M d kc ks hp Q (pc + 3) lv (st)) : ma_V l D ca EX M d kc ks hp Q pc lv (.ref x :: st) := by
  intro p e R s m args below meth c A Z H locs cells slots ls hC hX hA hE hR hS hc hs hl
  exact lv_ifnull hC.1 hC.2.1 hd (K p e R s m args below meth c A Z H locs cells slots ls hC hX hA hE hR hS hc hs hl)
theorem rv_isnullN {off : Int} {tgt : Nat} (hd : decode M.2.1 pc = .ok (.ifnull off, 3)) (ht : (pc : Int) + off = (tgt : Int)) (K : ma_V l D ca EX M d kc ks hp Q (tgt) lv (st)) : ma_V l D ca EX M d kc ks hp Q pc lv (.null :: st) := by
  intro p e R s m args below meth c A Z H locs cells slots ls hC hX hA hE hR hS hc hs hl
  exact lv_ifnullN hC.1 hC.2.1 hd ht (K p e R s m args below meth c A Z H locs cells slots ls hC hX hA hE hR hS hc hs hl)
theorem rv_nonnullN {off : Int} (hd : decode M.2.1 pc = .ok (.ifnonnull off, 3))  (K : ma_V l D ca EX M d kc ks hp Q (pc + 3) lv (st)) : ma_V l D ca EX M d kc ks hp Q pc lv (.null :: st) := by
  intro p e R s m args below meth c A Z H locs cells slots ls hC hX hA hE hR hS hc hs hl
  exact lv_ifnonnullN hC.1 hC.2.1 hd (K p e R s m args below meth c A Z H locs cells slots ls hC hX hA hE hR hS hc hs hl)
theorem rv_topi {x : Int32} (K : ∀ y : Int32, y = x → ma_V l D ca EX M d kc ks hp Q pc lv (.int y :: st)) : ma_V l D ca EX M d kc ks hp Q pc lv (.int x :: st) := K x rfl
theorem rv_topl {x : Int64} (K : ∀ y : Int64, y = x → ma_V l D ca EX M d kc ks hp Q pc lv (.long y :: st)) : ma_V l D ca EX M d kc ks hp Q pc lv (.long x :: st) := K x rfl
theorem rv_eqi {x y : Int32} (h : x = y) (K : ma_V l D ca EX M d kc ks hp Q pc lv (.int y :: st)) : ma_V l D ca EX M d kc ks hp Q pc lv (.int x :: st) := h ▸ K
theorem rv_eql {x y : Int64} (h : x = y) (K : ma_V l D ca EX M d kc ks hp Q pc lv (.long y :: st)) : ma_V l D ca EX M d kc ks hp Q pc lv (.long x :: st) := h ▸ K
theorem rv_eqv {x y : Value} (h : x = y) (K : ma_V l D ca EX M d kc ks hp Q pc lv (y :: st)) : ma_V l D ca EX M d kc ks hp Q pc lv (x :: st) := h ▸ K
/-- a class of the pictures: its field words stand in the tables, its descriptors parse, its names are apart -/
def ma_Kc (C : String) (T : u_T) (N : Nat) (ty : Nat → FieldType) : Prop := (∀ w ∈ u_ws C T N, w ∈ ma_tbl) ∧ (∀ k, k < N → parseFieldDescriptor (T k).2.2.1 = some (ty k)) ∧ ∀ a, a < N → ∀ b, b < N → a ≠ b → (T a).2.1 ≠ (T b).2.1
theorem rv_get {C : String} {T : u_T} {N ci index a : Nat} {ty : Nat → FieldType} {fs : List Value} {v : Value} (hK : ma_Kc C T N ty) (ha : hp a = some (.inr (ci, fs))) (hc0 : classes[ci]? = some (C, T, N)) (k : Nat) (hk : k < N) (hw : Cond.fieldLink M.1.cls index (T k).1 (T k).2.1 (T k).2.2.1 ∈ ma_tbl) (hv : fs[k]? = some v) (hd : decode M.2.1 pc = .ok (.getfield index, 3)) (K : ma_V l D ca EX M d kc ks hp Q (pc + 3) lv (v :: st)) : ma_V l D ca EX M d kc ks hp Q pc lv (.ref a :: st) := by
  intro p e R s m args below meth c A Z H locs cells slots ls hC hX hA hE hR hS hc hs hl
  obtain ⟨ws, hP, hD, hw0⟩ := id hR
  obtain ⟨q0, hq0⟩ := hw0 _ _ ha
  exact va_get hC.1 hC.2.1 hC.2.2.2.2.1 hK.1 hC.2.2.2.1 hC.2.2.2.2.2.1.1 hP q0 hq0 hc0 k hk (hC.2.2.2.2.1 _ hw) (fun _ h => h) hv hd (K p e R s m args below meth c A Z H locs cells slots ls hC hX hA hE hR hS hc hs hl)
theorem rv_put {C : String} {T : u_T} {N ci index a : Nat} {ty : Nat → FieldType} {fs : List Value} {v : Value} {fs' : List Value} (hK : ma_Kc C T N ty) (ha : hp a = some (.inr (ci, fs))) (hc0 : classes[ci]? = some (C, T, N)) (k : Nat) (hk : k < N) (hw : Cond.fieldLink M.1.cls index (T k).1 (T k).2.1 (T k).2.2.1 ∈ ma_tbl) (hf : (T k).2.2.2 = false) (hn : narrow (ty k) v = v) (hfit : fits (ty k) v = true) (hlf : k < fs.length) (hfs : fs.set k v = fs') (hd : decode M.2.1 pc = .ok (.putfield index, 3)) (K : ∀ hp' : hp_T, hp' = hp_up hp a (.inr (ci, fs')) → ma_V l D ca EX M d kc ks hp' Q (pc + 3) lv st) : ma_V l D ca EX M d kc ks hp Q pc lv (v :: .ref a :: st) := by
  intro p e R s m args below meth c A Z H locs cells slots ls hC hX hA hE hR hS hc hs hl
  obtain ⟨ws, hP, hD, hw0⟩ := id hR
  obtain ⟨q0, hq0⟩ := hw0 _ _ ha
  subst hfs
  exact va_put hC.1 hC.2.1 hC.2.2.2.2.1 hK.1 ty hK.2.1 hK.2.2 hC.2.2.2.1 hC.2.2.2.2.2.1.1 hP hD hS q0 hq0 hc0 k hk (hC.2.2.2.2.1 _ hw) (fun _ h => h) hf (hK.2.1 k hk) hn hfit hlf hd (fun H1 locs1 hP1 hD1 hS1 => K _ rfl p e R s m args below meth c A Z H1 locs1 cells slots ls hC hX hA hE ⟨_, hP1, hD1, hw0.set (A := A) hq0⟩ hS1 hc hs hl)
theorem rv_putF {C : String} {T : u_T} {N ci index a : Nat} {ty : Nat → FieldType} {fs : List Value} {v : Value} {fs' : List Value} (hK : ma_Kc C T N ty) (ha : hp a = some (.inr (ci, fs))) (hc0 : classes[ci]? = some (C, T, N)) (k : Nat) (hk : k < N) (hw : Cond.fieldLink M.1.cls index (T k).1 (T k).2.1 (T k).2.2.1 ∈ ma_tbl) (hf : (T k).2.2.2 = true) (hnm : M.1.name = "<init>") (hdecl : (T k).1 = M.1.cls) (hn : narrow (ty k) v = v) (hfit : fits (ty k) v = true) (hlf : k < fs.length) (hfs : fs.set k v = fs') (hd : decode M.2.1 pc = .ok (.putfield index, 3)) (K : ∀ hp' : hp_T, hp' = hp_up hp a (.inr (ci, fs')) → ma_V l D ca EX M d kc ks hp' Q (pc + 3) lv st) : ma_V l D ca EX M d kc ks hp Q pc lv (v :: .ref a :: st) := by
  intro p e R s m args below meth c A Z H locs cells slots ls hC hX hA hE hR hS hc hs hl
  obtain ⟨ws, hP, hD, hw0⟩ := id hR
  obtain ⟨q0, hq0⟩ := hw0 _ _ ha
  subst hfs
  exact va_putF hC.1 hC.2.1 hC.2.2.2.2.1 hK.1 ty hK.2.1 hK.2.2 hC.2.2.2.1 hC.2.2.2.2.2.1.1 hP hD hS q0 hq0 hc0 k hk (hC.2.2.2.2.1 _ hw) (fun _ h => h) hf (hC.2.2.2.2.2.2.1.trans hnm) hdecl (hK.2.1 k hk) hn hfit hlf hd (fun H1 locs1 hP1 hD1 hS1 => K _ rfl p e R s m args below meth c A Z H1 locs1 cells slots ls hC hX hA hE ⟨_, hP1, hD1, hw0.set (A := A) hq0⟩ hS1 hc hs hl)
theorem rv_new {C : String} {T : u_T} {N ci index kc1 ks1 : Nat} {ty : Nat → FieldType} {fs : List Value} (hK : ma_Kc C T N ty) (hc0 : classes[ci]? = some (C, T, N)) (hw : Cond.classLink M.1.cls index C ∈ ma_tbl) (hw1 : Cond.instantiable C N ∈ ma_tbl) (hw2 : Cond.initialized C ∈ ma_tbl) (hfs : ∀ j, j < N → defaultValue (ty j) = vp_V fs j) (hk : kc1 + 1 ≤ kc ∧ ks1 + N ≤ ks) (hd : decode M.2.1 pc = .ok (.new index, 3)) (K : ∀ (q : Nat) (hp' : hp_T), hp q = none → hp' = hp_up hp q (.inr (ci, fs)) → ma_V l D ca EX M d kc1 ks1 hp' Q (pc + 3) lv (.ref q :: st)) : ma_V l D ca EX M d kc ks hp Q pc lv st := by
  intro p e R s m args below meth c A Z H locs cells slots ls hC hX hA hE hR hS hc hs hl
  obtain ⟨ws, hP, hD, hw0⟩ := id hR
  exact va_new hC.1 hC.2.1 hC.2.2.2.2.1 hK.1 ty hK.2.1 hC.2.2.2.1 (hC.2.2.2.2.1 _ hw) (hC.2.2.2.2.1 _ hw1) (hC.2.2.2.2.1 _ hw2) hC.2.2.2.2.2.1.1 hP hD hS hA hc0 hfs (by omega) (by omega) hd (fun q H1 hP1 hD1 hS1 => K q _ (hw0.fresh hD1) rfl p e R s m args below meth c A Z H1 locs (cells + 1) (slots + N) ls hC hX hA hE ⟨_, hP1, hD1, hw0.push⟩ hS1 (by omega) (by omega) hl)
theorem rv_obj {d1 index a : Nat} (hw : Cond.methodLink M.1.cls index Lib.objectInit ∈ ma_tbl) (hw1 : Cond.instanceMethod Lib.objectInit ∈ ma_tbl) (hw2 : Cond.code Lib.objectInit ⟨#[0xb1]⟩ 1 none ∈ ma_tbl) (hrs : (st.map fun v => v.category).sum ≤ 8) (hd : decode M.2.1 pc = .ok (.invokespecial index, 3)) (K : ma_V l D ca EX M (d1 + 1) kc ks hp Q (pc + 3) lv st) : ma_V l D ca EX M (d1 + 1) kc ks hp Q pc lv (.ref a :: st) := by
  intro p e R s m args below meth c A Z H locs cells slots ls hC hX hA hE hR hS hc hs hl
  have h1 := hC.2.2.2.2.2.2.2.1
  have h2 := hC.2.2.2.2.2.2.2.2
  exact W.objInit hC.1 hC.2.1 hC.2.2.2.1 (hC.2.2.2.2.1 _ hw) (hC.2.2.2.2.1 _ hw1) (hC.2.2.2.2.1 _ hw2) (g := F0 m pc ls (.ref a :: st)) rfl (by rw [hC.2.2.1]; exact hl.1) rfl hd (by omega) (by show 2 * 0 + _ + 12 ≤ _; omega) (K p e R s m args below meth c A Z H locs cells slots ls hC hX hA hE hR hS hc hs hl)
theorem rv_iald {cA : ClassId} {a n j : Nat} {f : Nat → Int32} (ha : hp a = some (.inl (cA, n, .inl f))) (t0 : Nat) (ht : (ma_ty ca)[t0]? = some (cA, .int)) (hj : j < n) (hn : n < 2 ^ 31) (hd : decode M.2.1 pc = .ok (.iaload, 1)) (K : ma_V l D ca EX M d kc ks hp Q (pc + 1) lv (.int (f j) :: st)) : ma_V l D ca EX M d kc ks hp Q pc lv (.int (nI j) :: .ref a :: st) := by
  intro p e R s m args below meth c A Z H locs cells slots ls hC hX hA hE hR hS hc hs hl
  obtain ⟨ws, hP, hD, hw0⟩ := id hR
  obtain ⟨q0, hq0⟩ := hw0 _ _ ha
  refine va_iald hC.1 hC.2.1 hC.2.2.2.2.2.1.1 hP q0 t0 hq0 ht (vp_in_nI hj hn) hd ?_
  rw [nI_clamp (by omega)]
  exact (K p e R s m args below meth c A Z H locs cells slots ls hC hX hA hE hR hS hc hs hl)
theorem rv_iast {cA : ClassId} {a n j : Nat} {f : Nat → Int32} {x : Int32} (ha : hp a = some (.inl (cA, n, .inl f))) (t0 : Nat) (ht : (ma_ty ca)[t0]? = some (cA, .int)) (hj : j < n) (hn : n < 2 ^ 31) (hd : decode M.2.1 pc = .ok (.iastore, 1)) (K : ∀ hp' : hp_T, hp' = hp_up hp a (.inl (cA, n, .inl (upd f j x))) → ma_V l D ca EX M d kc ks hp' Q (pc + 1) lv st) : ma_V l D ca EX M d kc ks hp Q pc lv (.int x :: .int (nI j) :: .ref a :: st) := by
  intro p e R s m args below meth c A Z H locs cells slots ls hC hX hA hE hR hS hc hs hl
  obtain ⟨ws, hP, hD, hw0⟩ := id hR
  obtain ⟨q0, hq0⟩ := hw0 _ _ ha
  refine va_iast hC.1 hC.2.1 hC.2.2.2.2.2.1.1 hP hD hS q0 t0 hq0 ht (vp_in_nI hj hn) hd (fun H1 locs1 hP1 hD1 hS1 => ?_)
  rw [nI_clamp (by omega)] at hP1 hD1
  exact K _ rfl p e R s m args below meth c A Z H1 locs1 cells slots ls hC hX hA hE ⟨_, hP1, hD1, hw0.set (A := A) hq0⟩ hS1 hc hs hl
theorem rv_lald {cA : ClassId} {a n j : Nat} {f : Nat → Int64} (ha : hp a = some (.inl (cA, n, .inr (.inl f)))) (t0 : Nat) (ht : (ma_ty ca)[t0]? = some (cA, .long)) (hj : j < n) (hn : n < 2 ^ 31) (hd : decode M.2.1 pc = .ok (.laload, 1)) (K : ma_V l D ca EX M d kc ks hp Q (pc + 1) lv (.long (f j) :: st)) : ma_V l D ca EX M d kc ks hp Q pc lv (.int (nI j) :: .ref a :: st) := by
  intro p e R s m args below meth c A Z H locs cells slots ls hC hX hA hE hR hS hc hs hl
  obtain ⟨ws, hP, hD, hw0⟩ := id hR
  obtain ⟨q0, hq0⟩ := hw0 _ _ ha
  refine va_lald hC.1 hC.2.1 hC.2.2.2.2.2.1.1 hP q0 t0 hq0 ht (vp_in_nI hj hn) hd ?_
  rw [nI_clamp (by omega)]
  exact (K p e R s m args below meth c A Z H locs cells slots ls hC hX hA hE hR hS hc hs hl)
theorem rv_last {cA : ClassId} {a n j : Nat} {f : Nat → Int64} {x : Int64} (ha : hp a = some (.inl (cA, n, .inr (.inl f)))) (t0 : Nat) (ht : (ma_ty ca)[t0]? = some (cA, .long)) (hj : j < n) (hn : n < 2 ^ 31) (hd : decode M.2.1 pc = .ok (.lastore, 1)) (K : ∀ hp' : hp_T, hp' = hp_up hp a (.inl (cA, n, .inr (.inl (vp_updL f j x)))) → ma_V l D ca EX M d kc ks hp' Q (pc + 1) lv st) : ma_V l D ca EX M d kc ks hp Q pc lv (.long x :: .int (nI j) :: .ref a :: st) := by
  intro p e R s m args below meth c A Z H locs cells slots ls hC hX hA hE hR hS hc hs hl
  obtain ⟨ws, hP, hD, hw0⟩ := id hR
  obtain ⟨q0, hq0⟩ := hw0 _ _ ha
  refine va_last hC.1 hC.2.1 hC.2.2.2.2.2.1.1 hP hD hS q0 t0 hq0 ht (vp_in_nI hj hn) hd (fun H1 locs1 hP1 hD1 hS1 => ?_)
  rw [nI_clamp (by omega)] at hP1 hD1
  exact K _ rfl p e R s m args below meth c A Z H1 locs1 cells slots ls hC hX hA hE ⟨_, hP1, hD1, hw0.set (A := A) hq0⟩ hS1 hc hs hl
theorem rv_zald {cA : ClassId} {a n j : Nat} {f : Nat → Int32} (ha : hp a = some (.inl (cA, n, .inl f))) (t0 : Nat) (ht : (ma_ty ca)[t0]? = some (cA, .boolean)) (hj : j < n) (hn : n < 2 ^ 31) (hd : decode M.2.1 pc = .ok (.baload, 1)) (K : ma_V l D ca EX M d kc ks hp Q (pc + 1) lv (.int (f j) :: st)) : ma_V l D ca EX M d kc ks hp Q pc lv (.int (nI j) :: .ref a :: st) := by
  intro p e R s m args below meth c A Z H locs cells slots ls hC hX hA hE hR hS hc hs hl
  obtain ⟨ws, hP, hD, hw0⟩ := id hR
  obtain ⟨q0, hq0⟩ := hw0 _ _ ha
  refine va_zald hC.1 hC.2.1 hC.2.2.2.2.2.1.1 hP q0 t0 hq0 ht (vp_in_nI hj hn) hd ?_
  rw [nI_clamp (by omega)]
  exact (K p e R s m args below meth c A Z H locs cells slots ls hC hX hA hE hR hS hc hs hl)
theorem rv_zast {cA : ClassId} {a n j : Nat} {f : Nat → Int32} {x : Int32} (ha : hp a = some (.inl (cA, n, .inl f))) (t0 : Nat) (ht : (ma_ty ca)[t0]? = some (cA, .boolean)) (hj : j < n) (hn : n < 2 ^ 31) (hx : vp_nar .boolean x = x) (hd : decode M.2.1 pc = .ok (.bastore, 1)) (K : ∀ hp' : hp_T, hp' = hp_up hp a (.inl (cA, n, .inl (upd f j x))) → ma_V l D ca EX M d kc ks hp' Q (pc + 1) lv st) : ma_V l D ca EX M d kc ks hp Q pc lv (.int x :: .int (nI j) :: .ref a :: st) := by
  intro p e R s m args below meth c A Z H locs cells slots ls hC hX hA hE hR hS hc hs hl
  obtain ⟨ws, hP, hD, hw0⟩ := id hR
  obtain ⟨q0, hq0⟩ := hw0 _ _ ha
  refine va_zast hC.1 hC.2.1 hC.2.2.2.2.2.1.1 hP hD hS q0 t0 hq0 ht (vp_in_nI hj hn) hd (fun H1 locs1 hP1 hD1 hS1 => ?_)
  rw [nI_clamp (by omega), hx] at hP1 hD1
  exact K _ rfl p e R s m args below meth c A Z H1 locs1 cells slots ls hC hX hA hE ⟨_, hP1, hD1, hw0.set (A := A) hq0⟩ hS1 hc hs hl
theorem rv_aald {cA : ClassId} {C : String} {a n j : Nat} {f : Nat → Option Nat} (ha : hp a = some (.inl (cA, n, .inr (.inr (.inr (.inr f)))))) (t0 : Nat) (ht : (ma_ty ca)[t0]? = some (cA, .object C)) (hj : j < n) (hn : n < 2 ^ 31) (hd : decode M.2.1 pc = .ok (.aaload, 1)) (K : ma_V l D ca EX M d kc ks hp Q (pc + 1) lv (va_rf (f j) :: st)) : ma_V l D ca EX M d kc ks hp Q pc lv (.int (nI j) :: .ref a :: st) := by
  intro p e R s m args below meth c A Z H locs cells slots ls hC hX hA hE hR hS hc hs hl
  obtain ⟨ws, hP, hD, hw0⟩ := id hR
  obtain ⟨q0, hq0⟩ := hw0 _ _ ha
  refine va_aldq hC.1 hC.2.1 hC.2.2.2.2.2.1.1 hP q0 t0 hq0 ht (vp_in_nI hj hn) hd ?_
  rw [nI_clamp (by omega)]
  exact (K p e R s m args below meth c A Z H locs cells slots ls hC hX hA hE hR hS hc hs hl)
theorem rv_aast {cA : ClassId} {r : vw_C} {a n j ci v : Nat} {vs : List Value} {f : Nat → Option Nat} (ha : hp a = some (.inl (cA, n, .inr (.inr (.inr (.inr f)))))) (hv : hp v = some (.inr (ci, vs))) (hc0 : classes[ci]? = some r) (t0 : Nat) (ht : (ma_ty ca)[t0]? = some (cA, .object r.1)) (hj : j < n) (hn : n < 2 ^ 31) (hd : decode M.2.1 pc = .ok (.aastore, 1)) (K : ∀ hp' : hp_T, hp' = hp_up hp a (.inl (cA, n, .inr (.inr (.inr (.inr (va_up f j (some v))))))) → ma_V l D ca EX M d kc ks hp' Q (pc + 1) lv st) : ma_V l D ca EX M d kc ks hp Q pc lv (.ref v :: .int (nI j) :: .ref a :: st) := by
  intro p e R s m args below meth c A Z H locs cells slots ls hC hX hA hE hR hS hc hs hl
  obtain ⟨ws, hP, hD, hw0⟩ := id hR
  obtain ⟨q0, hq0⟩ := hw0 _ _ ha
  obtain ⟨q1, hq1⟩ := hw0 _ _ hv
  refine va_astq hC.1 hC.2.1 hC.2.2.2.2.2.1.1 hP hD hS q0 t0 q1 ci hq0 ht hq1 hc0 (vp_in_nI hj hn) hd (fun H1 locs1 hP1 hD1 hS1 => ?_)
  rw [nI_clamp (by omega)] at hP1 hD1
  exact K _ rfl p e R s m args below meth c A Z H1 locs1 cells slots ls hC hX hA hE ⟨_, hP1, hD1, hw0.set (A := A) hq0⟩ hS1 hc hs hl
theorem rv_alen {cA : ClassId} {ty : FieldType} {a : Nat} {x : vp_A} (ha : hp a = some (.inl (cA, x))) (t0 : Nat) (ht : (ma_ty ca)[t0]? = some (cA, ty)) (hd : decode M.2.1 pc = .ok (.arraylength, 1)) (K : ma_V l D ca EX M d kc ks hp Q (pc + 1) lv (.int (nI x.1) :: st)) : ma_V l D ca EX M d kc ks hp Q pc lv (.ref a :: st) := by
  intro p e R s m args below meth c A Z H locs cells slots ls hC hX hA hE hR hS hc hs hl
  obtain ⟨ws, hP, hD, hw0⟩ := id hR
  obtain ⟨q0, hq0⟩ := hw0 _ _ ha
  exact va_alen hC.1 hC.2.1 hC.2.2.2.2.2.1.1 hP q0 t0 hq0 ht rfl hd (K p e R s m args below meth c A Z H locs cells slots ls hC hX hA hE hR hS hc hs hl)
theorem ma_cA {U : State} {tys : List (ClassId × FieldType)} {c1 c2 : ClassId} {ty : FieldType} {k1 k2 : Nat} (h : va_K D classes tys U) (h1 : tys[k1]? = some (c1, ty)) (h2 : tys[k2]? = some (c2, ty)) : c1 = c2 := by
  have g1 := (h.2 k1 _ h1).2
  have g2 := (h.2 k2 _ h2).2
  cases ty with
  | object C =>
    obtain ⟨_, _, _, _, _, f1⟩ := g1
    obtain ⟨_, _, _, _, _, f2⟩ := g2
    exact Option.some.inj (f1.symm.trans f2)
  | _ => exact Option.some.inj (Eq.trans (Eq.symm g1) g2)
theorem rv_newa {atype : ArrayType} {ty : FieldType} {cA : ClassId} {n kc1 ks1 : Nat} {a0 : vp_A} (hty : newarray.typeOf atype = ty) (t0 : Nat) (ht : (ma_ty ca)[t0]? = some (cA, ty)) (hw : Cond.arrayClass ty ∈ ma_tbl) (ha0 : ∀ cA : ClassId, vp_cell cA a0 = arrV cA n (fun _ => defaultValue ty)) (hn : n < 65536) (hbytes : n * componentBytes ty ≤ 536870912) (hk : kc1 + 1 ≤ kc ∧ ks1 + n ≤ ks) (hd : decode M.2.1 pc = .ok (.newarray atype, 2)) (K : ∀ (q : Nat) (hp' : hp_T), hp q = none → hp' = hp_up hp q (.inl (cA, a0)) → ma_V l D ca EX M d kc1 ks1 hp' Q (pc + 2) lv (.ref q :: st)) : ma_V l D ca EX M d kc ks hp Q pc lv (.int (nI n) :: st) := by
  intro p e R s m args below meth c A Z H locs cells slots ls hC hX hA hE hR hS hc hs hl
  obtain ⟨ws, hP, hD, hw0⟩ := id hR
  refine va_newa hC.1 hC.2.1 (by rw [hty]; exact hC.2.2.2.2.1 _ hw) hty hC.2.2.2.2.2.1.1 hP hD hS hA ha0 (nI_pos (by omega)) (nI_clamp (by omega)) hbytes (by omega) (by omega) hd (fun q cA' H1 hK1 hP1 hD1 hS1 => ?_)
  have hlt := (List.getElem?_eq_some_iff.mp ht).1
  have he : cA = cA' := ma_cA hK1 (k1 := t0) (k2 := (ma_ty ca).length) (by rw [List.getElem?_append_left hlt]; exact ht) (by simp)
  subst he
  exact K q _ (hw0.fresh hD1) rfl p e R s m args below meth c A Z H1 locs (cells + 1) (slots + n) ls hC hX hA hE ⟨_, hP1, hD1, hw0.push⟩ hS1 (by omega) (by omega) hl
theorem rv_newq {C : String} {cA : ClassId} {n index kc1 ks1 : Nat} (t0 : Nat) (ht : (ma_ty ca)[t0]? = some (cA, .object C)) (hw : Cond.classLink M.1.cls index C ∈ ma_tbl) (hao : C ∈ ma_AO) (hn : n < 65536) (hk : kc1 + 1 ≤ kc ∧ ks1 + n ≤ ks) (hd : decode M.2.1 pc = .ok (.anewarray index, 3)) (K : ∀ (q : Nat) (hp' : hp_T), hp q = none → hp' = hp_up hp q (.inl (cA, n, .inr (.inr (.inr (.inr (fun _ => none)))))) → ma_V l D ca EX M d kc1 ks1 hp' Q (pc + 3) lv (.ref q :: st)) : ma_V l D ca EX M d kc ks hp Q pc lv (.int (nI n) :: st) := by
  intro p e R s m args below meth c A Z H locs cells slots ls hC hX hA hE hR hS hc hs hl
  obtain ⟨ws, hP, hD, hw0⟩ := id hR
  refine va_newq hC.1 hC.2.1 hC.2.2.2.1 (hC.2.2.2.2.1 _ hw) (hC.2.2.2.2.2.1.2.2 _ hao) hC.2.2.2.2.2.1.1 hP hD hS hA (nI_pos (by omega)) (nI_clamp (by omega)) (by omega) (by omega) (by omega) hd (fun q cA' H1 hK1 hP1 hD1 hS1 => ?_)
  have hlt := (List.getElem?_eq_some_iff.mp ht).1
  have he : cA = cA' := ma_cA hK1 (k1 := t0) (k2 := (ma_ty ca).length) (by rw [List.getElem?_append_left hlt]; exact ht) (by simp)
  subst he
  exact K q _ (hw0.fresh hD1) rfl p e R s m args below meth c A Z H1 locs (cells + 1) (slots + n) ls hC hX hA hE ⟨_, hP1, hD1, hw0.push⟩ hS1 (by omega) (by omega) hl
theorem rv_copyi {d1 index a0 a1 n0 n1 sp dp n : Nat} {cA : ClassId} {f g : Nat → Int32} (h0 : hp a0 = some (.inl (cA, n0, .inl f))) (h1 : hp a1 = some (.inl (cA, n1, .inl g))) (t0 : Nat) (ht : (ma_ty ca)[t0]? = some (cA, .int)) (hw : Cond.methodLink M.1.cls index arraycopyName ∈ ma_tbl) (hw1 : Cond.native arraycopyName ∈ ma_tbl) (hw2 : Cond.static arraycopyName ∈ ma_tbl) (hw3 : Cond.initialized "java/lang/System" ∈ ma_tbl) (hb1 : sp + n ≤ n0) (hb2 : dp + n ≤ n1) (hn0 : n0 < 65536) (hn1 : n1 < 65536) (hrs : (st.map fun v => v.category).sum + (nativeFrameWords "java/lang/System" "arraycopy" 5 + 11) ≤ 45) (hd : decode M.2.1 pc = .ok (.invokestatic index, 3)) (K : ∀ hp' : hp_T, hp' = hp_up hp a1 (.inl (cA, n1, .inl (va_cpy f g sp dp n))) → ma_V l D ca EX M (d1 + 1) kc ks hp' Q (pc + 3) lv st) : ma_V l D ca EX M (d1 + 1) kc ks hp Q pc lv (.int (nI n) :: .int (nI dp) :: .ref a1 :: .int (nI sp) :: .ref a0 :: st) := by
  intro p e R s m args below meth c A Z H locs cells slots ls hC hX hA hE hR hS hc hs hl
  obtain ⟨ws, hP, hD, hw0⟩ := id hR
  obtain ⟨q0, hq0⟩ := hw0 _ _ h0
  obtain ⟨q1, hq1⟩ := hw0 _ _ h1
  have e1 : (nI sp).toNatClampNeg = sp := nI_clamp (by omega)
  have e2 : (nI dp).toNatClampNeg = dp := nI_clamp (by omega)
  have e3 : (nI n).toNatClampNeg = n := nI_clamp (by omega)
  have g1 := hC.2.2.2.2.2.2.2.1
  have g2 := hC.2.2.2.2.2.2.2.2
  refine va_copyi hC.1 hC.2.1 (hC.2.2.1.trans hl.1.symm) hC.2.2.2.1 (hC.2.2.2.2.1 _ hw) (hC.2.2.2.2.1 _ hw1) (hC.2.2.2.2.1 _ hw2) (hC.2.2.2.2.1 _ hw3) hC.2.2.2.2.2.1.1 hP hD hS q0 q1 t0 t0 hq0 hq1 ht ht rfl (nI_pos (by omega)) (nI_pos (by omega)) (nI_pos (by omega)) (by rw [e1, e3]; exact hb1) (by rw [e2, e3]; exact hb2) (fun i _ => rfl) (by omega) (by omega) hd (fun H1 locs1 hP1 hD1 hS1 => ?_)
  rw [e1, e2, e3] at hP1 hD1
  exact K _ rfl p e R s m args below meth c A Z H1 locs1 cells slots ls hC hX hA hE ⟨_, hP1, hD1, hw0.set (A := A) hq1⟩ hS1 hc hs hl
theorem rv_copyl {d1 index a0 a1 n0 n1 sp dp n : Nat} {cA : ClassId} {f g : Nat → Int64} (h0 : hp a0 = some (.inl (cA, n0, .inr (.inl f)))) (h1 : hp a1 = some (.inl (cA, n1, .inr (.inl g)))) (t0 : Nat) (ht : (ma_ty ca)[t0]? = some (cA, .long)) (hw : Cond.methodLink M.1.cls index arraycopyName ∈ ma_tbl) (hw1 : Cond.native arraycopyName ∈ ma_tbl) (hw2 : Cond.static arraycopyName ∈ ma_tbl) (hw3 : Cond.initialized "java/lang/System" ∈ ma_tbl) (hb1 : sp + n ≤ n0) (hb2 : dp + n ≤ n1) (hn0 : n0 < 65536) (hn1 : n1 < 65536) (hrs : (st.map fun v => v.category).sum + (nativeFrameWords "java/lang/System" "arraycopy" 5 + 11) ≤ 45) (hd : decode M.2.1 pc = .ok (.invokestatic index, 3)) (K : ∀ hp' : hp_T, hp' = hp_up hp a1 (.inl (cA, n1, .inr (.inl (va_cpy f g sp dp n)))) → ma_V l D ca EX M (d1 + 1) kc ks hp' Q (pc + 3) lv st) : ma_V l D ca EX M (d1 + 1) kc ks hp Q pc lv (.int (nI n) :: .int (nI dp) :: .ref a1 :: .int (nI sp) :: .ref a0 :: st) := by
  intro p e R s m args below meth c A Z H locs cells slots ls hC hX hA hE hR hS hc hs hl
  obtain ⟨ws, hP, hD, hw0⟩ := id hR
  obtain ⟨q0, hq0⟩ := hw0 _ _ h0
  obtain ⟨q1, hq1⟩ := hw0 _ _ h1
  have e1 : (nI sp).toNatClampNeg = sp := nI_clamp (by omega)
  have e2 : (nI dp).toNatClampNeg = dp := nI_clamp (by omega)
  have e3 : (nI n).toNatClampNeg = n := nI_clamp (by omega)
  have g1 := hC.2.2.2.2.2.2.2.1
  have g2 := hC.2.2.2.2.2.2.2.2
  refine va_copyl hC.1 hC.2.1 (hC.2.2.1.trans hl.1.symm) hC.2.2.2.1 (hC.2.2.2.2.1 _ hw) (hC.2.2.2.2.1 _ hw1) (hC.2.2.2.2.1 _ hw2) (hC.2.2.2.2.1 _ hw3) hC.2.2.2.2.2.1.1 hP hD hS q0 q1 t0 t0 hq0 hq1 ht ht rfl (nI_pos (by omega)) (nI_pos (by omega)) (nI_pos (by omega)) (by rw [e1, e3]; exact hb1) (by rw [e2, e3]; exact hb2) (fun i _ => rfl) (by omega) (by omega) hd (fun H1 locs1 hP1 hD1 hS1 => ?_)
  rw [e1, e2, e3] at hP1 hD1
  exact K _ rfl p e R s m args below meth c A Z H1 locs1 cells slots ls hC hX hA hE ⟨_, hP1, hD1, hw0.set (A := A) hq1⟩ hS1 hc hs hl
def ma_X (b L : Nat) (xs : Nat → Int32) : State → (Nat → Prop) → Prop := fun s A => va_X b L xs s s.heap ∧ b < s.heap.size ∧ ¬ A b
theorem rv_sld {b L j : Nat} {xs : Nat → Int32} (hEX : EX = ma_X b L xs) (hj : j < L) (hn : L < 2 ^ 31) (hd : decode M.2.1 pc = .ok (.iaload, 1)) (K : ma_V l D ca EX M d kc ks hp Q (pc + 1) lv (.int (xs j) :: st)) : ma_V l D ca EX M d kc ks hp Q pc lv (.int (nI j) :: .ref b :: st) := by
  subst hEX
  intro p e R s m args below meth c A Z H locs cells slots ls hC hX hA hE hR hS hc hs hl
  refine va_sld hC.1 hC.2.1 hX.1 hX.2.1 hX.2.2 hS (vp_in_nI hj hn) hd ?_
  rw [nI_clamp (by omega)]
  exact (K p e R s m args below meth c A Z H locs cells slots ls hC hX hA hE hR hS hc hs hl)
theorem rv_slen {b L : Nat} {xs : Nat → Int32} (hEX : EX = ma_X b L xs) (hd : decode M.2.1 pc = .ok (.arraylength, 1)) (K : ma_V l D ca EX M d kc ks hp Q (pc + 1) lv (.int (nI L) :: st)) : ma_V l D ca EX M d kc ks hp Q pc lv (.ref b :: st) := by
  subst hEX
  intro p e R s m args below meth c A Z H locs cells slots ls hC hX hA hE hR hS hc hs hl
  exact va_slen hC.1 hC.2.1 hX.1 hX.2.1 hX.2.2 hS hd (K p e R s m args below meth c A Z H locs cells slots ls hC hX hA hE hR hS hc hs hl)
end Mach
end
section
/-! Sets of places as longs: bit p of x is bz_t x p. -/
section Bits
def bz_t (x : Int64) (p : Nat) : Bool := x.toBitVec.getLsbD p
theorem bz_ext {x y : Int64} (h : ∀ p, p < 64 → bz_t x p = bz_t y p) : x = y := Int64.toBitVec_inj.mp (BitVec.eq_of_getLsbD_eq (fun i hi => h i hi))
theorem bz_and (x y : Int64) (p : Nat) : bz_t (x &&& y) p = (bz_t x p && bz_t y p) := by
  unfold bz_t
  rw [Int64.toBitVec_and, BitVec.getLsbD_and]
theorem bz_or (x y : Int64) (p : Nat) : bz_t (x ||| y) p = (bz_t x p || bz_t y p) := by
  unfold bz_t
  rw [Int64.toBitVec_or, BitVec.getLsbD_or]
theorem bz_not (x : Int64) {p : Nat} (hp : p < 64) : bz_t (x ^^^ (-1)) p = !bz_t x p := by
  have ha : (-1 : Int64).toBitVec = BitVec.allOnes 64 := by decide
  unfold bz_t
  rw [Int64.toBitVec_xor, ha, BitVec.getLsbD_xor, BitVec.getLsbD_allOnes]
  simp [hp]
theorem bz_0 (p : Nat) : bz_t 0 p = false := by
  have ha : (0 : Int64).toBitVec = 0#64 := by decide
  unfold bz_t
  rw [ha]
  simp
theorem bz_big {x : Int64} {p : Nat} (h : 64 ≤ p) : bz_t x p = false := by
  unfold bz_t
  exact BitVec.getLsbD_of_ge _ _ h
def bz_b (p : Nat) : Int64 := 1 <<< ((nI p).toInt64 &&& 63)
theorem bz_b_tb : ∀ p, p < 64 → (bz_b p).toBitVec = BitVec.twoPow 64 p := by decide +kernel
theorem bz_bit {p q : Nat} (hp : p < 64) : bz_t (bz_b p) q = decide (p = q) := by
  unfold bz_t
  rw [bz_b_tb p hp, BitVec.getLsbD_twoPow]
  simp [hp]
theorem bz_has {x : Int64} {p : Nat} (hp : p < 64) : (x &&& bz_b p) = 0 ↔ bz_t x p = false := by
  constructor
  · intro h
    have t := congrArg (fun y => bz_t y p) h
    simp only [bz_and, bz_bit hp, bz_0, decide_true, Bool.and_true] at t
    exact t
  · intro h
    apply bz_ext
    intro q hq
    rw [bz_and, bz_bit hp, bz_0]
    by_cases e : p = q
    · subst e
      rw [h]
      rfl
    · simp [e]
theorem bz_eq0 {x : Int64} : x = 0 ↔ ∀ p, p < 64 → bz_t x p = false := by
  constructor
  · intro h p _
    rw [h]
    exact bz_0 p
  · intro h
    apply bz_ext
    intro p hp
    rw [h p hp, bz_0]
/-- how many of the first n bits stand -/
def bz_c (x : Int64) : Nat → Nat
  | 0 => 0
  | n + 1 => bz_c x n + (if bz_t x n = true then 1 else 0)
theorem bz_c_le (x : Int64) (n : Nat) : bz_c x n ≤ n := by
  induction n with
  | zero => exact Nat.le_refl _
  | succ n ih =>
    unfold bz_c
    split <;> omega
/-- a truth as an int -/
def bI (b : Bool) : Int32 := if b = true then nI 1 else nI 0
theorem bI_t : bI true = nI 1 := rfl
theorem bI_f : bI false = nI 0 := rfl
theorem bI_0 {b : Bool} : bI b = 0 ↔ b = false := by cases b <;> decide
theorem bI_n {b : Bool} : ¬ bI b = 0 ↔ b = true := by cases b <;> decide
theorem bI_nar (b : Bool) : narrow .boolean (.int (bI b)) = .int (bI b) := by cases b <;> rfl
theorem lc_0 {x y : Int64} : lg_cmp x y = 0 ↔ x = y := by
  unfold lg_cmp
  constructor
  · intro h
    by_cases h1 : x > y
    · rw [if_pos h1] at h
      exact absurd h (by decide)
    · rw [if_neg h1] at h
      by_cases h2 : x = y
      · exact h2
      · rw [if_neg h2] at h
        exact absurd h (by decide)
  · intro h
    subst h
    simp
end Bits
/-! Long.bitCount -/
section Pop
/-- masks of n bytes -/
def pc_m (m : Nat) : Nat → Nat
  | 0 => 0
  | n + 1 => 256 * pc_m m n + m
theorem pc_and {A B a b : Nat} (ha : a < 256) (hb : b < 256) : (256 * A + a) &&& (256 * B + b) = 256 * (A &&& B) + (a &&& b) := by
  apply Nat.eq_of_testBit_eq
  intro i
  have hab : (a &&& b) < 2 ^ 8 := Nat.and_lt_two_pow _ hb
  have ha' : a < 2 ^ 8 := ha
  have hb' : b < 2 ^ 8 := hb
  rw [Nat.testBit_and, show (256 : Nat) = 2 ^ 8 from rfl, Nat.testBit_two_pow_mul_add _ ha', Nat.testBit_two_pow_mul_add _ hb', Nat.testBit_two_pow_mul_add _ hab]
  split
  · rw [Nat.testBit_and]
  · rw [Nat.testBit_and]
def pc_1 (x : Nat) (n : Nat) : Nat := x - ((x / 2) &&& pc_m 85 n)
def pc_2 (x : Nat) (n : Nat) : Nat := (x &&& pc_m 51 n) + ((x / 4) &&& pc_m 51 n)
def pc_3 (x : Nat) (n : Nat) : Nat := (x + x / 16) &&& pc_m 15 n
/-- the bits of a byte -/
def pc_g (b : Nat) : Nat := pc_3 (pc_2 (pc_1 b 1) 1) 1
theorem pc_d1 : ∀ e, e < 2 → ∀ c, c < 128 → (128 * e + c) &&& 85 = c &&& 85 := by decide +kernel
theorem pc_d2 : ∀ e, e < 4 → ∀ c, c < 64 → (64 * e + c) &&& 51 = c &&& 51 := by decide +kernel
theorem pc_d3 : ∀ b, b < 256 → pc_1 b 1 < 256 ∧ ((b / 2) &&& 85) ≤ b ∧ (pc_1 b 1 &&& 51) + ((pc_1 b 1 / 4) &&& 51) = pc_2 (pc_1 b 1) 1 ∧ pc_2 (pc_1 b 1) 1 ≤ 68 ∧ pc_2 (pc_1 b 1) 1 % 16 ≤ 4 ∧ pc_g b ≤ 8 := by decide +kernel
theorem pc_d4 : ∀ e, e < 5 → ∀ c, c < 69 → c % 16 ≤ 4 → (c + c / 16 + 16 * e) &&& 15 = (c + c / 16) &&& 15 := by decide +kernel
theorem pc_s1 {A b n : Nat} (hb : b < 256) (hA : ((A / 2) &&& pc_m 85 n) ≤ A) : pc_1 (256 * A + b) (n + 1) = 256 * pc_1 A n + pc_1 b 1 ∧ (((256 * A + b) / 2) &&& pc_m 85 (n + 1)) ≤ 256 * A + b := by
  have e1 : (256 * A + b) / 2 = 256 * (A / 2) + (128 * (A % 2) + b / 2) := by omega
  have e2 : ((256 * A + b) / 2) &&& pc_m 85 (n + 1) = 256 * ((A / 2) &&& pc_m 85 n) + ((b / 2) &&& 85) := by
    rw [e1]
    show _ &&& (256 * pc_m 85 n + 85) = _
    rw [pc_and (by omega) (by decide), pc_d1 _ (by omega) _ (by omega)]
  have h3 := (pc_d3 b hb).2.1
  unfold pc_1
  rw [e2]
  have e3 : pc_m 85 1 = 85 := rfl
  rw [e3]
  constructor <;> omega
theorem pc_s2 {A b n : Nat} (hb : b < 256) : pc_2 (256 * A + b) (n + 1) = 256 * pc_2 A n + ((b &&& 51) + ((b / 4) &&& 51)) := by
  have e1 : (256 * A + b) / 4 = 256 * (A / 4) + (64 * (A % 4) + b / 4) := by omega
  unfold pc_2
  show ((256 * A + b) &&& (256 * pc_m 51 n + 51)) + (_ &&& (256 * pc_m 51 n + 51)) = _
  rw [e1, pc_and hb (by decide), pc_and (by omega) (by decide), pc_d2 _ (by omega) _ (by omega)]
  omega
theorem pc_s3 {A b n : Nat} (hb : b ≤ 68) (h1 : b % 16 ≤ 4) (hA : A % 16 ≤ 4) : pc_3 (256 * A + b) (n + 1) = 256 * pc_3 A n + ((b + b / 16) &&& 15) := by
  have e1 : 256 * A + b + (256 * A + b) / 16 = 256 * (A + A / 16) + (b + b / 16 + 16 * (A % 16)) := by omega
  unfold pc_3
  rw [e1]
  show _ &&& (256 * pc_m 15 n + 15) = _
  rw [pc_and (by omega) (by decide), pc_d4 _ (by omega) _ (by omega) h1]
/-- the three first steps on n bytes: each byte its own -/
def pc_S (x : Nat) (n : Nat) : Nat := pc_3 (pc_2 (pc_1 x n) n) n
theorem pc_ind (n : Nat) : ∀ x, x < 256 ^ n → ((x / 2) &&& pc_m 85 n) ≤ x ∧ pc_2 (pc_1 x n) n % 16 ≤ 4 ∧ ∀ b, b < 256 → pc_S (256 * x + b) (n + 1) = 256 * pc_S x n + pc_g b := by
  induction n with
  | zero =>
    intro x hx
    have : x = 0 := by
      rw [Nat.pow_zero] at hx
      omega
    subst this
    refine ⟨by decide, by decide, fun b hb => ?_⟩
    show pc_S (256 * 0 + b) 1 = 256 * pc_S 0 0 + pc_g b
    rw [show pc_S 0 0 = 0 from by decide]
    simp only [Nat.mul_zero, Nat.zero_add]
    rfl
  | succ n ih =>
    intro x hx
    have hx2 : x = 256 * (x / 256) + x % 256 := by omega
    have hq : x / 256 < 256 ^ n := by
      rw [Nat.pow_succ] at hx
      omega
    have hr : x % 256 < 256 := Nat.mod_lt _ (by decide)
    obtain ⟨i1, i2, i3⟩ := ih (x / 256) hq
    obtain ⟨d1, d2, d3, d4, d5, d6⟩ := pc_d3 (x % 256) hr
    have k1 := pc_s1 hr i1
    rw [← hx2] at k1
    have k2 : pc_2 (pc_1 x (n + 1)) (n + 1) = 256 * pc_2 (pc_1 (x / 256) n) n + pc_2 (pc_1 (x % 256) 1) 1 := by
      rw [k1.1, pc_s2 d1, d3]
    have k3 : pc_2 (pc_1 x (n + 1)) (n + 1) % 16 ≤ 4 := by
      rw [k2]
      omega
    refine ⟨k1.2, k3, fun b hb => ?_⟩
    obtain ⟨b1, b2, b3, b4, b5, b6⟩ := pc_d3 b hb
    have m1 := (pc_s1 hb k1.2).1
    have m2 : pc_2 (pc_1 (256 * x + b) (n + 1 + 1)) (n + 1 + 1) = 256 * pc_2 (pc_1 x (n + 1)) (n + 1) + pc_2 (pc_1 b 1) 1 := by
      rw [m1, pc_s2 b1, b3]
    unfold pc_S
    rw [m2, pc_s3 b4 b5 k3]
    rfl
end Pop
end
section
/-! Long.bitCount: how many bits stand. -/
section WordBits
theorem wb_tb (n : Nat) : (lN n).toBitVec = BitVec.ofNat 64 n := rfl
theorem wb_inj {a b : Int64} (h : a.toBitVec = b.toBitVec) : a = b := Int64.toBitVec_inj.mp h
theorem wb_tn {n : Nat} (h : n < 2 ^ 64) : (lN n).toBitVec.toNat = n := by rw [wb_tb, BitVec.toNat_ofNat, Nat.mod_eq_of_lt h]
theorem wb_of (x : Int64) : ∃ n, n < 2 ^ 64 ∧ x = lN n := ⟨x.toBitVec.toNat, x.toBitVec.isLt, wb_inj (by rw [wb_tb]; simp)⟩
theorem wb_cu : ∀ k, k < 64 → ((nI k).toInt64.toUInt64 &&& Int64.toUInt64 63) = UInt64.ofNat k := by decide +kernel
theorem wb_shr {n k : Nat} (hn : n < 2 ^ 64) (hk : k < 64) : ((lN n).toUInt64 >>> ((nI k).toInt64.toUInt64 &&& Int64.toUInt64 63)).toInt64 = lN (n / 2 ^ k) := by
  rw [wb_cu k hk]
  apply wb_inj
  apply BitVec.eq_of_toNat_eq
  show ((lN n).toUInt64 >>> UInt64.ofNat k).toNat = (BitVec.ofNat 64 _).toNat
  have h1 : (UInt64.ofNat k).toNat = k := by
    show (BitVec.ofNat 64 k).toNat = k
    rw [BitVec.toNat_ofNat, Nat.mod_eq_of_lt (by omega)]
  have h2 : (lN n).toUInt64.toNat = n := wb_tn hn
  rw [UInt64.toNat_shiftRight, h1, h2, Nat.mod_eq_of_lt hk, Nat.shiftRight_eq_div_pow, BitVec.toNat_ofNat, Nat.mod_eq_of_lt (Nat.lt_of_le_of_lt (Nat.div_le_self _ _) hn)]
theorem wb_and {a b : Nat} (ha : a < 2 ^ 64) (hb : b < 2 ^ 64) : lN a &&& lN b = lN (a &&& b) := by
  apply wb_inj
  rw [Int64.toBitVec_and, wb_tb, wb_tb, wb_tb]
  apply BitVec.eq_of_toNat_eq
  rw [BitVec.toNat_and, BitVec.toNat_ofNat, BitVec.toNat_ofNat, BitVec.toNat_ofNat, Nat.mod_eq_of_lt ha, Nat.mod_eq_of_lt hb, Nat.mod_eq_of_lt (Nat.and_lt_two_pow _ hb)]
theorem bz_lN {n : Nat} (hn : n < 2 ^ 64) (p : Nat) : bz_t (lN n) p = n.testBit p := by
  unfold bz_t
  rw [← BitVec.testBit_toNat, wb_tn hn]
end WordBits
section Count
def ct_n (P : Nat → Bool) : Nat → Nat
  | 0 => 0
  | n + 1 => ct_n P n + (if P n = true then 1 else 0)
theorem ct_add (P : Nat → Bool) (a : Nat) : ∀ b, ct_n P (a + b) = ct_n P a + ct_n (fun i => P (a + i)) b := by
  intro b
  induction b with
  | zero => rfl
  | succ b ih =>
    show ct_n P (a + b) + (if P (a + b) = true then 1 else 0) = ct_n P a + (ct_n (fun i => P (a + i)) b + (if P (a + b) = true then 1 else 0))
    rw [ih]
    omega
theorem ct_ext {P R : Nat → Bool} {n : Nat} (h : ∀ i, i < n → P i = R i) : ct_n P n = ct_n R n := by
  induction n with
  | zero => rfl
  | succ n ih =>
    show ct_n P n + _ = ct_n R n + _
    rw [ih (fun i hi => h i (by omega)), h n (by omega)]
theorem bz_ct (x : Int64) (n : Nat) : bz_c x n = ct_n (bz_t x) n := by
  induction n with
  | zero => rfl
  | succ n ih =>
    show bz_c x n + _ = ct_n (bz_t x) n + _
    rw [ih]
theorem pc_gc : ∀ b, b < 256 → pc_g b = ct_n (fun i => b.testBit i) 8 := by decide +kernel
theorem ct_byte {a b k : Nat} (hb : b < 256) : ct_n (fun i => (256 * a + b).testBit i) (8 + k) = pc_g b + ct_n (fun i => a.testBit i) k := by
  have hb' : b < 2 ^ 8 := hb
  rw [ct_add, pc_gc b hb]
  congr 1
  · apply ct_ext
    intro i hi
    rw [show (256 : Nat) = 2 ^ 8 from rfl, Nat.testBit_two_pow_mul_add _ hb', if_pos hi]
  · apply ct_ext
    intro i _
    show (256 * a + b).testBit (8 + i) = _
    rw [show (256 : Nat) = 2 ^ 8 from rfl, Nat.testBit_two_pow_mul_add _ hb', if_neg (by omega), Nat.add_sub_cancel_left]
/-- n bytes of x: the number that the three steps make, and its bits -/
theorem pc_byte (n : Nat) {x : Nat} (h : x < 256 ^ (n + 1)) : ∃ a b, x = 256 * a + b ∧ b < 256 ∧ a < 256 ^ n ∧ pc_S x (n + 1) = 256 * pc_S a n + pc_g b ∧ ct_n (fun i => x.testBit i) (8 + 8 * n) = pc_g b + ct_n (fun i => a.testBit i) (8 * n) := by
  have hr : x % 256 < 256 := Nat.mod_lt _ (by decide)
  have hq : x / 256 < 256 ^ n := by
    rw [Nat.pow_succ] at h
    omega
  have e : 256 * (x / 256) + x % 256 = x := by omega
  refine ⟨x / 256, x % 256, by omega, hr, hq, ?_, ?_⟩
  · have := (pc_ind n (x / 256) hq).2.2 (x % 256) hr
    rw [e] at this
    exact this
  · have := ct_byte (a := x / 256) (k := 8 * n) hr
    rw [e] at this
    exact this
theorem pc_g8 {b : Nat} (h : b < 256) : pc_g b ≤ 8 := (pc_d3 b h).2.2.2.2.2
theorem pc_q {c X : Nat} (h : c < 256) : (c + 256 * X) / 256 = X := by omega
theorem pc_l {c X B : Nat} (hc : c ≤ 8) (hX : X < B) : c + 256 * X < 256 * B := by omega
theorem pc_y {a b x y : Nat} : (a + 256 * x) + (b + 256 * y) = (a + b) + 256 * (x + y) := by omega
theorem pc_2s {a b : Nat} (ha : a ≤ 8) (hb : b ≤ 8) : a + b < 256 := by omega
theorem pc_4 {a b c d : Nat} (ha : a ≤ 8) (hb : b ≤ 8) (hc : c ≤ 8) (hd : d ≤ 8) : a + b + (c + d) ≤ 32 := by omega
theorem pc_4s {a b c d : Nat} (ha : a ≤ 8) (hb : b ≤ 8) (hc : c ≤ 8) (hd : d ≤ 8) : a + b + (c + d) < 256 := by omega
theorem pc_z {a b u v : Nat} (ha : a ≤ 32) (hb : b ≤ 32) : ((a + 256 * u) + (b + 256 * v)) % 128 = a + b := by omega
theorem pc_ar {T c0 c1 c2 c3 c4 c5 c6 c7 : Nat} (g0 : c0 ≤ 8) (g1 : c1 ≤ 8) (g2 : c2 ≤ 8) (g3 : c3 ≤ 8) (g4 : c4 ≤ 8) (g5 : c5 ≤ 8) (g6 : c6 ≤ 8) (g7 : c7 ≤ 8) (t : T = c0 + 256 * (c1 + 256 * (c2 + 256 * (c3 + 256 * (c4 + 256 * (c5 + 256 * (c6 + 256 * c7))))))) : T < 2 ^ 60 ∧ (T + T / 256 + (T + T / 256) / 65536 + (T + T / 256 + (T + T / 256) / 65536) / 4294967296) % 128 = c0 + (c1 + (c2 + (c3 + (c4 + (c5 + (c6 + c7)))))) := by
  obtain ⟨x6, e6⟩ : ∃ z, z = c6 + 256 * c7 := ⟨_, rfl⟩
  obtain ⟨x5, e5⟩ : ∃ z, z = c5 + 256 * x6 := ⟨_, rfl⟩
  obtain ⟨x4, e4⟩ : ∃ z, z = c4 + 256 * x5 := ⟨_, rfl⟩
  obtain ⟨x3, e3⟩ : ∃ z, z = c3 + 256 * x4 := ⟨_, rfl⟩
  obtain ⟨x2, e2⟩ : ∃ z, z = c2 + 256 * x3 := ⟨_, rfl⟩
  obtain ⟨x1, e1⟩ : ∃ z, z = c1 + 256 * x2 := ⟨_, rfl⟩
  have e0 : T = c0 + 256 * x1 := by rw [t, e1, e2, e3, e4, e5, e6]
  clear t
  have l7 : c7 < 16 := Nat.lt_of_le_of_lt g7 (by decide)
  have l6 : x6 < 256 * 16 := e6 ▸ pc_l g6 l7
  have l5 : x5 < 256 * (256 * 16) := e5 ▸ pc_l g5 l6
  have l4 : x4 < 256 * (256 * (256 * 16)) := e4 ▸ pc_l g4 l5
  have l3 : x3 < 256 * (256 * (256 * (256 * 16))) := e3 ▸ pc_l g3 l4
  have l2 : x2 < 256 * (256 * (256 * (256 * (256 * 16)))) := e2 ▸ pc_l g2 l3
  have l1 : x1 < 256 * (256 * (256 * (256 * (256 * (256 * 16))))) := e1 ▸ pc_l g1 l2
  have l0 : T < 256 * (256 * (256 * (256 * (256 * (256 * (256 * 16)))))) := e0 ▸ pc_l g0 l1
  refine ⟨l0, ?_⟩
  have q1 : T / 256 = x1 := by rw [e0]; exact pc_q (Nat.lt_of_le_of_lt g0 (by decide))
  rw [q1]
  have y0 : T + x1 = (c0 + c1) + 256 * (x1 + x2) := by rw [← pc_y, ← e0, ← e1]
  have y1 : x1 + x2 = (c1 + c2) + 256 * (x2 + x3) := by rw [← pc_y, ← e1, ← e2]
  have y2 : x2 + x3 = (c2 + c3) + 256 * (x3 + x4) := by rw [← pc_y, ← e2, ← e3]
  have y3 : x3 + x4 = (c3 + c4) + 256 * (x4 + x5) := by rw [← pc_y, ← e3, ← e4]
  have y4 : x4 + x5 = (c4 + c5) + 256 * (x5 + x6) := by rw [← pc_y, ← e4, ← e5]
  have y5 : x5 + x6 = (c5 + c6) + 256 * (x6 + c7) := by rw [← pc_y, ← e5, ← e6]
  have y6 : x6 + c7 = (c6 + c7) + 256 * (c7 + 0) := by rw [← pc_y, ← e6, Nat.mul_zero, Nat.add_zero]
  have q2 : (T + x1) / 65536 = x2 + x3 := by
    rw [show (65536 : Nat) = 256 * 256 from rfl, ← Nat.div_div_eq_div_mul, y0, pc_q (pc_2s g0 g1), y1, pc_q (pc_2s g1 g2)]
  rw [q2]
  have z0 : T + x1 + (x2 + x3) = (c0 + c1 + (c2 + c3)) + 256 * ((x1 + x2) + (x3 + x4)) := by rw [← pc_y, ← y0, ← y2]
  have z1 : (x1 + x2) + (x3 + x4) = (c1 + c2 + (c3 + c4)) + 256 * ((x2 + x3) + (x4 + x5)) := by rw [← pc_y, ← y1, ← y3]
  have z2 : (x2 + x3) + (x4 + x5) = (c2 + c3 + (c4 + c5)) + 256 * ((x3 + x4) + (x5 + x6)) := by rw [← pc_y, ← y2, ← y4]
  have z3 : (x3 + x4) + (x5 + x6) = (c3 + c4 + (c5 + c6)) + 256 * ((x4 + x5) + (x6 + c7)) := by rw [← pc_y, ← y3, ← y5]
  have z4 : (x4 + x5) + (x6 + c7) = (c4 + c5 + (c6 + c7)) + 256 * ((x5 + x6) + (c7 + 0)) := by rw [← pc_y, ← y4, ← y6]
  have q3 : (T + x1 + (x2 + x3)) / 4294967296 = (x4 + x5) + (x6 + c7) := by
    rw [show (4294967296 : Nat) = 256 * 256 * 256 * 256 from rfl, ← Nat.div_div_eq_div_mul, ← Nat.div_div_eq_div_mul, ← Nat.div_div_eq_div_mul, z0, pc_q (pc_4s g0 g1 g2 g3), z1, pc_q (pc_4s g1 g2 g3 g4), z2, pc_q (pc_4s g2 g3 g4 g5), z3, pc_q (pc_4s g3 g4 g5 g6)]
  rw [q3, z0, z4, pc_z (pc_4 g0 g1 g2 g3) (pc_4 g4 g5 g6 g7)]
  simp only [Nat.add_assoc]
theorem pc_fold {x : Nat} (h : x < 256 ^ 8) : pc_S x 8 < 2 ^ 60 ∧ (pc_S x 8 + pc_S x 8 / 256 + (pc_S x 8 + pc_S x 8 / 256) / 65536 + (pc_S x 8 + pc_S x 8 / 256 + (pc_S x 8 + pc_S x 8 / 256) / 65536) / 4294967296) % 128 = ct_n (fun i => x.testBit i) 64 := by
  obtain ⟨a0, b0, -, l0, h0, s0, c0⟩ := pc_byte 7 h
  obtain ⟨a1, b1, -, l1, h1, s1, c1⟩ := pc_byte 6 h0
  obtain ⟨a2, b2, -, l2, h2, s2, c2⟩ := pc_byte 5 h1
  obtain ⟨a3, b3, -, l3, h3, s3, c3⟩ := pc_byte 4 h2
  obtain ⟨a4, b4, -, l4, h4, s4, c4⟩ := pc_byte 3 h3
  obtain ⟨a5, b5, -, l5, h5, s5, c5⟩ := pc_byte 2 h4
  obtain ⟨a6, b6, -, l6, h6, s6, c6⟩ := pc_byte 1 h5
  obtain ⟨a7, b7, -, l7, h7, s7, c7⟩ := pc_byte 0 h6
  have z7 : a7 = 0 := by
    rw [Nat.pow_zero] at h7
    omega
  subst z7
  rw [show pc_S 0 0 = 0 from by decide] at s7
  have d7 : ct_n (fun i => (0 : Nat).testBit i) (8 * 0) = 0 := rfl
  rw [d7] at c7
  have g0 := pc_g8 l0
  have g1 := pc_g8 l1
  have g2 := pc_g8 l2
  have g3 := pc_g8 l3
  have g4 := pc_g8 l4
  have g5 := pc_g8 l5
  have g6 := pc_g8 l6
  have g7 := pc_g8 l7
  have hc : ct_n (fun i => x.testBit i) 64 = pc_g b0 + (pc_g b1 + (pc_g b2 + (pc_g b3 + (pc_g b4 + (pc_g b5 + (pc_g b6 + pc_g b7)))))) := by
    have e0 : ct_n (fun i => x.testBit i) 64 = pc_g b0 + ct_n (fun i => a0.testBit i) 56 := c0
    have e1 : ct_n (fun i => a0.testBit i) 56 = pc_g b1 + ct_n (fun i => a1.testBit i) 48 := c1
    have e2 : ct_n (fun i => a1.testBit i) 48 = pc_g b2 + ct_n (fun i => a2.testBit i) 40 := c2
    have e3 : ct_n (fun i => a2.testBit i) 40 = pc_g b3 + ct_n (fun i => a3.testBit i) 32 := c3
    have e4 : ct_n (fun i => a3.testBit i) 32 = pc_g b4 + ct_n (fun i => a4.testBit i) 24 := c4
    have e5 : ct_n (fun i => a4.testBit i) 24 = pc_g b5 + ct_n (fun i => a5.testBit i) 16 := c5
    have e6 : ct_n (fun i => a5.testBit i) 16 = pc_g b6 + ct_n (fun i => a6.testBit i) 8 := c6
    have e7 : ct_n (fun i => a6.testBit i) 8 = pc_g b7 + 0 := c7
    omega
  have t : pc_S x 8 = pc_g b0 + 256 * (pc_g b1 + 256 * (pc_g b2 + 256 * (pc_g b3 + 256 * (pc_g b4 + 256 * (pc_g b5 + 256 * (pc_g b6 + 256 * pc_g b7)))))) := by
    rw [show pc_S x 8 = 256 * pc_S a0 7 + pc_g b0 from s0, show pc_S a0 7 = 256 * pc_S a1 6 + pc_g b1 from s1, show pc_S a1 6 = 256 * pc_S a2 5 + pc_g b2 from s2, show pc_S a2 5 = 256 * pc_S a3 4 + pc_g b3 from s3, show pc_S a3 4 = 256 * pc_S a4 3 + pc_g b4 from s4, show pc_S a4 3 = 256 * pc_S a5 2 + pc_g b5 from s5, show pc_S a5 2 = 256 * pc_S a6 1 + pc_g b6 from s6, show pc_S a6 1 = 256 * 0 + pc_g b7 from s7]
    simp only [Nat.mul_zero, Nat.zero_add, Nat.add_comm]
  rw [hc]
  exact pc_ar g0 g1 g2 g3 g4 g5 g6 g7 t
theorem pc_main {x x1 x2 x3 x4 x5 x6 : Int64} (e1 : x1 = x - ((x.toUInt64 >>> ((nI 1).toInt64.toUInt64 &&& Int64.toUInt64 63)).toInt64 &&& 6148914691236517205)) (e2 : x2 = (x1 &&& 3689348814741910323) + ((x1.toUInt64 >>> ((nI 2).toInt64.toUInt64 &&& Int64.toUInt64 63)).toInt64 &&& 3689348814741910323)) (e3 : x3 = (x2 + (x2.toUInt64 >>> ((nI 4).toInt64.toUInt64 &&& Int64.toUInt64 63)).toInt64) &&& 1085102592571150095) (e4 : x4 = x3 + (x3.toUInt64 >>> ((nI 8).toInt64.toUInt64 &&& Int64.toUInt64 63)).toInt64) (e5 : x5 = x4 + (x4.toUInt64 >>> ((nI 16).toInt64.toUInt64 &&& Int64.toUInt64 63)).toInt64) (e6 : x6 = x5 + (x5.toUInt64 >>> ((nI 32).toInt64.toUInt64 &&& Int64.toUInt64 63)).toInt64) : x6.toInt32 &&& nI 127 = nI (bz_c x 64) := by
  obtain ⟨n, hn, rfl⟩ := wb_of x
  have hn8 : n < 256 ^ 8 := hn
  have m1 : (6148914691236517205 : Int64) = lN (pc_m 85 8) := by decide +kernel
  have m2 : (3689348814741910323 : Int64) = lN (pc_m 51 8) := by decide +kernel
  have m3 : (1085102592571150095 : Int64) = lN (pc_m 15 8) := by decide +kernel
  have l1 : pc_m 85 8 < 2 ^ 64 := by decide +kernel
  have l2 : pc_m 51 8 < 2 ^ 62 := by decide +kernel
  have l3 : pc_m 15 8 < 2 ^ 60 := by decide +kernel
  have k1 : ((n / 2) &&& pc_m 85 8) ≤ n := by
    have h1 : ((n / 2) &&& pc_m 85 8) ≤ n / 2 := Nat.and_le_left
    omega
  have f1 : x1 = lN (pc_1 n 8) := by
    rw [e1, wb_shr hn (by decide), m1, wb_and (by omega) l1, lN_sub (by simpa using k1)]
    rfl
  have b1 : pc_1 n 8 < 2 ^ 64 := by
    unfold pc_1
    omega
  have f2 : x2 = lN (pc_2 (pc_1 n 8) 8) := by
    rw [e2, f1, wb_shr b1 (by decide), m2, wb_and b1 (by omega), wb_and (by omega) (by omega), lN_add]
    rfl
  have b2 : pc_2 (pc_1 n 8) 8 < 2 ^ 63 := by
    unfold pc_2
    have h1 : (pc_1 n 8 &&& pc_m 51 8) ≤ pc_m 51 8 := Nat.and_le_right
    have h2 : (pc_1 n 8 / 4 &&& pc_m 51 8) ≤ pc_m 51 8 := Nat.and_le_right
    omega
  have f3 : x3 = lN (pc_S n 8) := by
    rw [e3, f2, wb_shr (by omega) (by decide), lN_add, m3, wb_and (by omega) (by omega)]
    rfl
  obtain ⟨b3, hf⟩ := pc_fold hn8
  have f4 : x4 = lN (pc_S n 8 + pc_S n 8 / 256) := by
    rw [e4, f3, wb_shr (by omega) (by decide), lN_add]
  have f5 : x5 = lN (pc_S n 8 + pc_S n 8 / 256 + (pc_S n 8 + pc_S n 8 / 256) / 65536) := by
    rw [e5, f4, wb_shr (by omega) (by decide), lN_add]
  have f6 : x6 = lN (pc_S n 8 + pc_S n 8 / 256 + (pc_S n 8 + pc_S n 8 / 256) / 65536 + (pc_S n 8 + pc_S n 8 / 256 + (pc_S n 8 + pc_S n 8 / 256) / 65536) / 4294967296) := by
    rw [e6, f5, wb_shr (by omega) (by decide), lN_add]
  have hc : bz_c (lN n) 64 = ct_n (fun i => n.testBit i) 64 := by
    rw [bz_ct]
    exact ct_ext (fun i _ => bz_lN hn i)
  rw [hc, ← hf, f6, lN_i]
  generalize pc_S n 8 + pc_S n 8 / 256 + (pc_S n 8 + pc_S n 8 / 256) / 65536 + (pc_S n 8 + pc_S n 8 / 256 + (pc_S n 8 + pc_S n 8 / 256) / 65536) / 4294967296 = U
  rw [pk_and (nI U) (m := nI 127) 7 (by decide)]
  have ht : (nI U).toBitVec.toNat = U % 2 ^ 32 := by
    show (BitVec.ofNat 32 U).toNat = _
    rw [BitVec.toNat_ofNat]
  rw [ht]
  congr 1
  omega
end Count
end
section
/-! Words for the class's state: names, keys, loops. -/
section PureWords
abbrev nm_T : Type := Int64 × Int64 × Int64 × Int64
abbrev nm_F (n : nm_T) : List Value := [.long n.1, .long n.2.1, .long n.2.2.1, .long n.2.2.2]
theorem nm_of {a b : nm_T} (h1 : a.1 = b.1) (h2 : a.2.1 = b.2.1) (h3 : a.2.2.1 = b.2.2.1) (h4 : a.2.2.2 = b.2.2.2) : a = b := by
  obtain ⟨a1, a2, a3, a4⟩ := a
  obtain ⟨b1, b2, b3, b4⟩ := b
  dsimp only at h1 h2 h3 h4
  subst h1 h2 h3 h4
  rfl
/-- name j of an array of names' words -/
def kx_n (f : Nat → Int64) (j : Nat) : nm_T := (f (j * 4), f (j * 4 + 1), f (j * 4 + 2), f (j * 4 + 3))
/-- is P so at one of i, i + 1, .. (m of them)? -/
def lp_any (P : Nat → Bool) : Nat → Nat → Bool
  | 0, _ => false
  | m + 1, i => P i || lp_any P m (i + 1)
theorem lp_any_t {P : Nat → Bool} {m i : Nat} (h : P i = true) : lp_any P (m + 1) i = true := by simp [lp_any, h]
theorem lp_any_f {P : Nat → Bool} {m i : Nat} (h : P i = false) : lp_any P (m + 1) i = lp_any P m (i + 1) := by simp [lp_any, h]
theorem lp_any_iff {P : Nat → Bool} {m : Nat} : ∀ {i : Nat}, lp_any P m i = true ↔ ∃ j, i ≤ j ∧ j < i + m ∧ P j = true := by
  induction m with
  | zero =>
    intro i
    constructor
    · intro h
      cases h
    · rintro ⟨j, h1, h2, -⟩
      omega
  | succ m ih =>
    intro i
    show (P i || lp_any P m (i + 1)) = true ↔ _
    rw [Bool.or_eq_true, ih]
    constructor
    · rintro (h | ⟨j, h1, h2, h3⟩)
      · exact ⟨i, by omega, by omega, h⟩
      · exact ⟨j, by omega, by omega, h3⟩
    · rintro ⟨j, h1, h2, h3⟩
      by_cases e : j = i
      · subst e
        exact Or.inl h3
      · exact Or.inr ⟨j, by omega, by omega, h3⟩
/-- the first of i, i + 1, .. (m of them) at which P is so, or -1 -/
def lp_find (P : Nat → Bool) : Nat → Nat → Int32
  | 0, _ => -1
  | m + 1, i => if P i = true then nI i else lp_find P m (i + 1)
theorem lp_find_t {P : Nat → Bool} {m i : Nat} (h : P i = true) : lp_find P (m + 1) i = nI i := by simp [lp_find, h]
theorem lp_find_f {P : Nat → Bool} {m i : Nat} (h : P i = false) : lp_find P (m + 1) i = lp_find P m (i + 1) := by simp [lp_find, h]
/-- a loop that gathers: from i on, m times -/
def lp_fold {α : Type} (F : Nat → α → α) : Nat → Nat → α → α
  | 0, _, a => a
  | m + 1, i, a => lp_fold F m (i + 1) (F i a)
theorem bt_f {b : Bool} (h : ¬ b = true) : b = false := by cases b <;> first | rfl | exact absurd rfl h
end PureWords
section PoolWords
/-- keys: how many, the names' words, the indexes -/
abbrev kv_T : Type := Nat × (Nat → Int64) × (Nat → Int32)
/-- a transaction: name, keys, fee, size, outputs, coming, parents, children -/
abbrev tx_T : Type := nm_T × kv_T × Int64 × Int32 × Int32 × Int32 × Int64 × Int64
/-- where a pool's cells lie: the array of places; of each place the transaction, its name, its keys, their words, their indexes -/
abbrev po_L : Type := Nat × (Nat → Nat) × (Nat → Nat) × (Nat → Nat) × (Nat → Nat) × (Nat → Nat)
/-- a pool: who is present, how many came, the places -/
abbrev po_S : Type := Int64 × Int32 × (Nat → tx_T)
abbrev tx_F (L : po_L) (p : Nat) (t : tx_T) : List Value := [.ref (L.2.2.1 p), .ref (L.2.2.2.1 p), .long t.2.2.1, .int t.2.2.2.1, .int t.2.2.2.2.1, .int t.2.2.2.2.2.1, .long t.2.2.2.2.2.2.1, .long t.2.2.2.2.2.2.2]
def kx_At (ca : Nat → ClassId) (hp : hp_T) (k w i : Nat) (v : kv_T) : Prop := hp k = some (.inr (1, [.ref w, .ref i, .int (nI v.1)])) ∧ hp w = some (.inl (ca 1, 32, .inr (.inl v.2.1))) ∧ hp i = some (.inl (ca 0, 8, .inl v.2.2)) ∧ v.1 ≤ 8
def tx_At (ca : Nat → ClassId) (hp : hp_T) (L : po_L) (p : Nat) (t : tx_T) : Prop := hp (L.2.1 p) = some (.inr (2, tx_F L p t)) ∧ hp (L.2.2.1 p) = some (.inr (0, nm_F t.1)) ∧ kx_At ca hp (L.2.2.2.1 p) (L.2.2.2.2.1 p) (L.2.2.2.2.2 p) t.2.1
def po_At (ca : Nat → ClassId) (hp : hp_T) (po : Nat) (L : po_L) (S : po_S) : Prop := hp po = some (.inr (3, [.ref L.1, .long S.1, .int S.2.1])) ∧ (∃ f : Nat → Option Nat, hp L.1 = some (.inl (ca 2, 41, .inr (.inr (.inr (.inr f))))) ∧ ∀ p, p < 41 → f p = some (L.2.1 p)) ∧ ∀ p, p < 41 → tx_At ca hp L p (S.2.2 p)
def kv_bears (v : kv_T) (m : nm_T) : Bool := lp_any (fun j => decide (kx_n v.2.1 j = m)) v.1 0
def kv_has (v : kv_T) (m : nm_T) (x : Int32) : Bool := lp_any (fun j => decide (v.2.2 j = x) && decide (kx_n v.2.1 j = m)) v.1 0
def kv_miss (v : kv_T) (m : nm_T) (x : Int32) : Bool := lp_any (fun j => (decide (v.2.2 j < 0) || decide (x ≤ v.2.2 j)) && decide (kx_n v.2.1 j = m)) v.1 0
def kv_meet (v u : kv_T) : Bool := lp_any (fun i => lp_any (fun j => decide (v.2.2 i = u.2.2 j) && !(lp_any (fun w => !decide (v.2.1 (i * 4 + w) = u.2.1 (j * 4 + w))) 4 0)) u.1 0) v.1 0
def kx_w (f : Nat → Int64) (j : Nat) (n : nm_T) : Nat → Int64 := vp_updL (vp_updL (vp_updL (vp_updL f j n.1) (j + 1) n.2.1) (j + 2) n.2.2.1) (j + 3) n.2.2.2
def cl_find (S : po_S) (m : nm_T) : Int32 := lp_find (fun p => bz_t S.1 p && decide ((S.2.2 p).1 = m)) 41 0
def cl_spender (S : po_S) (m : nm_T) (x : Int32) : Int32 := lp_find (fun p => bz_t S.1 p && kv_has (S.2.2 p).2.1 m x) 41 0
def cl_spent (S : po_S) (v : kv_T) : Bool := lp_any (fun p => bz_t S.1 p && kv_meet (S.2.2 p).2.1 v) 41 0
def cl_miss (S : po_S) (m : nm_T) (v : kv_T) (x : Int32) : Bool := lp_any (fun p => bz_t S.1 p && (kv_miss v (S.2.2 p).1 (S.2.2 p).2.2.2.2.1 || kv_miss (S.2.2 p).2.1 m x)) 41 0
def cl_spenders (S : po_S) (m : nm_T) : Int64 := lp_fold (fun p a => if (bz_t S.1 p && kv_bears (S.2.2 p).2.1 m) = true then a ||| bz_b p else a) 41 0 0
def cl_named (S : po_S) (v : kv_T) : Int64 := lp_fold (fun p a => if (bz_t S.1 p && kv_bears v (S.2.2 p).1) = true then a ||| bz_b p else a) 41 0 0
def cl_fees (S : po_S) (x : Int64) : Int64 := lp_fold (fun p a => if bz_t x p = true then a + (S.2.2 p).2.2.1 else a) 41 0 0
def cl_sizes (S : po_S) (x : Int64) : Int32 := lp_fold (fun p a => if bz_t x p = true then a + (S.2.2 p).2.2.2.1 else a) 41 0 (nI 0)
def cl_keys (S : po_S) : Int32 := lp_fold (fun p a => if bz_t S.1 p = true then a + nI (S.2.2 p).2.1.1 else a) 41 0 (nI 0)
def bz_low (x : Int64) : Nat := bz_c ((x &&& -x) - 1) 64
/-- the walk of family: m steps left -/
def cl_famL (S : po_S) : Nat → Int64 → Int64 → Int64
  | 0, a, _ => a
  | m + 1, a, o => if 41 ≤ bz_low o then a else cl_famL S m (a ||| ((S.2.2 (bz_low o)).2.2.2.2.2.2.2 &&& (a ^^^ (-1)))) ((o &&& (bz_b (bz_low o) ^^^ (-1))) ||| ((S.2.2 (bz_low o)).2.2.2.2.2.2.2 &&& (a ^^^ (-1))))
def cl_fam (S : po_S) (r : Int64) : Int64 := cl_famL S 41 r r
end PoolWords
section RateWords
/-- as compareRates has it -/
def cl_cmp (a b c e : Int64) : Int32 := if b < 1 then nI 0 else if e < 1 then nI 0 else if lg_cmp (a / b) (c / e) = 0 then lg_cmp ((a - a / b * b) * e) ((c - c / e * e) * b) else lg_cmp (a / b) (c / e)
def cl_isTx (f : Int64) (z o : Int32) : Bool := decide (0 ≤ f) && (decide (f ≤ 2100000000000000) && (decide (nI 1 ≤ z) && (decide (z ≤ nI 2000) && (decide (0 ≤ o) && decide (o ≤ nI 8)))))
theorem bz_low_le (x : Int64) : bz_low x ≤ 64 := bz_c_le _ 64
def cl_free (S : po_S) : Int32 := if bz_low (S.1 ^^^ (-1)) < 41 then nI (bz_low (S.1 ^^^ (-1))) else -1
def cl_better (t u : tx_T) : Bool := decide (0 < cl_cmp t.2.2.1 t.2.2.2.1.toInt64 u.2.2.1 u.2.2.2.1.toInt64) || (decide (cl_cmp t.2.2.1 t.2.2.2.1.toInt64 u.2.2.1 u.2.2.2.1.toInt64 = 0) && decide (t.2.2.2.2.2.1 < u.2.2.2.2.2.1))
/-- a place, or nowhere -/
def ob_i (o : Option Nat) : Int32 := match o with
  | none => -1
  | some b => nI b
/-- so at a place, or there is none -/
def cl_ob (P : Nat → Bool) (o : Option Nat) : Bool := match o with
  | none => true
  | some b => P b
def cl_bestF (S : po_S) (dn : Int64) (rm : Int32) (i : Nat) (acc : Option Nat) : Option Nat := if (bz_t (S.1 &&& (dn ^^^ (-1))) i && (decide ((S.2.2 i).2.2.2.2.2.2.1 &&& (dn ^^^ (-1)) = 0) && (decide ((S.2.2 i).2.2.2.1 ≤ rm) && cl_ob (fun b => cl_better (S.2.2 i) (S.2.2 b)) acc))) = true then some i else acc
def cl_best (S : po_S) (dn : Int64) (rm : Int32) : Option Nat := lp_fold (cl_bestF S dn rm) 41 0 none
def cl_ff (S : po_S) (i : Nat) : Int64 := cl_fees S (cl_fam S (bz_b i))
def cl_fs (S : po_S) (i : Nat) : Int32 := cl_sizes S (cl_fam S (bz_b i))
def cl_less (S : po_S) (i b : Nat) : Bool := decide (cl_cmp (cl_ff S i) (cl_fs S i).toInt64 (cl_ff S b) (cl_fs S b).toInt64 < 0) || (decide (cl_cmp (cl_ff S i) (cl_fs S i).toInt64 (cl_ff S b) (cl_fs S b).toInt64 = 0) && decide ((S.2.2 b).2.2.2.2.2.1 < (S.2.2 i).2.2.2.2.2.1))
def cl_leastF (S : po_S) (i : Nat) (acc : Option Nat) : Option Nat := if (bz_t S.1 i && cl_ob (fun b => cl_less S i b) acc) = true then some i else acc
def cl_least (S : po_S) : Option Nat := lp_fold (cl_leastF S) 41 0 none
def cl_hang (S : po_S) (m : nm_T) (v : kv_T) : Bool := kv_bears v m || !decide ((cl_fam S (cl_spenders S m) &&& cl_named S v) = 0)
def cl_hind (S : po_S) (m : nm_T) (v : kv_T) (x : Int32) : Int32 := if ¬ cl_find S m = -1 then nI 1 else if cl_spent S v = true then nI 2 else if cl_miss S m v x = true then nI 3 else if cl_hang S m v = true then nI 4 else nI 0
def rw_word (n : Nat) (f : Nat → Int64) (k w : Int32) : Int64 := if k < 0 ∨ nI n ≤ k ∨ w < 0 ∨ nI 4 ≤ w then 0 else f (k.toNatClampNeg * 4 + w.toNatClampNeg)
theorem nI_m1 {b : Nat} (h : b < 2 ^ 31) : ¬ nI b = -1 := by
  intro z
  have h1 := congrArg Int32.toInt z
  rw [nI_toInt h] at h1
  have h2 : ((-1 : Int32)).toInt = -1 := by decide
  omega
theorem ix_of {x : Int32} {n : Nat} (hn : n < 2 ^ 31) (h0 : ¬ x < 0) (h1 : ¬ nI n ≤ x) : ∃ j : Nat, j < n ∧ x = nI j := by
  rcases pk_ix x hn with h | h | h
  · exact absurd h h0
  · exact absurd h h1
  · exact h
end RateWords
end
section
theorem d_Desk_init_0 : decode prog_1_method_1_code 0 = .ok (.aload_n 0, 1) := by decide +kernel
theorem d_Desk_init_1 : decode prog_1_method_1_code 1 = .ok (.invokespecial 3, 3) := by decide +kernel
theorem d_Desk_init_4 : decode prog_1_method_1_code 4 = .ok (.aload_n 0, 1) := by decide +kernel
theorem d_Desk_init_5 : decode prog_1_method_1_code 5 = .ok (.new 9, 3) := by decide +kernel
theorem d_Desk_init_8 : decode prog_1_method_1_code 8 = .ok (.dup, 1) := by decide +kernel
theorem d_Desk_init_9 : decode prog_1_method_1_code 9 = .ok (.invokespecial 11, 3) := by decide +kernel
theorem d_Desk_init_12 : decode prog_1_method_1_code 12 = .ok (.putfield 12, 3) := by decide +kernel
theorem d_Desk_init_15 : decode prog_1_method_1_code 15 = .ok (.aload_n 0, 1) := by decide +kernel
theorem d_Desk_init_16 : decode prog_1_method_1_code 16 = .ok (.new 16, 3) := by decide +kernel
theorem d_Desk_init_19 : decode prog_1_method_1_code 19 = .ok (.dup, 1) := by decide +kernel
theorem d_Desk_init_20 : decode prog_1_method_1_code 20 = .ok (.invokespecial 18, 3) := by decide +kernel
theorem d_Desk_init_23 : decode prog_1_method_1_code 23 = .ok (.putfield 19, 3) := by decide +kernel
theorem d_Desk_init_26 : decode prog_1_method_1_code 26 = .ok (.aload_n 0, 1) := by decide +kernel
theorem d_Desk_init_27 : decode prog_1_method_1_code 27 = .ok (.new 23, 3) := by decide +kernel
theorem d_Desk_init_30 : decode prog_1_method_1_code 30 = .ok (.dup, 1) := by decide +kernel
theorem d_Desk_init_31 : decode prog_1_method_1_code 31 = .ok (.invokespecial 25, 3) := by decide +kernel
theorem d_Desk_init_34 : decode prog_1_method_1_code 34 = .ok (.putfield 26, 3) := by decide +kernel
theorem d_Desk_init_37 : decode prog_1_method_1_code 37 = .ok (.aload_n 0, 1) := by decide +kernel
theorem d_Desk_init_38 : decode prog_1_method_1_code 38 = .ok (.new 30, 3) := by decide +kernel
theorem d_Desk_init_41 : decode prog_1_method_1_code 41 = .ok (.dup, 1) := by decide +kernel
theorem d_Desk_init_42 : decode prog_1_method_1_code 42 = .ok (.invokespecial 32, 3) := by decide +kernel
theorem d_Desk_init_45 : decode prog_1_method_1_code 45 = .ok (.putfield 33, 3) := by decide +kernel
theorem d_Desk_init_48 : decode prog_1_method_1_code 48 = .ok (.return_, 1) := by decide +kernel
theorem d_Name_init_0 : decode prog_3_method_1_code 0 = .ok (.aload_n 0, 1) := by decide +kernel
theorem d_Name_init_1 : decode prog_3_method_1_code 1 = .ok (.invokespecial 3, 3) := by decide +kernel
theorem d_Name_init_4 : decode prog_3_method_1_code 4 = .ok (.return_, 1) := by decide +kernel
theorem d_Keys_init_0 : decode prog_2_method_1_code 0 = .ok (.aload_n 0, 1) := by decide +kernel
theorem d_Keys_init_1 : decode prog_2_method_1_code 1 = .ok (.invokespecial 3, 3) := by decide +kernel
theorem d_Keys_init_4 : decode prog_2_method_1_code 4 = .ok (.aload_n 0, 1) := by decide +kernel
theorem d_Keys_init_5 : decode prog_2_method_1_code 5 = .ok (.bipush 32, 2) := by decide +kernel
theorem d_Keys_init_7 : decode prog_2_method_1_code 7 = .ok (.newarray .long, 2) := by decide +kernel
theorem d_Keys_init_9 : decode prog_2_method_1_code 9 = .ok (.putfield 9, 3) := by decide +kernel
theorem d_Keys_init_12 : decode prog_2_method_1_code 12 = .ok (.aload_n 0, 1) := by decide +kernel
theorem d_Keys_init_13 : decode prog_2_method_1_code 13 = .ok (.bipush 8, 2) := by decide +kernel
theorem d_Keys_init_15 : decode prog_2_method_1_code 15 = .ok (.newarray .int, 2) := by decide +kernel
theorem d_Keys_init_17 : decode prog_2_method_1_code 17 = .ok (.putfield 15, 3) := by decide +kernel
theorem d_Keys_init_20 : decode prog_2_method_1_code 20 = .ok (.return_, 1) := by decide +kernel
theorem d_Tx_init_0 : decode prog_6_method_1_code 0 = .ok (.aload_n 0, 1) := by decide +kernel
theorem d_Tx_init_1 : decode prog_6_method_1_code 1 = .ok (.invokespecial 1, 3) := by decide +kernel
theorem d_Tx_init_4 : decode prog_6_method_1_code 4 = .ok (.aload_n 0, 1) := by decide +kernel
theorem d_Tx_init_5 : decode prog_6_method_1_code 5 = .ok (.new 7, 3) := by decide +kernel
theorem d_Tx_init_8 : decode prog_6_method_1_code 8 = .ok (.dup, 1) := by decide +kernel
theorem d_Tx_init_9 : decode prog_6_method_1_code 9 = .ok (.invokespecial 9, 3) := by decide +kernel
theorem d_Tx_init_12 : decode prog_6_method_1_code 12 = .ok (.putfield 10, 3) := by decide +kernel
theorem d_Tx_init_15 : decode prog_6_method_1_code 15 = .ok (.aload_n 0, 1) := by decide +kernel
theorem d_Tx_init_16 : decode prog_6_method_1_code 16 = .ok (.new 16, 3) := by decide +kernel
theorem d_Tx_init_19 : decode prog_6_method_1_code 19 = .ok (.dup, 1) := by decide +kernel
theorem d_Tx_init_20 : decode prog_6_method_1_code 20 = .ok (.invokespecial 18, 3) := by decide +kernel
theorem d_Tx_init_23 : decode prog_6_method_1_code 23 = .ok (.putfield 19, 3) := by decide +kernel
theorem d_Tx_init_26 : decode prog_6_method_1_code 26 = .ok (.return_, 1) := by decide +kernel
theorem d_Row_init_0 : decode prog_5_method_1_code 0 = .ok (.aload_n 0, 1) := by decide +kernel
theorem d_Row_init_1 : decode prog_5_method_1_code 1 = .ok (.invokespecial 3, 3) := by decide +kernel
theorem d_Row_init_4 : decode prog_5_method_1_code 4 = .ok (.aload_n 0, 1) := by decide +kernel
theorem d_Row_init_5 : decode prog_5_method_1_code 5 = .ok (.sipush 164, 3) := by decide +kernel
theorem d_Row_init_8 : decode prog_5_method_1_code 8 = .ok (.newarray .long, 2) := by decide +kernel
theorem d_Row_init_10 : decode prog_5_method_1_code 10 = .ok (.putfield 9, 3) := by decide +kernel
theorem d_Row_init_13 : decode prog_5_method_1_code 13 = .ok (.return_, 1) := by decide +kernel
theorem d_Desk_name_0 : decode prog_1_method_2_code 0 = .ok (.aload_n 0, 1) := by decide +kernel
theorem d_Desk_name_1 : decode prog_1_method_2_code 1 = .ok (.getfield 12, 3) := by decide +kernel
theorem d_Desk_name_4 : decode prog_1_method_2_code 4 = .ok (.lload_n 1, 1) := by decide +kernel
theorem d_Desk_name_5 : decode prog_1_method_2_code 5 = .ok (.lload_n 3, 1) := by decide +kernel
theorem d_Desk_name_6 : decode prog_1_method_2_code 6 = .ok (.lload 5, 2) := by decide +kernel
theorem d_Desk_name_8 : decode prog_1_method_2_code 8 = .ok (.lload 7, 2) := by decide +kernel
theorem d_Desk_name_10 : decode prog_1_method_2_code 10 = .ok (.invokevirtual 37, 3) := by decide +kernel
theorem d_Desk_name_13 : decode prog_1_method_2_code 13 = .ok (.return_, 1) := by decide +kernel
theorem d_Name_set_0 : decode prog_3_method_2_code 0 = .ok (.aload_n 0, 1) := by decide +kernel
theorem d_Name_set_1 : decode prog_3_method_2_code 1 = .ok (.lload_n 1, 1) := by decide +kernel
theorem d_Name_set_2 : decode prog_3_method_2_code 2 = .ok (.putfield 9, 3) := by decide +kernel
theorem d_Name_set_5 : decode prog_3_method_2_code 5 = .ok (.aload_n 0, 1) := by decide +kernel
theorem d_Name_set_6 : decode prog_3_method_2_code 6 = .ok (.lload_n 3, 1) := by decide +kernel
theorem d_Name_set_7 : decode prog_3_method_2_code 7 = .ok (.putfield 15, 3) := by decide +kernel
theorem d_Name_set_10 : decode prog_3_method_2_code 10 = .ok (.aload_n 0, 1) := by decide +kernel
theorem d_Name_set_11 : decode prog_3_method_2_code 11 = .ok (.lload 5, 2) := by decide +kernel
theorem d_Name_set_13 : decode prog_3_method_2_code 13 = .ok (.putfield 18, 3) := by decide +kernel
theorem d_Name_set_16 : decode prog_3_method_2_code 16 = .ok (.aload_n 0, 1) := by decide +kernel
theorem d_Name_set_17 : decode prog_3_method_2_code 17 = .ok (.lload 7, 2) := by decide +kernel
theorem d_Name_set_19 : decode prog_3_method_2_code 19 = .ok (.putfield 21, 3) := by decide +kernel
theorem d_Name_set_22 : decode prog_3_method_2_code 22 = .ok (.return_, 1) := by decide +kernel
theorem d_Desk_spend_0 : decode prog_1_method_3_code 0 = .ok (.aload_n 0, 1) := by decide +kernel
theorem d_Desk_spend_1 : decode prog_1_method_3_code 1 = .ok (.getfield 19, 3) := by decide +kernel
theorem d_Desk_spend_4 : decode prog_1_method_3_code 4 = .ok (.aload_n 0, 1) := by decide +kernel
theorem d_Desk_spend_5 : decode prog_1_method_3_code 5 = .ok (.getfield 12, 3) := by decide +kernel
theorem d_Desk_spend_8 : decode prog_1_method_3_code 8 = .ok (.iload_n 1, 1) := by decide +kernel
theorem d_Desk_spend_9 : decode prog_1_method_3_code 9 = .ok (.invokevirtual 41, 3) := by decide +kernel
theorem d_Desk_spend_12 : decode prog_1_method_3_code 12 = .ok (.ireturn, 1) := by decide +kernel
theorem d_Keys_add_0 : decode prog_2_method_3_code 0 = .ok (.aload_n 0, 1) := by decide +kernel
theorem d_Keys_add_1 : decode prog_2_method_3_code 1 = .ok (.getfield 19, 3) := by decide +kernel
theorem d_Keys_add_4 : decode prog_2_method_3_code 4 = .ok (.bipush 8, 2) := by decide +kernel
theorem d_Keys_add_6 : decode prog_2_method_3_code 6 = .ok (.if_icmp .ge 12, 3) := by decide +kernel
theorem d_Keys_add_9 : decode prog_2_method_3_code 9 = .ok (.aload_n 0, 1) := by decide +kernel
theorem d_Keys_add_10 : decode prog_2_method_3_code 10 = .ok (.aload_n 1, 1) := by decide +kernel
theorem d_Keys_add_11 : decode prog_2_method_3_code 11 = .ok (.iload_n 2, 1) := by decide +kernel
theorem d_Keys_add_12 : decode prog_2_method_3_code 12 = .ok (.invokevirtual 23, 3) := by decide +kernel
theorem d_Keys_add_15 : decode prog_2_method_3_code 15 = .ok (.ifCond .eq 5, 3) := by decide +kernel
theorem d_Keys_add_18 : decode prog_2_method_3_code 18 = .ok (.iconst 0, 1) := by decide +kernel
theorem d_Keys_add_19 : decode prog_2_method_3_code 19 = .ok (.ireturn, 1) := by decide +kernel
theorem d_Keys_add_20 : decode prog_2_method_3_code 20 = .ok (.aload_n 1, 1) := by decide +kernel
theorem d_Keys_add_21 : decode prog_2_method_3_code 21 = .ok (.aload_n 0, 1) := by decide +kernel
theorem d_Keys_add_22 : decode prog_2_method_3_code 22 = .ok (.getfield 9, 3) := by decide +kernel
theorem d_Keys_add_25 : decode prog_2_method_3_code 25 = .ok (.aload_n 0, 1) := by decide +kernel
theorem d_Keys_add_26 : decode prog_2_method_3_code 26 = .ok (.getfield 19, 3) := by decide +kernel
theorem d_Keys_add_29 : decode prog_2_method_3_code 29 = .ok (.iconst 4, 1) := by decide +kernel
theorem d_Keys_add_30 : decode prog_2_method_3_code 30 = .ok (.imul, 1) := by decide +kernel
theorem d_Keys_add_31 : decode prog_2_method_3_code 31 = .ok (.invokevirtual 27, 3) := by decide +kernel
theorem d_Keys_add_34 : decode prog_2_method_3_code 34 = .ok (.aload_n 0, 1) := by decide +kernel
theorem d_Keys_add_35 : decode prog_2_method_3_code 35 = .ok (.getfield 15, 3) := by decide +kernel
theorem d_Keys_add_38 : decode prog_2_method_3_code 38 = .ok (.aload_n 0, 1) := by decide +kernel
theorem d_Keys_add_39 : decode prog_2_method_3_code 39 = .ok (.getfield 19, 3) := by decide +kernel
theorem d_Keys_add_42 : decode prog_2_method_3_code 42 = .ok (.iload_n 2, 1) := by decide +kernel
theorem d_Keys_add_43 : decode prog_2_method_3_code 43 = .ok (.iastore, 1) := by decide +kernel
theorem d_Keys_add_44 : decode prog_2_method_3_code 44 = .ok (.aload_n 0, 1) := by decide +kernel
theorem d_Keys_add_45 : decode prog_2_method_3_code 45 = .ok (.dup, 1) := by decide +kernel
theorem d_Keys_add_46 : decode prog_2_method_3_code 46 = .ok (.getfield 19, 3) := by decide +kernel
theorem d_Keys_add_49 : decode prog_2_method_3_code 49 = .ok (.iconst 1, 1) := by decide +kernel
theorem d_Keys_add_50 : decode prog_2_method_3_code 50 = .ok (.iadd, 1) := by decide +kernel
theorem d_Keys_add_51 : decode prog_2_method_3_code 51 = .ok (.putfield 19, 3) := by decide +kernel
theorem d_Keys_add_54 : decode prog_2_method_3_code 54 = .ok (.iconst 1, 1) := by decide +kernel
theorem d_Keys_add_55 : decode prog_2_method_3_code 55 = .ok (.ireturn, 1) := by decide +kernel
theorem d_Keys_contains_0 : decode prog_2_method_5_code 0 = .ok (.iconst 0, 1) := by decide +kernel
theorem d_Keys_contains_1 : decode prog_2_method_5_code 1 = .ok (.istore_n 3, 1) := by decide +kernel
theorem d_Keys_contains_2 : decode prog_2_method_5_code 2 = .ok (.iload_n 3, 1) := by decide +kernel
theorem d_Keys_contains_3 : decode prog_2_method_5_code 3 = .ok (.aload_n 0, 1) := by decide +kernel
theorem d_Keys_contains_4 : decode prog_2_method_5_code 4 = .ok (.getfield 19, 3) := by decide +kernel
theorem d_Keys_contains_7 : decode prog_2_method_5_code 7 = .ok (.if_icmp .ge 30, 3) := by decide +kernel
theorem d_Keys_contains_10 : decode prog_2_method_5_code 10 = .ok (.aload_n 0, 1) := by decide +kernel
theorem d_Keys_contains_11 : decode prog_2_method_5_code 11 = .ok (.getfield 15, 3) := by decide +kernel
theorem d_Keys_contains_14 : decode prog_2_method_5_code 14 = .ok (.iload_n 3, 1) := by decide +kernel
theorem d_Keys_contains_15 : decode prog_2_method_5_code 15 = .ok (.iaload, 1) := by decide +kernel
theorem d_Keys_contains_16 : decode prog_2_method_5_code 16 = .ok (.iload_n 2, 1) := by decide +kernel
theorem d_Keys_contains_17 : decode prog_2_method_5_code 17 = .ok (.if_icmp .ne 14, 3) := by decide +kernel
theorem d_Keys_contains_20 : decode prog_2_method_5_code 20 = .ok (.aload_n 0, 1) := by decide +kernel
theorem d_Keys_contains_21 : decode prog_2_method_5_code 21 = .ok (.iload_n 3, 1) := by decide +kernel
theorem d_Keys_contains_22 : decode prog_2_method_5_code 22 = .ok (.aload_n 1, 1) := by decide +kernel
theorem d_Keys_contains_23 : decode prog_2_method_5_code 23 = .ok (.invokevirtual 39, 3) := by decide +kernel
theorem d_Keys_contains_26 : decode prog_2_method_5_code 26 = .ok (.ifCond .eq 5, 3) := by decide +kernel
theorem d_Keys_contains_29 : decode prog_2_method_5_code 29 = .ok (.iconst 1, 1) := by decide +kernel
theorem d_Keys_contains_30 : decode prog_2_method_5_code 30 = .ok (.ireturn, 1) := by decide +kernel
theorem d_Keys_contains_31 : decode prog_2_method_5_code 31 = .ok (.iinc 3 1, 3) := by decide +kernel
theorem d_Keys_contains_34 : decode prog_2_method_5_code 34 = .ok (.goto (-32), 3) := by decide +kernel
theorem d_Keys_contains_37 : decode prog_2_method_5_code 37 = .ok (.iconst 0, 1) := by decide +kernel
theorem d_Keys_contains_38 : decode prog_2_method_5_code 38 = .ok (.ireturn, 1) := by decide +kernel
theorem d_Keys_isOf_0 : decode prog_2_method_9_code 0 = .ok (.iload_n 1, 1) := by decide +kernel
theorem d_Keys_isOf_1 : decode prog_2_method_9_code 1 = .ok (.iconst 4, 1) := by decide +kernel
theorem d_Keys_isOf_2 : decode prog_2_method_9_code 2 = .ok (.imul, 1) := by decide +kernel
theorem d_Keys_isOf_3 : decode prog_2_method_9_code 3 = .ok (.istore_n 3, 1) := by decide +kernel
theorem d_Keys_isOf_4 : decode prog_2_method_9_code 4 = .ok (.aload_n 0, 1) := by decide +kernel
theorem d_Keys_isOf_5 : decode prog_2_method_9_code 5 = .ok (.getfield 9, 3) := by decide +kernel
theorem d_Keys_isOf_8 : decode prog_2_method_9_code 8 = .ok (.iload_n 3, 1) := by decide +kernel
theorem d_Keys_isOf_9 : decode prog_2_method_9_code 9 = .ok (.laload, 1) := by decide +kernel
theorem d_Keys_isOf_10 : decode prog_2_method_9_code 10 = .ok (.aload_n 2, 1) := by decide +kernel
theorem d_Keys_isOf_11 : decode prog_2_method_9_code 11 = .ok (.getfield 47, 3) := by decide +kernel
theorem d_Keys_isOf_14 : decode prog_2_method_9_code 14 = .ok (.lcmp, 1) := by decide +kernel
theorem d_Keys_isOf_15 : decode prog_2_method_9_code 15 = .ok (.ifCond .ne 55, 3) := by decide +kernel
theorem d_Keys_isOf_18 : decode prog_2_method_9_code 18 = .ok (.aload_n 0, 1) := by decide +kernel
theorem d_Keys_isOf_19 : decode prog_2_method_9_code 19 = .ok (.getfield 9, 3) := by decide +kernel
theorem d_Keys_isOf_22 : decode prog_2_method_9_code 22 = .ok (.iload_n 3, 1) := by decide +kernel
theorem d_Keys_isOf_23 : decode prog_2_method_9_code 23 = .ok (.iconst 1, 1) := by decide +kernel
theorem d_Keys_isOf_24 : decode prog_2_method_9_code 24 = .ok (.iadd, 1) := by decide +kernel
theorem d_Keys_isOf_25 : decode prog_2_method_9_code 25 = .ok (.laload, 1) := by decide +kernel
theorem d_Keys_isOf_26 : decode prog_2_method_9_code 26 = .ok (.aload_n 2, 1) := by decide +kernel
theorem d_Keys_isOf_27 : decode prog_2_method_9_code 27 = .ok (.getfield 51, 3) := by decide +kernel
theorem d_Keys_isOf_30 : decode prog_2_method_9_code 30 = .ok (.lcmp, 1) := by decide +kernel
theorem d_Keys_isOf_31 : decode prog_2_method_9_code 31 = .ok (.ifCond .ne 39, 3) := by decide +kernel
theorem d_Keys_isOf_34 : decode prog_2_method_9_code 34 = .ok (.aload_n 0, 1) := by decide +kernel
theorem d_Keys_isOf_35 : decode prog_2_method_9_code 35 = .ok (.getfield 9, 3) := by decide +kernel
theorem d_Keys_isOf_38 : decode prog_2_method_9_code 38 = .ok (.iload_n 3, 1) := by decide +kernel
theorem d_Keys_isOf_39 : decode prog_2_method_9_code 39 = .ok (.iconst 2, 1) := by decide +kernel
theorem d_Keys_isOf_40 : decode prog_2_method_9_code 40 = .ok (.iadd, 1) := by decide +kernel
theorem d_Keys_isOf_41 : decode prog_2_method_9_code 41 = .ok (.laload, 1) := by decide +kernel
theorem d_Keys_isOf_42 : decode prog_2_method_9_code 42 = .ok (.aload_n 2, 1) := by decide +kernel
theorem d_Keys_isOf_43 : decode prog_2_method_9_code 43 = .ok (.getfield 54, 3) := by decide +kernel
theorem d_Keys_isOf_46 : decode prog_2_method_9_code 46 = .ok (.lcmp, 1) := by decide +kernel
theorem d_Keys_isOf_47 : decode prog_2_method_9_code 47 = .ok (.ifCond .ne 23, 3) := by decide +kernel
theorem d_Keys_isOf_50 : decode prog_2_method_9_code 50 = .ok (.aload_n 0, 1) := by decide +kernel
theorem d_Keys_isOf_51 : decode prog_2_method_9_code 51 = .ok (.getfield 9, 3) := by decide +kernel
theorem d_Keys_isOf_54 : decode prog_2_method_9_code 54 = .ok (.iload_n 3, 1) := by decide +kernel
theorem d_Keys_isOf_55 : decode prog_2_method_9_code 55 = .ok (.iconst 3, 1) := by decide +kernel
theorem d_Keys_isOf_56 : decode prog_2_method_9_code 56 = .ok (.iadd, 1) := by decide +kernel
theorem d_Keys_isOf_57 : decode prog_2_method_9_code 57 = .ok (.laload, 1) := by decide +kernel
theorem d_Keys_isOf_58 : decode prog_2_method_9_code 58 = .ok (.aload_n 2, 1) := by decide +kernel
theorem d_Keys_isOf_59 : decode prog_2_method_9_code 59 = .ok (.getfield 57, 3) := by decide +kernel
theorem d_Keys_isOf_62 : decode prog_2_method_9_code 62 = .ok (.lcmp, 1) := by decide +kernel
theorem d_Keys_isOf_63 : decode prog_2_method_9_code 63 = .ok (.ifCond .ne 7, 3) := by decide +kernel
theorem d_Keys_isOf_66 : decode prog_2_method_9_code 66 = .ok (.iconst 1, 1) := by decide +kernel
theorem d_Keys_isOf_67 : decode prog_2_method_9_code 67 = .ok (.goto 4, 3) := by decide +kernel
theorem d_Keys_isOf_70 : decode prog_2_method_9_code 70 = .ok (.iconst 0, 1) := by decide +kernel
theorem d_Keys_isOf_71 : decode prog_2_method_9_code 71 = .ok (.ireturn, 1) := by decide +kernel
theorem d_Name_write_0 : decode prog_3_method_3_code 0 = .ok (.iload_n 2, 1) := by decide +kernel
theorem d_Name_write_1 : decode prog_3_method_3_code 1 = .ok (.ifCond .lt 11, 3) := by decide +kernel
theorem d_Name_write_4 : decode prog_3_method_3_code 4 = .ok (.iload_n 2, 1) := by decide +kernel
theorem d_Name_write_5 : decode prog_3_method_3_code 5 = .ok (.aload_n 1, 1) := by decide +kernel
theorem d_Name_write_6 : decode prog_3_method_3_code 6 = .ok (.arraylength, 1) := by decide +kernel
theorem d_Name_write_7 : decode prog_3_method_3_code 7 = .ok (.iconst 4, 1) := by decide +kernel
theorem d_Name_write_8 : decode prog_3_method_3_code 8 = .ok (.isub, 1) := by decide +kernel
theorem d_Name_write_9 : decode prog_3_method_3_code 9 = .ok (.if_icmp .le 4, 3) := by decide +kernel
theorem d_Name_write_12 : decode prog_3_method_3_code 12 = .ok (.return_, 1) := by decide +kernel
theorem d_Name_write_13 : decode prog_3_method_3_code 13 = .ok (.aload_n 1, 1) := by decide +kernel
theorem d_Name_write_14 : decode prog_3_method_3_code 14 = .ok (.iload_n 2, 1) := by decide +kernel
theorem d_Name_write_15 : decode prog_3_method_3_code 15 = .ok (.aload_n 0, 1) := by decide +kernel
theorem d_Name_write_16 : decode prog_3_method_3_code 16 = .ok (.getfield 9, 3) := by decide +kernel
theorem d_Name_write_19 : decode prog_3_method_3_code 19 = .ok (.lastore, 1) := by decide +kernel
theorem d_Name_write_20 : decode prog_3_method_3_code 20 = .ok (.aload_n 1, 1) := by decide +kernel
theorem d_Name_write_21 : decode prog_3_method_3_code 21 = .ok (.iload_n 2, 1) := by decide +kernel
theorem d_Name_write_22 : decode prog_3_method_3_code 22 = .ok (.iconst 1, 1) := by decide +kernel
theorem d_Name_write_23 : decode prog_3_method_3_code 23 = .ok (.iadd, 1) := by decide +kernel
theorem d_Name_write_24 : decode prog_3_method_3_code 24 = .ok (.aload_n 0, 1) := by decide +kernel
theorem d_Name_write_25 : decode prog_3_method_3_code 25 = .ok (.getfield 15, 3) := by decide +kernel
theorem d_Name_write_28 : decode prog_3_method_3_code 28 = .ok (.lastore, 1) := by decide +kernel
theorem d_Name_write_29 : decode prog_3_method_3_code 29 = .ok (.aload_n 1, 1) := by decide +kernel
theorem d_Name_write_30 : decode prog_3_method_3_code 30 = .ok (.iload_n 2, 1) := by decide +kernel
theorem d_Name_write_31 : decode prog_3_method_3_code 31 = .ok (.iconst 2, 1) := by decide +kernel
theorem d_Name_write_32 : decode prog_3_method_3_code 32 = .ok (.iadd, 1) := by decide +kernel
theorem d_Name_write_33 : decode prog_3_method_3_code 33 = .ok (.aload_n 0, 1) := by decide +kernel
theorem d_Name_write_34 : decode prog_3_method_3_code 34 = .ok (.getfield 18, 3) := by decide +kernel
theorem d_Name_write_37 : decode prog_3_method_3_code 37 = .ok (.lastore, 1) := by decide +kernel
theorem d_Name_write_38 : decode prog_3_method_3_code 38 = .ok (.aload_n 1, 1) := by decide +kernel
theorem d_Name_write_39 : decode prog_3_method_3_code 39 = .ok (.iload_n 2, 1) := by decide +kernel
theorem d_Name_write_40 : decode prog_3_method_3_code 40 = .ok (.iconst 3, 1) := by decide +kernel
theorem d_Name_write_41 : decode prog_3_method_3_code 41 = .ok (.iadd, 1) := by decide +kernel
theorem d_Name_write_42 : decode prog_3_method_3_code 42 = .ok (.aload_n 0, 1) := by decide +kernel
theorem d_Name_write_43 : decode prog_3_method_3_code 43 = .ok (.getfield 21, 3) := by decide +kernel
theorem d_Name_write_46 : decode prog_3_method_3_code 46 = .ok (.lastore, 1) := by decide +kernel
theorem d_Name_write_47 : decode prog_3_method_3_code 47 = .ok (.return_, 1) := by decide +kernel
theorem d_Desk_enter_0 : decode prog_1_method_4_code 0 = .ok (.aload_n 0, 1) := by decide +kernel
theorem d_Desk_enter_1 : decode prog_1_method_4_code 1 = .ok (.getfield 19, 3) := by decide +kernel
theorem d_Desk_enter_4 : decode prog_1_method_4_code 4 = .ok (.getfield 45, 3) := by decide +kernel
theorem d_Desk_enter_7 : decode prog_1_method_4_code 7 = .ok (.ifCond .eq 13, 3) := by decide +kernel
theorem d_Desk_enter_10 : decode prog_1_method_4_code 10 = .ok (.lload_n 1, 1) := by decide +kernel
theorem d_Desk_enter_11 : decode prog_1_method_4_code 11 = .ok (.iload_n 3, 1) := by decide +kernel
theorem d_Desk_enter_12 : decode prog_1_method_4_code 12 = .ok (.iload 4, 2) := by decide +kernel
theorem d_Desk_enter_14 : decode prog_1_method_4_code 14 = .ok (.invokestatic 49, 3) := by decide +kernel
theorem d_Desk_enter_17 : decode prog_1_method_4_code 17 = .ok (.ifCond .ne 5, 3) := by decide +kernel
theorem d_Desk_enter_20 : decode prog_1_method_4_code 20 = .ok (.iconst (-1), 1) := by decide +kernel
theorem d_Desk_enter_21 : decode prog_1_method_4_code 21 = .ok (.ireturn, 1) := by decide +kernel
theorem d_Desk_enter_22 : decode prog_1_method_4_code 22 = .ok (.aload_n 0, 1) := by decide +kernel
theorem d_Desk_enter_23 : decode prog_1_method_4_code 23 = .ok (.getfield 26, 3) := by decide +kernel
theorem d_Desk_enter_26 : decode prog_1_method_4_code 26 = .ok (.aload_n 0, 1) := by decide +kernel
theorem d_Desk_enter_27 : decode prog_1_method_4_code 27 = .ok (.getfield 12, 3) := by decide +kernel
theorem d_Desk_enter_30 : decode prog_1_method_4_code 30 = .ok (.aload_n 0, 1) := by decide +kernel
theorem d_Desk_enter_31 : decode prog_1_method_4_code 31 = .ok (.getfield 19, 3) := by decide +kernel
theorem d_Desk_enter_34 : decode prog_1_method_4_code 34 = .ok (.iload 4, 2) := by decide +kernel
theorem d_Desk_enter_36 : decode prog_1_method_4_code 36 = .ok (.invokevirtual 53, 3) := by decide +kernel
theorem d_Desk_enter_39 : decode prog_1_method_4_code 39 = .ok (.istore 5, 2) := by decide +kernel
theorem d_Desk_enter_41 : decode prog_1_method_4_code 41 = .ok (.iload 5, 2) := by decide +kernel
theorem d_Desk_enter_43 : decode prog_1_method_4_code 43 = .ok (.ifCond .ne 13, 3) := by decide +kernel
theorem d_Desk_enter_46 : decode prog_1_method_4_code 46 = .ok (.aload_n 0, 1) := by decide +kernel
theorem d_Desk_enter_47 : decode prog_1_method_4_code 47 = .ok (.lload_n 1, 1) := by decide +kernel
theorem d_Desk_enter_48 : decode prog_1_method_4_code 48 = .ok (.iload_n 3, 1) := by decide +kernel
theorem d_Desk_enter_49 : decode prog_1_method_4_code 49 = .ok (.iload 4, 2) := by decide +kernel
theorem d_Desk_enter_51 : decode prog_1_method_4_code 51 = .ok (.invokevirtual 57, 3) := by decide +kernel
theorem d_Desk_enter_54 : decode prog_1_method_4_code 54 = .ok (.istore 5, 2) := by decide +kernel
theorem d_Desk_enter_56 : decode prog_1_method_4_code 56 = .ok (.aload_n 0, 1) := by decide +kernel
theorem d_Desk_enter_57 : decode prog_1_method_4_code 57 = .ok (.getfield 19, 3) := by decide +kernel
theorem d_Desk_enter_60 : decode prog_1_method_4_code 60 = .ok (.invokevirtual 61, 3) := by decide +kernel
theorem d_Desk_enter_63 : decode prog_1_method_4_code 63 = .ok (.iload 5, 2) := by decide +kernel
theorem d_Desk_enter_65 : decode prog_1_method_4_code 65 = .ok (.ireturn, 1) := by decide +kernel
theorem d_Desk_isTransaction_0 : decode prog_1_method_13_code 0 = .ok (.lload_n 0, 1) := by decide +kernel
theorem d_Desk_isTransaction_1 : decode prog_1_method_13_code 1 = .ok (.lconst 0, 1) := by decide +kernel
theorem d_Desk_isTransaction_2 : decode prog_1_method_13_code 2 = .ok (.lcmp, 1) := by decide +kernel
theorem d_Desk_isTransaction_3 : decode prog_1_method_13_code 3 = .ok (.ifCond .lt 37, 3) := by decide +kernel
theorem d_Desk_isTransaction_6 : decode prog_1_method_13_code 6 = .ok (.lload_n 0, 1) := by decide +kernel
theorem d_Desk_isTransaction_7 : decode prog_1_method_13_code 7 = .ok (.ldc2_w 158, 3) := by decide +kernel
theorem d_Desk_isTransaction_10 : decode prog_1_method_13_code 10 = .ok (.lcmp, 1) := by decide +kernel
theorem d_Desk_isTransaction_11 : decode prog_1_method_13_code 11 = .ok (.ifCond .gt 29, 3) := by decide +kernel
theorem d_Desk_isTransaction_14 : decode prog_1_method_13_code 14 = .ok (.iload_n 2, 1) := by decide +kernel
theorem d_Desk_isTransaction_15 : decode prog_1_method_13_code 15 = .ok (.iconst 1, 1) := by decide +kernel
theorem d_Desk_isTransaction_16 : decode prog_1_method_13_code 16 = .ok (.if_icmp .lt 24, 3) := by decide +kernel
theorem d_Desk_isTransaction_19 : decode prog_1_method_13_code 19 = .ok (.iload_n 2, 1) := by decide +kernel
theorem d_Desk_isTransaction_20 : decode prog_1_method_13_code 20 = .ok (.sipush 2000, 3) := by decide +kernel
theorem d_Desk_isTransaction_23 : decode prog_1_method_13_code 23 = .ok (.if_icmp .gt 17, 3) := by decide +kernel
theorem d_Desk_isTransaction_26 : decode prog_1_method_13_code 26 = .ok (.iload_n 3, 1) := by decide +kernel
theorem d_Desk_isTransaction_27 : decode prog_1_method_13_code 27 = .ok (.ifCond .lt 13, 3) := by decide +kernel
theorem d_Desk_isTransaction_30 : decode prog_1_method_13_code 30 = .ok (.iload_n 3, 1) := by decide +kernel
theorem d_Desk_isTransaction_31 : decode prog_1_method_13_code 31 = .ok (.bipush 8, 2) := by decide +kernel
theorem d_Desk_isTransaction_33 : decode prog_1_method_13_code 33 = .ok (.if_icmp .gt 7, 3) := by decide +kernel
theorem d_Desk_isTransaction_36 : decode prog_1_method_13_code 36 = .ok (.iconst 1, 1) := by decide +kernel
theorem d_Desk_isTransaction_37 : decode prog_1_method_13_code 37 = .ok (.goto 4, 3) := by decide +kernel
theorem d_Desk_isTransaction_40 : decode prog_1_method_13_code 40 = .ok (.iconst 0, 1) := by decide +kernel
theorem d_Desk_isTransaction_41 : decode prog_1_method_13_code 41 = .ok (.ireturn, 1) := by decide +kernel
theorem d_Desk_has_0 : decode prog_1_method_17_code 0 = .ok (.lload_n 0, 1) := by decide +kernel
theorem d_Desk_has_1 : decode prog_1_method_17_code 1 = .ok (.iload_n 2, 1) := by decide +kernel
theorem d_Desk_has_2 : decode prog_1_method_17_code 2 = .ok (.invokestatic 68, 3) := by decide +kernel
theorem d_Desk_has_5 : decode prog_1_method_17_code 5 = .ok (.land, 1) := by decide +kernel
theorem d_Desk_has_6 : decode prog_1_method_17_code 6 = .ok (.lconst 0, 1) := by decide +kernel
theorem d_Desk_has_7 : decode prog_1_method_17_code 7 = .ok (.lcmp, 1) := by decide +kernel
theorem d_Desk_has_8 : decode prog_1_method_17_code 8 = .ok (.ifCond .eq 7, 3) := by decide +kernel
theorem d_Desk_has_11 : decode prog_1_method_17_code 11 = .ok (.iconst 1, 1) := by decide +kernel
theorem d_Desk_has_12 : decode prog_1_method_17_code 12 = .ok (.goto 4, 3) := by decide +kernel
theorem d_Desk_has_15 : decode prog_1_method_17_code 15 = .ok (.iconst 0, 1) := by decide +kernel
theorem d_Desk_has_16 : decode prog_1_method_17_code 16 = .ok (.ireturn, 1) := by decide +kernel
theorem d_Desk_bit_0 : decode prog_1_method_16_code 0 = .ok (.lconst 1, 1) := by decide +kernel
theorem d_Desk_bit_1 : decode prog_1_method_16_code 1 = .ok (.iload_n 0, 1) := by decide +kernel
theorem d_Desk_bit_2 : decode prog_1_method_16_code 2 = .ok (.lshl, 1) := by decide +kernel
theorem d_Desk_bit_3 : decode prog_1_method_16_code 3 = .ok (.lreturn, 1) := by decide +kernel
theorem d_Name_same_0 : decode prog_3_method_4_code 0 = .ok (.aload_n 0, 1) := by decide +kernel
theorem d_Name_same_1 : decode prog_3_method_4_code 1 = .ok (.getfield 9, 3) := by decide +kernel
theorem d_Name_same_4 : decode prog_3_method_4_code 4 = .ok (.aload_n 1, 1) := by decide +kernel
theorem d_Name_same_5 : decode prog_3_method_4_code 5 = .ok (.getfield 9, 3) := by decide +kernel
theorem d_Name_same_8 : decode prog_3_method_4_code 8 = .ok (.lcmp, 1) := by decide +kernel
theorem d_Name_same_9 : decode prog_3_method_4_code 9 = .ok (.ifCond .ne 43, 3) := by decide +kernel
theorem d_Name_same_12 : decode prog_3_method_4_code 12 = .ok (.aload_n 0, 1) := by decide +kernel
theorem d_Name_same_13 : decode prog_3_method_4_code 13 = .ok (.getfield 15, 3) := by decide +kernel
theorem d_Name_same_16 : decode prog_3_method_4_code 16 = .ok (.aload_n 1, 1) := by decide +kernel
theorem d_Name_same_17 : decode prog_3_method_4_code 17 = .ok (.getfield 15, 3) := by decide +kernel
theorem d_Name_same_20 : decode prog_3_method_4_code 20 = .ok (.lcmp, 1) := by decide +kernel
theorem d_Name_same_21 : decode prog_3_method_4_code 21 = .ok (.ifCond .ne 31, 3) := by decide +kernel
theorem d_Name_same_24 : decode prog_3_method_4_code 24 = .ok (.aload_n 0, 1) := by decide +kernel
theorem d_Name_same_25 : decode prog_3_method_4_code 25 = .ok (.getfield 18, 3) := by decide +kernel
theorem d_Name_same_28 : decode prog_3_method_4_code 28 = .ok (.aload_n 1, 1) := by decide +kernel
theorem d_Name_same_29 : decode prog_3_method_4_code 29 = .ok (.getfield 18, 3) := by decide +kernel
theorem d_Name_same_32 : decode prog_3_method_4_code 32 = .ok (.lcmp, 1) := by decide +kernel
theorem d_Name_same_33 : decode prog_3_method_4_code 33 = .ok (.ifCond .ne 19, 3) := by decide +kernel
theorem d_Name_same_36 : decode prog_3_method_4_code 36 = .ok (.aload_n 0, 1) := by decide +kernel
theorem d_Name_same_37 : decode prog_3_method_4_code 37 = .ok (.getfield 21, 3) := by decide +kernel
theorem d_Name_same_40 : decode prog_3_method_4_code 40 = .ok (.aload_n 1, 1) := by decide +kernel
theorem d_Name_same_41 : decode prog_3_method_4_code 41 = .ok (.getfield 21, 3) := by decide +kernel
theorem d_Name_same_44 : decode prog_3_method_4_code 44 = .ok (.lcmp, 1) := by decide +kernel
theorem d_Name_same_45 : decode prog_3_method_4_code 45 = .ok (.ifCond .ne 7, 3) := by decide +kernel
theorem d_Name_same_48 : decode prog_3_method_4_code 48 = .ok (.iconst 1, 1) := by decide +kernel
theorem d_Name_same_49 : decode prog_3_method_4_code 49 = .ok (.goto 4, 3) := by decide +kernel
theorem d_Name_same_52 : decode prog_3_method_4_code 52 = .ok (.iconst 0, 1) := by decide +kernel
theorem d_Name_same_53 : decode prog_3_method_4_code 53 = .ok (.ireturn, 1) := by decide +kernel
theorem d_Keys_containsOneOf_0 : decode prog_2_method_6_code 0 = .ok (.iconst 0, 1) := by decide +kernel
theorem d_Keys_containsOneOf_1 : decode prog_2_method_6_code 1 = .ok (.istore_n 2, 1) := by decide +kernel
theorem d_Keys_containsOneOf_2 : decode prog_2_method_6_code 2 = .ok (.iload_n 2, 1) := by decide +kernel
theorem d_Keys_containsOneOf_3 : decode prog_2_method_6_code 3 = .ok (.aload_n 0, 1) := by decide +kernel
theorem d_Keys_containsOneOf_4 : decode prog_2_method_6_code 4 = .ok (.getfield 19, 3) := by decide +kernel
theorem d_Keys_containsOneOf_7 : decode prog_2_method_6_code 7 = .ok (.if_icmp .ge 52, 3) := by decide +kernel
theorem d_Keys_containsOneOf_10 : decode prog_2_method_6_code 10 = .ok (.iconst 0, 1) := by decide +kernel
theorem d_Keys_containsOneOf_11 : decode prog_2_method_6_code 11 = .ok (.istore_n 3, 1) := by decide +kernel
theorem d_Keys_containsOneOf_12 : decode prog_2_method_6_code 12 = .ok (.iload_n 3, 1) := by decide +kernel
theorem d_Keys_containsOneOf_13 : decode prog_2_method_6_code 13 = .ok (.aload_n 1, 1) := by decide +kernel
theorem d_Keys_containsOneOf_14 : decode prog_2_method_6_code 14 = .ok (.getfield 19, 3) := by decide +kernel
theorem d_Keys_containsOneOf_17 : decode prog_2_method_6_code 17 = .ok (.if_icmp .ge 36, 3) := by decide +kernel
theorem d_Keys_containsOneOf_20 : decode prog_2_method_6_code 20 = .ok (.aload_n 0, 1) := by decide +kernel
theorem d_Keys_containsOneOf_21 : decode prog_2_method_6_code 21 = .ok (.getfield 15, 3) := by decide +kernel
theorem d_Keys_containsOneOf_24 : decode prog_2_method_6_code 24 = .ok (.iload_n 2, 1) := by decide +kernel
theorem d_Keys_containsOneOf_25 : decode prog_2_method_6_code 25 = .ok (.iaload, 1) := by decide +kernel
theorem d_Keys_containsOneOf_26 : decode prog_2_method_6_code 26 = .ok (.aload_n 1, 1) := by decide +kernel
theorem d_Keys_containsOneOf_27 : decode prog_2_method_6_code 27 = .ok (.getfield 15, 3) := by decide +kernel
theorem d_Keys_containsOneOf_30 : decode prog_2_method_6_code 30 = .ok (.iload_n 3, 1) := by decide +kernel
theorem d_Keys_containsOneOf_31 : decode prog_2_method_6_code 31 = .ok (.iaload, 1) := by decide +kernel
theorem d_Keys_containsOneOf_32 : decode prog_2_method_6_code 32 = .ok (.if_icmp .ne 15, 3) := by decide +kernel
theorem d_Keys_containsOneOf_35 : decode prog_2_method_6_code 35 = .ok (.aload_n 0, 1) := by decide +kernel
theorem d_Keys_containsOneOf_36 : decode prog_2_method_6_code 36 = .ok (.iload_n 2, 1) := by decide +kernel
theorem d_Keys_containsOneOf_37 : decode prog_2_method_6_code 37 = .ok (.aload_n 1, 1) := by decide +kernel
theorem d_Keys_containsOneOf_38 : decode prog_2_method_6_code 38 = .ok (.iload_n 3, 1) := by decide +kernel
theorem d_Keys_containsOneOf_39 : decode prog_2_method_6_code 39 = .ok (.invokevirtual 43, 3) := by decide +kernel
theorem d_Keys_containsOneOf_42 : decode prog_2_method_6_code 42 = .ok (.ifCond .eq 5, 3) := by decide +kernel
theorem d_Keys_containsOneOf_45 : decode prog_2_method_6_code 45 = .ok (.iconst 1, 1) := by decide +kernel
theorem d_Keys_containsOneOf_46 : decode prog_2_method_6_code 46 = .ok (.ireturn, 1) := by decide +kernel
theorem d_Keys_containsOneOf_47 : decode prog_2_method_6_code 47 = .ok (.iinc 3 1, 3) := by decide +kernel
theorem d_Keys_containsOneOf_50 : decode prog_2_method_6_code 50 = .ok (.goto (-38), 3) := by decide +kernel
theorem d_Keys_containsOneOf_53 : decode prog_2_method_6_code 53 = .ok (.iinc 2 1, 3) := by decide +kernel
theorem d_Keys_containsOneOf_56 : decode prog_2_method_6_code 56 = .ok (.goto (-54), 3) := by decide +kernel
theorem d_Keys_containsOneOf_59 : decode prog_2_method_6_code 59 = .ok (.iconst 0, 1) := by decide +kernel
theorem d_Keys_containsOneOf_60 : decode prog_2_method_6_code 60 = .ok (.ireturn, 1) := by decide +kernel
theorem d_Keys_sameName_0 : decode prog_2_method_10_code 0 = .ok (.iconst 0, 1) := by decide +kernel
theorem d_Keys_sameName_1 : decode prog_2_method_10_code 1 = .ok (.istore 4, 2) := by decide +kernel
theorem d_Keys_sameName_3 : decode prog_2_method_10_code 3 = .ok (.iload 4, 2) := by decide +kernel
theorem d_Keys_sameName_5 : decode prog_2_method_10_code 5 = .ok (.iconst 4, 1) := by decide +kernel
theorem d_Keys_sameName_6 : decode prog_2_method_10_code 6 = .ok (.if_icmp .ge 37, 3) := by decide +kernel
theorem d_Keys_sameName_9 : decode prog_2_method_10_code 9 = .ok (.aload_n 0, 1) := by decide +kernel
theorem d_Keys_sameName_10 : decode prog_2_method_10_code 10 = .ok (.getfield 9, 3) := by decide +kernel
theorem d_Keys_sameName_13 : decode prog_2_method_10_code 13 = .ok (.iload_n 1, 1) := by decide +kernel
theorem d_Keys_sameName_14 : decode prog_2_method_10_code 14 = .ok (.iconst 4, 1) := by decide +kernel
theorem d_Keys_sameName_15 : decode prog_2_method_10_code 15 = .ok (.imul, 1) := by decide +kernel
theorem d_Keys_sameName_16 : decode prog_2_method_10_code 16 = .ok (.iload 4, 2) := by decide +kernel
theorem d_Keys_sameName_18 : decode prog_2_method_10_code 18 = .ok (.iadd, 1) := by decide +kernel
theorem d_Keys_sameName_19 : decode prog_2_method_10_code 19 = .ok (.laload, 1) := by decide +kernel
theorem d_Keys_sameName_20 : decode prog_2_method_10_code 20 = .ok (.aload_n 2, 1) := by decide +kernel
theorem d_Keys_sameName_21 : decode prog_2_method_10_code 21 = .ok (.getfield 9, 3) := by decide +kernel
theorem d_Keys_sameName_24 : decode prog_2_method_10_code 24 = .ok (.iload_n 3, 1) := by decide +kernel
theorem d_Keys_sameName_25 : decode prog_2_method_10_code 25 = .ok (.iconst 4, 1) := by decide +kernel
theorem d_Keys_sameName_26 : decode prog_2_method_10_code 26 = .ok (.imul, 1) := by decide +kernel
theorem d_Keys_sameName_27 : decode prog_2_method_10_code 27 = .ok (.iload 4, 2) := by decide +kernel
theorem d_Keys_sameName_29 : decode prog_2_method_10_code 29 = .ok (.iadd, 1) := by decide +kernel
theorem d_Keys_sameName_30 : decode prog_2_method_10_code 30 = .ok (.laload, 1) := by decide +kernel
theorem d_Keys_sameName_31 : decode prog_2_method_10_code 31 = .ok (.lcmp, 1) := by decide +kernel
theorem d_Keys_sameName_32 : decode prog_2_method_10_code 32 = .ok (.ifCond .eq 5, 3) := by decide +kernel
theorem d_Keys_sameName_35 : decode prog_2_method_10_code 35 = .ok (.iconst 0, 1) := by decide +kernel
theorem d_Keys_sameName_36 : decode prog_2_method_10_code 36 = .ok (.ireturn, 1) := by decide +kernel
theorem d_Keys_sameName_37 : decode prog_2_method_10_code 37 = .ok (.iinc 4 1, 3) := by decide +kernel
theorem d_Keys_sameName_40 : decode prog_2_method_10_code 40 = .ok (.goto (-37), 3) := by decide +kernel
theorem d_Keys_sameName_43 : decode prog_2_method_10_code 43 = .ok (.iconst 1, 1) := by decide +kernel
theorem d_Keys_sameName_44 : decode prog_2_method_10_code 44 = .ok (.ireturn, 1) := by decide +kernel
theorem d_Keys_misses_0 : decode prog_2_method_8_code 0 = .ok (.iconst 0, 1) := by decide +kernel
theorem d_Keys_misses_1 : decode prog_2_method_8_code 1 = .ok (.istore_n 3, 1) := by decide +kernel
theorem d_Keys_misses_2 : decode prog_2_method_8_code 2 = .ok (.iload_n 3, 1) := by decide +kernel
theorem d_Keys_misses_3 : decode prog_2_method_8_code 3 = .ok (.aload_n 0, 1) := by decide +kernel
theorem d_Keys_misses_4 : decode prog_2_method_8_code 4 = .ok (.getfield 19, 3) := by decide +kernel
theorem d_Keys_misses_7 : decode prog_2_method_8_code 7 = .ok (.if_icmp .ge 39, 3) := by decide +kernel
theorem d_Keys_misses_10 : decode prog_2_method_8_code 10 = .ok (.aload_n 0, 1) := by decide +kernel
theorem d_Keys_misses_11 : decode prog_2_method_8_code 11 = .ok (.getfield 15, 3) := by decide +kernel
theorem d_Keys_misses_14 : decode prog_2_method_8_code 14 = .ok (.iload_n 3, 1) := by decide +kernel
theorem d_Keys_misses_15 : decode prog_2_method_8_code 15 = .ok (.iaload, 1) := by decide +kernel
theorem d_Keys_misses_16 : decode prog_2_method_8_code 16 = .ok (.ifCond .lt 13, 3) := by decide +kernel
theorem d_Keys_misses_19 : decode prog_2_method_8_code 19 = .ok (.aload_n 0, 1) := by decide +kernel
theorem d_Keys_misses_20 : decode prog_2_method_8_code 20 = .ok (.getfield 15, 3) := by decide +kernel
theorem d_Keys_misses_23 : decode prog_2_method_8_code 23 = .ok (.iload_n 3, 1) := by decide +kernel
theorem d_Keys_misses_24 : decode prog_2_method_8_code 24 = .ok (.iaload, 1) := by decide +kernel
theorem d_Keys_misses_25 : decode prog_2_method_8_code 25 = .ok (.iload_n 2, 1) := by decide +kernel
theorem d_Keys_misses_26 : decode prog_2_method_8_code 26 = .ok (.if_icmp .lt 14, 3) := by decide +kernel
theorem d_Keys_misses_29 : decode prog_2_method_8_code 29 = .ok (.aload_n 0, 1) := by decide +kernel
theorem d_Keys_misses_30 : decode prog_2_method_8_code 30 = .ok (.iload_n 3, 1) := by decide +kernel
theorem d_Keys_misses_31 : decode prog_2_method_8_code 31 = .ok (.aload_n 1, 1) := by decide +kernel
theorem d_Keys_misses_32 : decode prog_2_method_8_code 32 = .ok (.invokevirtual 39, 3) := by decide +kernel
theorem d_Keys_misses_35 : decode prog_2_method_8_code 35 = .ok (.ifCond .eq 5, 3) := by decide +kernel
theorem d_Keys_misses_38 : decode prog_2_method_8_code 38 = .ok (.iconst 1, 1) := by decide +kernel
theorem d_Keys_misses_39 : decode prog_2_method_8_code 39 = .ok (.ireturn, 1) := by decide +kernel
theorem d_Keys_misses_40 : decode prog_2_method_8_code 40 = .ok (.iinc 3 1, 3) := by decide +kernel
theorem d_Keys_misses_43 : decode prog_2_method_8_code 43 = .ok (.goto (-41), 3) := by decide +kernel
theorem d_Keys_misses_46 : decode prog_2_method_8_code 46 = .ok (.iconst 0, 1) := by decide +kernel
theorem d_Keys_misses_47 : decode prog_2_method_8_code 47 = .ok (.ireturn, 1) := by decide +kernel
theorem d_Keys_bears_0 : decode prog_2_method_7_code 0 = .ok (.iconst 0, 1) := by decide +kernel
theorem d_Keys_bears_1 : decode prog_2_method_7_code 1 = .ok (.istore_n 2, 1) := by decide +kernel
theorem d_Keys_bears_2 : decode prog_2_method_7_code 2 = .ok (.iload_n 2, 1) := by decide +kernel
theorem d_Keys_bears_3 : decode prog_2_method_7_code 3 = .ok (.aload_n 0, 1) := by decide +kernel
theorem d_Keys_bears_4 : decode prog_2_method_7_code 4 = .ok (.getfield 19, 3) := by decide +kernel
theorem d_Keys_bears_7 : decode prog_2_method_7_code 7 = .ok (.if_icmp .ge 20, 3) := by decide +kernel
theorem d_Keys_bears_10 : decode prog_2_method_7_code 10 = .ok (.aload_n 0, 1) := by decide +kernel
theorem d_Keys_bears_11 : decode prog_2_method_7_code 11 = .ok (.iload_n 2, 1) := by decide +kernel
theorem d_Keys_bears_12 : decode prog_2_method_7_code 12 = .ok (.aload_n 1, 1) := by decide +kernel
theorem d_Keys_bears_13 : decode prog_2_method_7_code 13 = .ok (.invokevirtual 39, 3) := by decide +kernel
theorem d_Keys_bears_16 : decode prog_2_method_7_code 16 = .ok (.ifCond .eq 5, 3) := by decide +kernel
theorem d_Keys_bears_19 : decode prog_2_method_7_code 19 = .ok (.iconst 1, 1) := by decide +kernel
theorem d_Keys_bears_20 : decode prog_2_method_7_code 20 = .ok (.ireturn, 1) := by decide +kernel
theorem d_Keys_bears_21 : decode prog_2_method_7_code 21 = .ok (.iinc 2 1, 3) := by decide +kernel
theorem d_Keys_bears_24 : decode prog_2_method_7_code 24 = .ok (.goto (-22), 3) := by decide +kernel
theorem d_Keys_bears_27 : decode prog_2_method_7_code 27 = .ok (.iconst 0, 1) := by decide +kernel
theorem d_Keys_bears_28 : decode prog_2_method_7_code 28 = .ok (.ireturn, 1) := by decide +kernel
theorem d_Desk_lowest_0 : decode prog_1_method_18_code 0 = .ok (.lload_n 0, 1) := by decide +kernel
theorem d_Desk_lowest_1 : decode prog_1_method_18_code 1 = .ok (.lload_n 0, 1) := by decide +kernel
theorem d_Desk_lowest_2 : decode prog_1_method_18_code 2 = .ok (.lneg, 1) := by decide +kernel
theorem d_Desk_lowest_3 : decode prog_1_method_18_code 3 = .ok (.land, 1) := by decide +kernel
theorem d_Desk_lowest_4 : decode prog_1_method_18_code 4 = .ok (.lconst 1, 1) := by decide +kernel
theorem d_Desk_lowest_5 : decode prog_1_method_18_code 5 = .ok (.lsub, 1) := by decide +kernel
theorem d_Desk_lowest_6 : decode prog_1_method_18_code 6 = .ok (.invokestatic 108, 3) := by decide +kernel
theorem d_Desk_lowest_9 : decode prog_1_method_18_code 9 = .ok (.ireturn, 1) := by decide +kernel
theorem d_Long_bitCount_0 : decode prog_9_method_50_code 0 = .ok (.lload_n 0, 1) := by decide +kernel
theorem d_Long_bitCount_1 : decode prog_9_method_50_code 1 = .ok (.lload_n 0, 1) := by decide +kernel
theorem d_Long_bitCount_2 : decode prog_9_method_50_code 2 = .ok (.iconst 1, 1) := by decide +kernel
theorem d_Long_bitCount_3 : decode prog_9_method_50_code 3 = .ok (.lushr, 1) := by decide +kernel
theorem d_Long_bitCount_4 : decode prog_9_method_50_code 4 = .ok (.ldc2_w 314, 3) := by decide +kernel
theorem d_Long_bitCount_7 : decode prog_9_method_50_code 7 = .ok (.land, 1) := by decide +kernel
theorem d_Long_bitCount_8 : decode prog_9_method_50_code 8 = .ok (.lsub, 1) := by decide +kernel
theorem d_Long_bitCount_9 : decode prog_9_method_50_code 9 = .ok (.lstore_n 0, 1) := by decide +kernel
theorem d_Long_bitCount_10 : decode prog_9_method_50_code 10 = .ok (.lload_n 0, 1) := by decide +kernel
theorem d_Long_bitCount_11 : decode prog_9_method_50_code 11 = .ok (.ldc2_w 316, 3) := by decide +kernel
theorem d_Long_bitCount_14 : decode prog_9_method_50_code 14 = .ok (.land, 1) := by decide +kernel
theorem d_Long_bitCount_15 : decode prog_9_method_50_code 15 = .ok (.lload_n 0, 1) := by decide +kernel
theorem d_Long_bitCount_16 : decode prog_9_method_50_code 16 = .ok (.iconst 2, 1) := by decide +kernel
theorem d_Long_bitCount_17 : decode prog_9_method_50_code 17 = .ok (.lushr, 1) := by decide +kernel
theorem d_Long_bitCount_18 : decode prog_9_method_50_code 18 = .ok (.ldc2_w 316, 3) := by decide +kernel
theorem d_Long_bitCount_21 : decode prog_9_method_50_code 21 = .ok (.land, 1) := by decide +kernel
theorem d_Long_bitCount_22 : decode prog_9_method_50_code 22 = .ok (.ladd, 1) := by decide +kernel
theorem d_Long_bitCount_23 : decode prog_9_method_50_code 23 = .ok (.lstore_n 0, 1) := by decide +kernel
theorem d_Long_bitCount_24 : decode prog_9_method_50_code 24 = .ok (.lload_n 0, 1) := by decide +kernel
theorem d_Long_bitCount_25 : decode prog_9_method_50_code 25 = .ok (.lload_n 0, 1) := by decide +kernel
theorem d_Long_bitCount_26 : decode prog_9_method_50_code 26 = .ok (.iconst 4, 1) := by decide +kernel
theorem d_Long_bitCount_27 : decode prog_9_method_50_code 27 = .ok (.lushr, 1) := by decide +kernel
theorem d_Long_bitCount_28 : decode prog_9_method_50_code 28 = .ok (.ladd, 1) := by decide +kernel
theorem d_Long_bitCount_29 : decode prog_9_method_50_code 29 = .ok (.ldc2_w 318, 3) := by decide +kernel
theorem d_Long_bitCount_32 : decode prog_9_method_50_code 32 = .ok (.land, 1) := by decide +kernel
theorem d_Long_bitCount_33 : decode prog_9_method_50_code 33 = .ok (.lstore_n 0, 1) := by decide +kernel
theorem d_Long_bitCount_34 : decode prog_9_method_50_code 34 = .ok (.lload_n 0, 1) := by decide +kernel
theorem d_Long_bitCount_35 : decode prog_9_method_50_code 35 = .ok (.lload_n 0, 1) := by decide +kernel
theorem d_Long_bitCount_36 : decode prog_9_method_50_code 36 = .ok (.bipush 8, 2) := by decide +kernel
theorem d_Long_bitCount_38 : decode prog_9_method_50_code 38 = .ok (.lushr, 1) := by decide +kernel
theorem d_Long_bitCount_39 : decode prog_9_method_50_code 39 = .ok (.ladd, 1) := by decide +kernel
theorem d_Long_bitCount_40 : decode prog_9_method_50_code 40 = .ok (.lstore_n 0, 1) := by decide +kernel
theorem d_Long_bitCount_41 : decode prog_9_method_50_code 41 = .ok (.lload_n 0, 1) := by decide +kernel
theorem d_Long_bitCount_42 : decode prog_9_method_50_code 42 = .ok (.lload_n 0, 1) := by decide +kernel
theorem d_Long_bitCount_43 : decode prog_9_method_50_code 43 = .ok (.bipush 16, 2) := by decide +kernel
theorem d_Long_bitCount_45 : decode prog_9_method_50_code 45 = .ok (.lushr, 1) := by decide +kernel
theorem d_Long_bitCount_46 : decode prog_9_method_50_code 46 = .ok (.ladd, 1) := by decide +kernel
theorem d_Long_bitCount_47 : decode prog_9_method_50_code 47 = .ok (.lstore_n 0, 1) := by decide +kernel
theorem d_Long_bitCount_48 : decode prog_9_method_50_code 48 = .ok (.lload_n 0, 1) := by decide +kernel
theorem d_Long_bitCount_49 : decode prog_9_method_50_code 49 = .ok (.lload_n 0, 1) := by decide +kernel
theorem d_Long_bitCount_50 : decode prog_9_method_50_code 50 = .ok (.bipush 32, 2) := by decide +kernel
theorem d_Long_bitCount_52 : decode prog_9_method_50_code 52 = .ok (.lushr, 1) := by decide +kernel
theorem d_Long_bitCount_53 : decode prog_9_method_50_code 53 = .ok (.ladd, 1) := by decide +kernel
theorem d_Long_bitCount_54 : decode prog_9_method_50_code 54 = .ok (.lstore_n 0, 1) := by decide +kernel
theorem d_Long_bitCount_55 : decode prog_9_method_50_code 55 = .ok (.lload_n 0, 1) := by decide +kernel
theorem d_Long_bitCount_56 : decode prog_9_method_50_code 56 = .ok (.l2i, 1) := by decide +kernel
theorem d_Long_bitCount_57 : decode prog_9_method_50_code 57 = .ok (.bipush 127, 2) := by decide +kernel
theorem d_Long_bitCount_59 : decode prog_9_method_50_code 59 = .ok (.iand, 1) := by decide +kernel
theorem d_Long_bitCount_60 : decode prog_9_method_50_code 60 = .ok (.ireturn, 1) := by decide +kernel
theorem d_Desk_letIn_0 : decode prog_1_method_14_code 0 = .ok (.aload_n 0, 1) := by decide +kernel
theorem d_Desk_letIn_1 : decode prog_1_method_14_code 1 = .ok (.getfield 26, 3) := by decide +kernel
theorem d_Desk_letIn_4 : decode prog_1_method_14_code 4 = .ok (.invokevirtual 160, 3) := by decide +kernel
theorem d_Desk_letIn_7 : decode prog_1_method_14_code 7 = .ok (.istore 5, 2) := by decide +kernel
theorem d_Desk_letIn_9 : decode prog_1_method_14_code 9 = .ok (.iload 5, 2) := by decide +kernel
theorem d_Desk_letIn_11 : decode prog_1_method_14_code 11 = .ok (.iconst (-1), 1) := by decide +kernel
theorem d_Desk_letIn_12 : decode prog_1_method_14_code 12 = .ok (.if_icmp .ne 5, 3) := by decide +kernel
theorem d_Desk_letIn_15 : decode prog_1_method_14_code 15 = .ok (.iconst (-1), 1) := by decide +kernel
theorem d_Desk_letIn_16 : decode prog_1_method_14_code 16 = .ok (.ireturn, 1) := by decide +kernel
theorem d_Desk_letIn_17 : decode prog_1_method_14_code 17 = .ok (.aload_n 0, 1) := by decide +kernel
theorem d_Desk_letIn_18 : decode prog_1_method_14_code 18 = .ok (.getfield 26, 3) := by decide +kernel
theorem d_Desk_letIn_21 : decode prog_1_method_14_code 21 = .ok (.getfield 86, 3) := by decide +kernel
theorem d_Desk_letIn_24 : decode prog_1_method_14_code 24 = .ok (.iload 5, 2) := by decide +kernel
theorem d_Desk_letIn_26 : decode prog_1_method_14_code 26 = .ok (.aaload, 1) := by decide +kernel
theorem d_Desk_letIn_27 : decode prog_1_method_14_code 27 = .ok (.lload_n 1, 1) := by decide +kernel
theorem d_Desk_letIn_28 : decode prog_1_method_14_code 28 = .ok (.iload_n 3, 1) := by decide +kernel
theorem d_Desk_letIn_29 : decode prog_1_method_14_code 29 = .ok (.iload 4, 2) := by decide +kernel
theorem d_Desk_letIn_31 : decode prog_1_method_14_code 31 = .ok (.invokevirtual 163, 3) := by decide +kernel
theorem d_Desk_letIn_34 : decode prog_1_method_14_code 34 = .ok (.aload_n 0, 1) := by decide +kernel
theorem d_Desk_letIn_35 : decode prog_1_method_14_code 35 = .ok (.getfield 26, 3) := by decide +kernel
theorem d_Desk_letIn_38 : decode prog_1_method_14_code 38 = .ok (.iload 5, 2) := by decide +kernel
theorem d_Desk_letIn_40 : decode prog_1_method_14_code 40 = .ok (.aload_n 0, 1) := by decide +kernel
theorem d_Desk_letIn_41 : decode prog_1_method_14_code 41 = .ok (.getfield 12, 3) := by decide +kernel
theorem d_Desk_letIn_44 : decode prog_1_method_14_code 44 = .ok (.aload_n 0, 1) := by decide +kernel
theorem d_Desk_letIn_45 : decode prog_1_method_14_code 45 = .ok (.getfield 19, 3) := by decide +kernel
theorem d_Desk_letIn_48 : decode prog_1_method_14_code 48 = .ok (.invokevirtual 167, 3) := by decide +kernel
theorem d_Desk_letIn_51 : decode prog_1_method_14_code 51 = .ok (.aload_n 0, 1) := by decide +kernel
theorem d_Desk_letIn_52 : decode prog_1_method_14_code 52 = .ok (.getfield 26, 3) := by decide +kernel
theorem d_Desk_letIn_55 : decode prog_1_method_14_code 55 = .ok (.getfield 148, 3) := by decide +kernel
theorem d_Desk_letIn_58 : decode prog_1_method_14_code 58 = .ok (.invokestatic 108, 3) := by decide +kernel
theorem d_Desk_letIn_61 : decode prog_1_method_14_code 61 = .ok (.bipush 40, 2) := by decide +kernel
theorem d_Desk_letIn_63 : decode prog_1_method_14_code 63 = .ok (.if_icmp .gt 5, 3) := by decide +kernel
theorem d_Desk_letIn_66 : decode prog_1_method_14_code 66 = .ok (.iconst 0, 1) := by decide +kernel
theorem d_Desk_letIn_67 : decode prog_1_method_14_code 67 = .ok (.ireturn, 1) := by decide +kernel
theorem d_Desk_letIn_68 : decode prog_1_method_14_code 68 = .ok (.aload_n 0, 1) := by decide +kernel
theorem d_Desk_letIn_69 : decode prog_1_method_14_code 69 = .ok (.aload_n 0, 1) := by decide +kernel
theorem d_Desk_letIn_70 : decode prog_1_method_14_code 70 = .ok (.getfield 26, 3) := by decide +kernel
theorem d_Desk_letIn_73 : decode prog_1_method_14_code 73 = .ok (.invokevirtual 171, 3) := by decide +kernel
theorem d_Desk_letIn_76 : decode prog_1_method_14_code 76 = .ok (.invokevirtual 76, 3) := by decide +kernel
theorem d_Desk_letIn_79 : decode prog_1_method_14_code 79 = .ok (.pop, 1) := by decide +kernel
theorem d_Desk_letIn_80 : decode prog_1_method_14_code 80 = .ok (.aload_n 0, 1) := by decide +kernel
theorem d_Desk_letIn_81 : decode prog_1_method_14_code 81 = .ok (.getfield 26, 3) := by decide +kernel
theorem d_Desk_letIn_84 : decode prog_1_method_14_code 84 = .ok (.getfield 148, 3) := by decide +kernel
theorem d_Desk_letIn_87 : decode prog_1_method_14_code 87 = .ok (.iload 5, 2) := by decide +kernel
theorem d_Desk_letIn_89 : decode prog_1_method_14_code 89 = .ok (.invokestatic 174, 3) := by decide +kernel
theorem d_Desk_letIn_92 : decode prog_1_method_14_code 92 = .ok (.ifCond .eq 7, 3) := by decide +kernel
theorem d_Desk_letIn_95 : decode prog_1_method_14_code 95 = .ok (.iconst 0, 1) := by decide +kernel
theorem d_Desk_letIn_96 : decode prog_1_method_14_code 96 = .ok (.goto 4, 3) := by decide +kernel
theorem d_Desk_letIn_99 : decode prog_1_method_14_code 99 = .ok (.iconst 5, 1) := by decide +kernel
theorem d_Desk_letIn_100 : decode prog_1_method_14_code 100 = .ok (.ireturn, 1) := by decide +kernel
theorem d_Tx_describe_0 : decode prog_6_method_2_code 0 = .ok (.aload_n 0, 1) := by decide +kernel
theorem d_Tx_describe_1 : decode prog_6_method_2_code 1 = .ok (.lload_n 1, 1) := by decide +kernel
theorem d_Tx_describe_2 : decode prog_6_method_2_code 2 = .ok (.putfield 23, 3) := by decide +kernel
theorem d_Tx_describe_5 : decode prog_6_method_2_code 5 = .ok (.aload_n 0, 1) := by decide +kernel
theorem d_Tx_describe_6 : decode prog_6_method_2_code 6 = .ok (.iload_n 3, 1) := by decide +kernel
theorem d_Tx_describe_7 : decode prog_6_method_2_code 7 = .ok (.putfield 27, 3) := by decide +kernel
theorem d_Tx_describe_10 : decode prog_6_method_2_code 10 = .ok (.aload_n 0, 1) := by decide +kernel
theorem d_Tx_describe_11 : decode prog_6_method_2_code 11 = .ok (.iload 4, 2) := by decide +kernel
theorem d_Tx_describe_13 : decode prog_6_method_2_code 13 = .ok (.putfield 31, 3) := by decide +kernel
theorem d_Tx_describe_16 : decode prog_6_method_2_code 16 = .ok (.return_, 1) := by decide +kernel
theorem d_Keys_copy_0 : decode prog_2_method_4_code 0 = .ok (.aload_n 1, 1) := by decide +kernel
theorem d_Keys_copy_1 : decode prog_2_method_4_code 1 = .ok (.getfield 9, 3) := by decide +kernel
theorem d_Keys_copy_4 : decode prog_2_method_4_code 4 = .ok (.iconst 0, 1) := by decide +kernel
theorem d_Keys_copy_5 : decode prog_2_method_4_code 5 = .ok (.aload_n 0, 1) := by decide +kernel
theorem d_Keys_copy_6 : decode prog_2_method_4_code 6 = .ok (.getfield 9, 3) := by decide +kernel
theorem d_Keys_copy_9 : decode prog_2_method_4_code 9 = .ok (.iconst 0, 1) := by decide +kernel
theorem d_Keys_copy_10 : decode prog_2_method_4_code 10 = .ok (.bipush 32, 2) := by decide +kernel
theorem d_Keys_copy_12 : decode prog_2_method_4_code 12 = .ok (.invokestatic 33, 3) := by decide +kernel
theorem d_Keys_copy_15 : decode prog_2_method_4_code 15 = .ok (.aload_n 1, 1) := by decide +kernel
theorem d_Keys_copy_16 : decode prog_2_method_4_code 16 = .ok (.getfield 15, 3) := by decide +kernel
theorem d_Keys_copy_19 : decode prog_2_method_4_code 19 = .ok (.iconst 0, 1) := by decide +kernel
theorem d_Keys_copy_20 : decode prog_2_method_4_code 20 = .ok (.aload_n 0, 1) := by decide +kernel
theorem d_Keys_copy_21 : decode prog_2_method_4_code 21 = .ok (.getfield 15, 3) := by decide +kernel
theorem d_Keys_copy_24 : decode prog_2_method_4_code 24 = .ok (.iconst 0, 1) := by decide +kernel
theorem d_Keys_copy_25 : decode prog_2_method_4_code 25 = .ok (.bipush 8, 2) := by decide +kernel
theorem d_Keys_copy_27 : decode prog_2_method_4_code 27 = .ok (.invokestatic 33, 3) := by decide +kernel
theorem d_Keys_copy_30 : decode prog_2_method_4_code 30 = .ok (.aload_n 0, 1) := by decide +kernel
theorem d_Keys_copy_31 : decode prog_2_method_4_code 31 = .ok (.aload_n 1, 1) := by decide +kernel
theorem d_Keys_copy_32 : decode prog_2_method_4_code 32 = .ok (.getfield 19, 3) := by decide +kernel
theorem d_Keys_copy_35 : decode prog_2_method_4_code 35 = .ok (.putfield 19, 3) := by decide +kernel
theorem d_Keys_copy_38 : decode prog_2_method_4_code 38 = .ok (.return_, 1) := by decide +kernel
theorem d_Desk_compareRates_0 : decode prog_1_method_19_code 0 = .ok (.lload_n 2, 1) := by decide +kernel
theorem d_Desk_compareRates_1 : decode prog_1_method_19_code 1 = .ok (.lconst 1, 1) := by decide +kernel
theorem d_Desk_compareRates_2 : decode prog_1_method_19_code 2 = .ok (.lcmp, 1) := by decide +kernel
theorem d_Desk_compareRates_3 : decode prog_1_method_19_code 3 = .ok (.ifCond .lt 10, 3) := by decide +kernel
theorem d_Desk_compareRates_6 : decode prog_1_method_19_code 6 = .ok (.lload 6, 2) := by decide +kernel
theorem d_Desk_compareRates_8 : decode prog_1_method_19_code 8 = .ok (.lconst 1, 1) := by decide +kernel
theorem d_Desk_compareRates_9 : decode prog_1_method_19_code 9 = .ok (.lcmp, 1) := by decide +kernel
theorem d_Desk_compareRates_10 : decode prog_1_method_19_code 10 = .ok (.ifCond .ge 5, 3) := by decide +kernel
theorem d_Desk_compareRates_13 : decode prog_1_method_19_code 13 = .ok (.iconst 0, 1) := by decide +kernel
theorem d_Desk_compareRates_14 : decode prog_1_method_19_code 14 = .ok (.ireturn, 1) := by decide +kernel
theorem d_Desk_compareRates_15 : decode prog_1_method_19_code 15 = .ok (.lload_n 0, 1) := by decide +kernel
theorem d_Desk_compareRates_16 : decode prog_1_method_19_code 16 = .ok (.lload_n 2, 1) := by decide +kernel
theorem d_Desk_compareRates_17 : decode prog_1_method_19_code 17 = .ok (.ldiv, 1) := by decide +kernel
theorem d_Desk_compareRates_18 : decode prog_1_method_19_code 18 = .ok (.lload 4, 2) := by decide +kernel
theorem d_Desk_compareRates_20 : decode prog_1_method_19_code 20 = .ok (.lload 6, 2) := by decide +kernel
theorem d_Desk_compareRates_22 : decode prog_1_method_19_code 22 = .ok (.ldiv, 1) := by decide +kernel
theorem d_Desk_compareRates_23 : decode prog_1_method_19_code 23 = .ok (.invokestatic 178, 3) := by decide +kernel
theorem d_Desk_compareRates_26 : decode prog_1_method_19_code 26 = .ok (.istore 8, 2) := by decide +kernel
theorem d_Desk_compareRates_28 : decode prog_1_method_19_code 28 = .ok (.iload 8, 2) := by decide +kernel
theorem d_Desk_compareRates_30 : decode prog_1_method_19_code 30 = .ok (.ifCond .eq 6, 3) := by decide +kernel
theorem d_Desk_compareRates_33 : decode prog_1_method_19_code 33 = .ok (.iload 8, 2) := by decide +kernel
theorem d_Desk_compareRates_35 : decode prog_1_method_19_code 35 = .ok (.ireturn, 1) := by decide +kernel
theorem d_Desk_compareRates_36 : decode prog_1_method_19_code 36 = .ok (.lload_n 0, 1) := by decide +kernel
theorem d_Desk_compareRates_37 : decode prog_1_method_19_code 37 = .ok (.lload_n 2, 1) := by decide +kernel
theorem d_Desk_compareRates_38 : decode prog_1_method_19_code 38 = .ok (.lrem, 1) := by decide +kernel
theorem d_Desk_compareRates_39 : decode prog_1_method_19_code 39 = .ok (.lload 6, 2) := by decide +kernel
theorem d_Desk_compareRates_41 : decode prog_1_method_19_code 41 = .ok (.lmul, 1) := by decide +kernel
theorem d_Desk_compareRates_42 : decode prog_1_method_19_code 42 = .ok (.lload 4, 2) := by decide +kernel
theorem d_Desk_compareRates_44 : decode prog_1_method_19_code 44 = .ok (.lload 6, 2) := by decide +kernel
theorem d_Desk_compareRates_46 : decode prog_1_method_19_code 46 = .ok (.lrem, 1) := by decide +kernel
theorem d_Desk_compareRates_47 : decode prog_1_method_19_code 47 = .ok (.lload_n 2, 1) := by decide +kernel
theorem d_Desk_compareRates_48 : decode prog_1_method_19_code 48 = .ok (.lmul, 1) := by decide +kernel
theorem d_Desk_compareRates_49 : decode prog_1_method_19_code 49 = .ok (.invokestatic 178, 3) := by decide +kernel
theorem d_Desk_compareRates_52 : decode prog_1_method_19_code 52 = .ok (.ireturn, 1) := by decide +kernel
theorem d_Long_compare_0 : decode prog_9_method_42_code 0 = .ok (.lload_n 0, 1) := by decide +kernel
theorem d_Long_compare_1 : decode prog_9_method_42_code 1 = .ok (.lload_n 2, 1) := by decide +kernel
theorem d_Long_compare_2 : decode prog_9_method_42_code 2 = .ok (.lcmp, 1) := by decide +kernel
theorem d_Long_compare_3 : decode prog_9_method_42_code 3 = .ok (.ifCond .ge 7, 3) := by decide +kernel
theorem d_Long_compare_6 : decode prog_9_method_42_code 6 = .ok (.iconst (-1), 1) := by decide +kernel
theorem d_Long_compare_7 : decode prog_9_method_42_code 7 = .ok (.goto 14, 3) := by decide +kernel
theorem d_Long_compare_10 : decode prog_9_method_42_code 10 = .ok (.lload_n 0, 1) := by decide +kernel
theorem d_Long_compare_11 : decode prog_9_method_42_code 11 = .ok (.lload_n 2, 1) := by decide +kernel
theorem d_Long_compare_12 : decode prog_9_method_42_code 12 = .ok (.lcmp, 1) := by decide +kernel
theorem d_Long_compare_13 : decode prog_9_method_42_code 13 = .ok (.ifCond .ne 7, 3) := by decide +kernel
theorem d_Long_compare_16 : decode prog_9_method_42_code 16 = .ok (.iconst 0, 1) := by decide +kernel
theorem d_Long_compare_17 : decode prog_9_method_42_code 17 = .ok (.goto 4, 3) := by decide +kernel
theorem d_Long_compare_20 : decode prog_9_method_42_code 20 = .ok (.iconst 1, 1) := by decide +kernel
theorem d_Long_compare_21 : decode prog_9_method_42_code 21 = .ok (.ireturn, 1) := by decide +kernel
theorem d_Desk_removeFamily_0 : decode prog_1_method_15_code 0 = .ok (.iload_n 1, 1) := by decide +kernel
theorem d_Desk_removeFamily_1 : decode prog_1_method_15_code 1 = .ok (.iconst (-1), 1) := by decide +kernel
theorem d_Desk_removeFamily_2 : decode prog_1_method_15_code 2 = .ok (.if_icmp .ne 5, 3) := by decide +kernel
theorem d_Desk_removeFamily_5 : decode prog_1_method_15_code 5 = .ok (.iconst 0, 1) := by decide +kernel
theorem d_Desk_removeFamily_6 : decode prog_1_method_15_code 6 = .ok (.ireturn, 1) := by decide +kernel
theorem d_Desk_removeFamily_7 : decode prog_1_method_15_code 7 = .ok (.aload_n 0, 1) := by decide +kernel
theorem d_Desk_removeFamily_8 : decode prog_1_method_15_code 8 = .ok (.getfield 26, 3) := by decide +kernel
theorem d_Desk_removeFamily_11 : decode prog_1_method_15_code 11 = .ok (.iload_n 1, 1) := by decide +kernel
theorem d_Desk_removeFamily_12 : decode prog_1_method_15_code 12 = .ok (.invokestatic 68, 3) := by decide +kernel
theorem d_Desk_removeFamily_15 : decode prog_1_method_15_code 15 = .ok (.invokevirtual 117, 3) := by decide +kernel
theorem d_Desk_removeFamily_18 : decode prog_1_method_15_code 18 = .ok (.lstore_n 2, 1) := by decide +kernel
theorem d_Desk_removeFamily_19 : decode prog_1_method_15_code 19 = .ok (.aload_n 0, 1) := by decide +kernel
theorem d_Desk_removeFamily_20 : decode prog_1_method_15_code 20 = .ok (.getfield 26, 3) := by decide +kernel
theorem d_Desk_removeFamily_23 : decode prog_1_method_15_code 23 = .ok (.lload_n 2, 1) := by decide +kernel
theorem d_Desk_removeFamily_24 : decode prog_1_method_15_code 24 = .ok (.invokevirtual 72, 3) := by decide +kernel
theorem d_Desk_removeFamily_27 : decode prog_1_method_15_code 27 = .ok (.lload_n 2, 1) := by decide +kernel
theorem d_Desk_removeFamily_28 : decode prog_1_method_15_code 28 = .ok (.invokestatic 108, 3) := by decide +kernel
theorem d_Desk_removeFamily_31 : decode prog_1_method_15_code 31 = .ok (.ireturn, 1) := by decide +kernel
theorem d_Keys_clear_0 : decode prog_2_method_2_code 0 = .ok (.aload_n 0, 1) := by decide +kernel
theorem d_Keys_clear_1 : decode prog_2_method_2_code 1 = .ok (.iconst 0, 1) := by decide +kernel
theorem d_Keys_clear_2 : decode prog_2_method_2_code 2 = .ok (.putfield 19, 3) := by decide +kernel
theorem d_Keys_clear_5 : decode prog_2_method_2_code 5 = .ok (.return_, 1) := by decide +kernel
theorem d_Desk_take_0 : decode prog_1_method_5_code 0 = .ok (.aload_n 0, 1) := by decide +kernel
theorem d_Desk_take_1 : decode prog_1_method_5_code 1 = .ok (.getfield 26, 3) := by decide +kernel
theorem d_Desk_take_4 : decode prog_1_method_5_code 4 = .ok (.aload_n 0, 1) := by decide +kernel
theorem d_Desk_take_5 : decode prog_1_method_5_code 5 = .ok (.getfield 12, 3) := by decide +kernel
theorem d_Desk_take_8 : decode prog_1_method_5_code 8 = .ok (.invokevirtual 64, 3) := by decide +kernel
theorem d_Desk_take_11 : decode prog_1_method_5_code 11 = .ok (.istore_n 1, 1) := by decide +kernel
theorem d_Desk_take_12 : decode prog_1_method_5_code 12 = .ok (.iload_n 1, 1) := by decide +kernel
theorem d_Desk_take_13 : decode prog_1_method_5_code 13 = .ok (.iconst (-1), 1) := by decide +kernel
theorem d_Desk_take_14 : decode prog_1_method_5_code 14 = .ok (.if_icmp .ne 5, 3) := by decide +kernel
theorem d_Desk_take_17 : decode prog_1_method_5_code 17 = .ok (.iconst 0, 1) := by decide +kernel
theorem d_Desk_take_18 : decode prog_1_method_5_code 18 = .ok (.ireturn, 1) := by decide +kernel
theorem d_Desk_take_19 : decode prog_1_method_5_code 19 = .ok (.aload_n 0, 1) := by decide +kernel
theorem d_Desk_take_20 : decode prog_1_method_5_code 20 = .ok (.getfield 26, 3) := by decide +kernel
theorem d_Desk_take_23 : decode prog_1_method_5_code 23 = .ok (.iload_n 1, 1) := by decide +kernel
theorem d_Desk_take_24 : decode prog_1_method_5_code 24 = .ok (.invokestatic 68, 3) := by decide +kernel
theorem d_Desk_take_27 : decode prog_1_method_5_code 27 = .ok (.invokevirtual 72, 3) := by decide +kernel
theorem d_Desk_take_30 : decode prog_1_method_5_code 30 = .ok (.iconst 1, 1) := by decide +kernel
theorem d_Desk_take_31 : decode prog_1_method_5_code 31 = .ok (.ireturn, 1) := by decide +kernel
theorem d_Desk_drop_0 : decode prog_1_method_6_code 0 = .ok (.aload_n 0, 1) := by decide +kernel
theorem d_Desk_drop_1 : decode prog_1_method_6_code 1 = .ok (.aload_n 0, 1) := by decide +kernel
theorem d_Desk_drop_2 : decode prog_1_method_6_code 2 = .ok (.getfield 26, 3) := by decide +kernel
theorem d_Desk_drop_5 : decode prog_1_method_6_code 5 = .ok (.aload_n 0, 1) := by decide +kernel
theorem d_Desk_drop_6 : decode prog_1_method_6_code 6 = .ok (.getfield 12, 3) := by decide +kernel
theorem d_Desk_drop_9 : decode prog_1_method_6_code 9 = .ok (.invokevirtual 64, 3) := by decide +kernel
theorem d_Desk_drop_12 : decode prog_1_method_6_code 12 = .ok (.invokevirtual 76, 3) := by decide +kernel
theorem d_Desk_drop_15 : decode prog_1_method_6_code 15 = .ok (.ireturn, 1) := by decide +kernel
theorem d_Desk_strike_0 : decode prog_1_method_7_code 0 = .ok (.aload_n 0, 1) := by decide +kernel
theorem d_Desk_strike_1 : decode prog_1_method_7_code 1 = .ok (.aload_n 0, 1) := by decide +kernel
theorem d_Desk_strike_2 : decode prog_1_method_7_code 2 = .ok (.getfield 26, 3) := by decide +kernel
theorem d_Desk_strike_5 : decode prog_1_method_7_code 5 = .ok (.aload_n 0, 1) := by decide +kernel
theorem d_Desk_strike_6 : decode prog_1_method_7_code 6 = .ok (.getfield 12, 3) := by decide +kernel
theorem d_Desk_strike_9 : decode prog_1_method_7_code 9 = .ok (.iload_n 1, 1) := by decide +kernel
theorem d_Desk_strike_10 : decode prog_1_method_7_code 10 = .ok (.invokevirtual 80, 3) := by decide +kernel
theorem d_Desk_strike_13 : decode prog_1_method_7_code 13 = .ok (.invokevirtual 76, 3) := by decide +kernel
theorem d_Desk_strike_16 : decode prog_1_method_7_code 16 = .ok (.ireturn, 1) := by decide +kernel
theorem d_Desk_look_0 : decode prog_1_method_8_code 0 = .ok (.aload_n 0, 1) := by decide +kernel
theorem d_Desk_look_1 : decode prog_1_method_8_code 1 = .ok (.getfield 26, 3) := by decide +kernel
theorem d_Desk_look_4 : decode prog_1_method_8_code 4 = .ok (.aload_n 0, 1) := by decide +kernel
theorem d_Desk_look_5 : decode prog_1_method_8_code 5 = .ok (.getfield 12, 3) := by decide +kernel
theorem d_Desk_look_8 : decode prog_1_method_8_code 8 = .ok (.invokevirtual 64, 3) := by decide +kernel
theorem d_Desk_look_11 : decode prog_1_method_8_code 11 = .ok (.istore_n 2, 1) := by decide +kernel
theorem d_Desk_look_12 : decode prog_1_method_8_code 12 = .ok (.iload_n 2, 1) := by decide +kernel
theorem d_Desk_look_13 : decode prog_1_method_8_code 13 = .ok (.iconst (-1), 1) := by decide +kernel
theorem d_Desk_look_14 : decode prog_1_method_8_code 14 = .ok (.if_icmp .ne 7, 3) := by decide +kernel
theorem d_Desk_look_17 : decode prog_1_method_8_code 17 = .ok (.ldc2_w 84, 3) := by decide +kernel
theorem d_Desk_look_20 : decode prog_1_method_8_code 20 = .ok (.lreturn, 1) := by decide +kernel
theorem d_Desk_look_21 : decode prog_1_method_8_code 21 = .ok (.aload_n 0, 1) := by decide +kernel
theorem d_Desk_look_22 : decode prog_1_method_8_code 22 = .ok (.getfield 26, 3) := by decide +kernel
theorem d_Desk_look_25 : decode prog_1_method_8_code 25 = .ok (.getfield 86, 3) := by decide +kernel
theorem d_Desk_look_28 : decode prog_1_method_8_code 28 = .ok (.iload_n 2, 1) := by decide +kernel
theorem d_Desk_look_29 : decode prog_1_method_8_code 29 = .ok (.aaload, 1) := by decide +kernel
theorem d_Desk_look_30 : decode prog_1_method_8_code 30 = .ok (.astore_n 3, 1) := by decide +kernel
theorem d_Desk_look_31 : decode prog_1_method_8_code 31 = .ok (.iload_n 1, 1) := by decide +kernel
theorem d_Desk_look_32 : decode prog_1_method_8_code 32 = .ok (.tableswitch 161 0 9 #[56, 61, 67, 73, 82, 91, 100, 116, 135, 155], 56) := by decide +kernel
theorem d_Desk_look_88 : decode prog_1_method_8_code 88 = .ok (.aload_n 3, 1) := by decide +kernel
theorem d_Desk_look_89 : decode prog_1_method_8_code 89 = .ok (.getfield 90, 3) := by decide +kernel
theorem d_Desk_look_92 : decode prog_1_method_8_code 92 = .ok (.lreturn, 1) := by decide +kernel
theorem d_Desk_look_93 : decode prog_1_method_8_code 93 = .ok (.aload_n 3, 1) := by decide +kernel
theorem d_Desk_look_94 : decode prog_1_method_8_code 94 = .ok (.getfield 96, 3) := by decide +kernel
theorem d_Desk_look_97 : decode prog_1_method_8_code 97 = .ok (.i2l, 1) := by decide +kernel
theorem d_Desk_look_98 : decode prog_1_method_8_code 98 = .ok (.lreturn, 1) := by decide +kernel
theorem d_Desk_look_99 : decode prog_1_method_8_code 99 = .ok (.aload_n 3, 1) := by decide +kernel
theorem d_Desk_look_100 : decode prog_1_method_8_code 100 = .ok (.getfield 99, 3) := by decide +kernel
theorem d_Desk_look_103 : decode prog_1_method_8_code 103 = .ok (.i2l, 1) := by decide +kernel
theorem d_Desk_look_104 : decode prog_1_method_8_code 104 = .ok (.lreturn, 1) := by decide +kernel
theorem d_Desk_look_105 : decode prog_1_method_8_code 105 = .ok (.aload_n 3, 1) := by decide +kernel
theorem d_Desk_look_106 : decode prog_1_method_8_code 106 = .ok (.getfield 102, 3) := by decide +kernel
theorem d_Desk_look_109 : decode prog_1_method_8_code 109 = .ok (.getfield 45, 3) := by decide +kernel
theorem d_Desk_look_112 : decode prog_1_method_8_code 112 = .ok (.i2l, 1) := by decide +kernel
theorem d_Desk_look_113 : decode prog_1_method_8_code 113 = .ok (.lreturn, 1) := by decide +kernel
theorem d_Desk_look_114 : decode prog_1_method_8_code 114 = .ok (.aload_n 3, 1) := by decide +kernel
theorem d_Desk_look_115 : decode prog_1_method_8_code 115 = .ok (.getfield 105, 3) := by decide +kernel
theorem d_Desk_look_118 : decode prog_1_method_8_code 118 = .ok (.invokestatic 108, 3) := by decide +kernel
theorem d_Desk_look_121 : decode prog_1_method_8_code 121 = .ok (.i2l, 1) := by decide +kernel
theorem d_Desk_look_122 : decode prog_1_method_8_code 122 = .ok (.lreturn, 1) := by decide +kernel
theorem d_Desk_look_123 : decode prog_1_method_8_code 123 = .ok (.aload_n 3, 1) := by decide +kernel
theorem d_Desk_look_124 : decode prog_1_method_8_code 124 = .ok (.getfield 114, 3) := by decide +kernel
theorem d_Desk_look_127 : decode prog_1_method_8_code 127 = .ok (.invokestatic 108, 3) := by decide +kernel
theorem d_Desk_look_130 : decode prog_1_method_8_code 130 = .ok (.i2l, 1) := by decide +kernel
theorem d_Desk_look_131 : decode prog_1_method_8_code 131 = .ok (.lreturn, 1) := by decide +kernel
theorem d_Desk_look_132 : decode prog_1_method_8_code 132 = .ok (.aload_n 0, 1) := by decide +kernel
theorem d_Desk_look_133 : decode prog_1_method_8_code 133 = .ok (.getfield 26, 3) := by decide +kernel
theorem d_Desk_look_136 : decode prog_1_method_8_code 136 = .ok (.iload_n 2, 1) := by decide +kernel
theorem d_Desk_look_137 : decode prog_1_method_8_code 137 = .ok (.invokestatic 68, 3) := by decide +kernel
theorem d_Desk_look_140 : decode prog_1_method_8_code 140 = .ok (.invokevirtual 117, 3) := by decide +kernel
theorem d_Desk_look_143 : decode prog_1_method_8_code 143 = .ok (.invokestatic 108, 3) := by decide +kernel
theorem d_Desk_look_146 : decode prog_1_method_8_code 146 = .ok (.i2l, 1) := by decide +kernel
theorem d_Desk_look_147 : decode prog_1_method_8_code 147 = .ok (.lreturn, 1) := by decide +kernel
theorem d_Desk_look_148 : decode prog_1_method_8_code 148 = .ok (.aload_n 0, 1) := by decide +kernel
theorem d_Desk_look_149 : decode prog_1_method_8_code 149 = .ok (.getfield 26, 3) := by decide +kernel
theorem d_Desk_look_152 : decode prog_1_method_8_code 152 = .ok (.aload_n 0, 1) := by decide +kernel
theorem d_Desk_look_153 : decode prog_1_method_8_code 153 = .ok (.getfield 26, 3) := by decide +kernel
theorem d_Desk_look_156 : decode prog_1_method_8_code 156 = .ok (.iload_n 2, 1) := by decide +kernel
theorem d_Desk_look_157 : decode prog_1_method_8_code 157 = .ok (.invokestatic 68, 3) := by decide +kernel
theorem d_Desk_look_160 : decode prog_1_method_8_code 160 = .ok (.invokevirtual 117, 3) := by decide +kernel
theorem d_Desk_look_163 : decode prog_1_method_8_code 163 = .ok (.invokevirtual 121, 3) := by decide +kernel
theorem d_Desk_look_166 : decode prog_1_method_8_code 166 = .ok (.lreturn, 1) := by decide +kernel
theorem d_Desk_look_167 : decode prog_1_method_8_code 167 = .ok (.aload_n 0, 1) := by decide +kernel
theorem d_Desk_look_168 : decode prog_1_method_8_code 168 = .ok (.getfield 26, 3) := by decide +kernel
theorem d_Desk_look_171 : decode prog_1_method_8_code 171 = .ok (.aload_n 0, 1) := by decide +kernel
theorem d_Desk_look_172 : decode prog_1_method_8_code 172 = .ok (.getfield 26, 3) := by decide +kernel
theorem d_Desk_look_175 : decode prog_1_method_8_code 175 = .ok (.iload_n 2, 1) := by decide +kernel
theorem d_Desk_look_176 : decode prog_1_method_8_code 176 = .ok (.invokestatic 68, 3) := by decide +kernel
theorem d_Desk_look_179 : decode prog_1_method_8_code 179 = .ok (.invokevirtual 117, 3) := by decide +kernel
theorem d_Desk_look_182 : decode prog_1_method_8_code 182 = .ok (.invokevirtual 124, 3) := by decide +kernel
theorem d_Desk_look_185 : decode prog_1_method_8_code 185 = .ok (.i2l, 1) := by decide +kernel
theorem d_Desk_look_186 : decode prog_1_method_8_code 186 = .ok (.lreturn, 1) := by decide +kernel
theorem d_Desk_look_187 : decode prog_1_method_8_code 187 = .ok (.aload_n 3, 1) := by decide +kernel
theorem d_Desk_look_188 : decode prog_1_method_8_code 188 = .ok (.getfield 127, 3) := by decide +kernel
theorem d_Desk_look_191 : decode prog_1_method_8_code 191 = .ok (.i2l, 1) := by decide +kernel
theorem d_Desk_look_192 : decode prog_1_method_8_code 192 = .ok (.lreturn, 1) := by decide +kernel
theorem d_Desk_look_193 : decode prog_1_method_8_code 193 = .ok (.ldc2_w 84, 3) := by decide +kernel
theorem d_Desk_look_196 : decode prog_1_method_8_code 196 = .ok (.lreturn, 1) := by decide +kernel
theorem d_Desk_order_0 : decode prog_1_method_9_code 0 = .ok (.aload_n 0, 1) := by decide +kernel
theorem d_Desk_order_1 : decode prog_1_method_9_code 1 = .ok (.getfield 33, 3) := by decide +kernel
theorem d_Desk_order_4 : decode prog_1_method_9_code 4 = .ok (.invokevirtual 130, 3) := by decide +kernel
theorem d_Desk_order_7 : decode prog_1_method_9_code 7 = .ok (.lconst 0, 1) := by decide +kernel
theorem d_Desk_order_8 : decode prog_1_method_9_code 8 = .ok (.lstore_n 2, 1) := by decide +kernel
theorem d_Desk_order_9 : decode prog_1_method_9_code 9 = .ok (.iload_n 1, 1) := by decide +kernel
theorem d_Desk_order_10 : decode prog_1_method_9_code 10 = .ok (.istore 4, 2) := by decide +kernel
theorem d_Desk_order_12 : decode prog_1_method_9_code 12 = .ok (.iconst 0, 1) := by decide +kernel
theorem d_Desk_order_13 : decode prog_1_method_9_code 13 = .ok (.istore 5, 2) := by decide +kernel
theorem d_Desk_order_15 : decode prog_1_method_9_code 15 = .ok (.iload 5, 2) := by decide +kernel
theorem d_Desk_order_17 : decode prog_1_method_9_code 17 = .ok (.bipush 41, 2) := by decide +kernel
theorem d_Desk_order_19 : decode prog_1_method_9_code 19 = .ok (.if_icmp .ge 72, 3) := by decide +kernel
theorem d_Desk_order_22 : decode prog_1_method_9_code 22 = .ok (.aload_n 0, 1) := by decide +kernel
theorem d_Desk_order_23 : decode prog_1_method_9_code 23 = .ok (.getfield 26, 3) := by decide +kernel
theorem d_Desk_order_26 : decode prog_1_method_9_code 26 = .ok (.lload_n 2, 1) := by decide +kernel
theorem d_Desk_order_27 : decode prog_1_method_9_code 27 = .ok (.iload 4, 2) := by decide +kernel
theorem d_Desk_order_29 : decode prog_1_method_9_code 29 = .ok (.invokevirtual 131, 3) := by decide +kernel
theorem d_Desk_order_32 : decode prog_1_method_9_code 32 = .ok (.istore 6, 2) := by decide +kernel
theorem d_Desk_order_34 : decode prog_1_method_9_code 34 = .ok (.iload 6, 2) := by decide +kernel
theorem d_Desk_order_36 : decode prog_1_method_9_code 36 = .ok (.iconst (-1), 1) := by decide +kernel
theorem d_Desk_order_37 : decode prog_1_method_9_code 37 = .ok (.if_icmp .ne 6, 3) := by decide +kernel
theorem d_Desk_order_40 : decode prog_1_method_9_code 40 = .ok (.goto 51, 3) := by decide +kernel
theorem d_Desk_order_43 : decode prog_1_method_9_code 43 = .ok (.aload_n 0, 1) := by decide +kernel
theorem d_Desk_order_44 : decode prog_1_method_9_code 44 = .ok (.getfield 26, 3) := by decide +kernel
theorem d_Desk_order_47 : decode prog_1_method_9_code 47 = .ok (.getfield 86, 3) := by decide +kernel
theorem d_Desk_order_50 : decode prog_1_method_9_code 50 = .ok (.iload 6, 2) := by decide +kernel
theorem d_Desk_order_52 : decode prog_1_method_9_code 52 = .ok (.aaload, 1) := by decide +kernel
theorem d_Desk_order_53 : decode prog_1_method_9_code 53 = .ok (.astore 7, 2) := by decide +kernel
theorem d_Desk_order_55 : decode prog_1_method_9_code 55 = .ok (.aload_n 0, 1) := by decide +kernel
theorem d_Desk_order_56 : decode prog_1_method_9_code 56 = .ok (.getfield 33, 3) := by decide +kernel
theorem d_Desk_order_59 : decode prog_1_method_9_code 59 = .ok (.aload 7, 2) := by decide +kernel
theorem d_Desk_order_61 : decode prog_1_method_9_code 61 = .ok (.getfield 135, 3) := by decide +kernel
theorem d_Desk_order_64 : decode prog_1_method_9_code 64 = .ok (.invokevirtual 138, 3) := by decide +kernel
theorem d_Desk_order_67 : decode prog_1_method_9_code 67 = .ok (.lload_n 2, 1) := by decide +kernel
theorem d_Desk_order_68 : decode prog_1_method_9_code 68 = .ok (.iload 6, 2) := by decide +kernel
theorem d_Desk_order_70 : decode prog_1_method_9_code 70 = .ok (.invokestatic 68, 3) := by decide +kernel
theorem d_Desk_order_73 : decode prog_1_method_9_code 73 = .ok (.lor, 1) := by decide +kernel
theorem d_Desk_order_74 : decode prog_1_method_9_code 74 = .ok (.lstore_n 2, 1) := by decide +kernel
theorem d_Desk_order_75 : decode prog_1_method_9_code 75 = .ok (.iload 4, 2) := by decide +kernel
theorem d_Desk_order_77 : decode prog_1_method_9_code 77 = .ok (.aload 7, 2) := by decide +kernel
theorem d_Desk_order_79 : decode prog_1_method_9_code 79 = .ok (.getfield 96, 3) := by decide +kernel
theorem d_Desk_order_82 : decode prog_1_method_9_code 82 = .ok (.isub, 1) := by decide +kernel
theorem d_Desk_order_83 : decode prog_1_method_9_code 83 = .ok (.istore 4, 2) := by decide +kernel
theorem d_Desk_order_85 : decode prog_1_method_9_code 85 = .ok (.iinc 5 1, 3) := by decide +kernel
theorem d_Desk_order_88 : decode prog_1_method_9_code 88 = .ok (.goto (-73), 3) := by decide +kernel
theorem d_Desk_order_91 : decode prog_1_method_9_code 91 = .ok (.aload_n 0, 1) := by decide +kernel
theorem d_Desk_order_92 : decode prog_1_method_9_code 92 = .ok (.getfield 33, 3) := by decide +kernel
theorem d_Desk_order_95 : decode prog_1_method_9_code 95 = .ok (.getfield 141, 3) := by decide +kernel
theorem d_Desk_order_98 : decode prog_1_method_9_code 98 = .ok (.ireturn, 1) := by decide +kernel
theorem d_Row_clear_0 : decode prog_5_method_2_code 0 = .ok (.aload_n 0, 1) := by decide +kernel
theorem d_Row_clear_1 : decode prog_5_method_2_code 1 = .ok (.iconst 0, 1) := by decide +kernel
theorem d_Row_clear_2 : decode prog_5_method_2_code 2 = .ok (.putfield 15, 3) := by decide +kernel
theorem d_Row_clear_5 : decode prog_5_method_2_code 5 = .ok (.return_, 1) := by decide +kernel
theorem d_Row_add_0 : decode prog_5_method_3_code 0 = .ok (.aload_n 0, 1) := by decide +kernel
theorem d_Row_add_1 : decode prog_5_method_3_code 1 = .ok (.getfield 15, 3) := by decide +kernel
theorem d_Row_add_4 : decode prog_5_method_3_code 4 = .ok (.bipush 41, 2) := by decide +kernel
theorem d_Row_add_6 : decode prog_5_method_3_code 6 = .ok (.if_icmp .lt 4, 3) := by decide +kernel
theorem d_Row_add_9 : decode prog_5_method_3_code 9 = .ok (.return_, 1) := by decide +kernel
theorem d_Row_add_10 : decode prog_5_method_3_code 10 = .ok (.aload_n 1, 1) := by decide +kernel
theorem d_Row_add_11 : decode prog_5_method_3_code 11 = .ok (.aload_n 0, 1) := by decide +kernel
theorem d_Row_add_12 : decode prog_5_method_3_code 12 = .ok (.getfield 9, 3) := by decide +kernel
theorem d_Row_add_15 : decode prog_5_method_3_code 15 = .ok (.aload_n 0, 1) := by decide +kernel
theorem d_Row_add_16 : decode prog_5_method_3_code 16 = .ok (.getfield 15, 3) := by decide +kernel
theorem d_Row_add_19 : decode prog_5_method_3_code 19 = .ok (.iconst 4, 1) := by decide +kernel
theorem d_Row_add_20 : decode prog_5_method_3_code 20 = .ok (.imul, 1) := by decide +kernel
theorem d_Row_add_21 : decode prog_5_method_3_code 21 = .ok (.invokevirtual 19, 3) := by decide +kernel
theorem d_Row_add_24 : decode prog_5_method_3_code 24 = .ok (.aload_n 0, 1) := by decide +kernel
theorem d_Row_add_25 : decode prog_5_method_3_code 25 = .ok (.dup, 1) := by decide +kernel
theorem d_Row_add_26 : decode prog_5_method_3_code 26 = .ok (.getfield 15, 3) := by decide +kernel
theorem d_Row_add_29 : decode prog_5_method_3_code 29 = .ok (.iconst 1, 1) := by decide +kernel
theorem d_Row_add_30 : decode prog_5_method_3_code 30 = .ok (.iadd, 1) := by decide +kernel
theorem d_Row_add_31 : decode prog_5_method_3_code 31 = .ok (.putfield 15, 3) := by decide +kernel
theorem d_Row_add_34 : decode prog_5_method_3_code 34 = .ok (.return_, 1) := by decide +kernel
theorem d_Desk_row_0 : decode prog_1_method_10_code 0 = .ok (.aload_n 0, 1) := by decide +kernel
theorem d_Desk_row_1 : decode prog_1_method_10_code 1 = .ok (.getfield 33, 3) := by decide +kernel
theorem d_Desk_row_4 : decode prog_1_method_10_code 4 = .ok (.iload_n 1, 1) := by decide +kernel
theorem d_Desk_row_5 : decode prog_1_method_10_code 5 = .ok (.iload_n 2, 1) := by decide +kernel
theorem d_Desk_row_6 : decode prog_1_method_10_code 6 = .ok (.invokevirtual 144, 3) := by decide +kernel
theorem d_Desk_row_9 : decode prog_1_method_10_code 9 = .ok (.lreturn, 1) := by decide +kernel
theorem d_Row_word_0 : decode prog_5_method_4_code 0 = .ok (.iload_n 1, 1) := by decide +kernel
theorem d_Row_word_1 : decode prog_5_method_4_code 1 = .ok (.ifCond .lt 20, 3) := by decide +kernel
theorem d_Row_word_4 : decode prog_5_method_4_code 4 = .ok (.iload_n 1, 1) := by decide +kernel
theorem d_Row_word_5 : decode prog_5_method_4_code 5 = .ok (.aload_n 0, 1) := by decide +kernel
theorem d_Row_word_6 : decode prog_5_method_4_code 6 = .ok (.getfield 15, 3) := by decide +kernel
theorem d_Row_word_9 : decode prog_5_method_4_code 9 = .ok (.if_icmp .ge 12, 3) := by decide +kernel
theorem d_Row_word_12 : decode prog_5_method_4_code 12 = .ok (.iload_n 2, 1) := by decide +kernel
theorem d_Row_word_13 : decode prog_5_method_4_code 13 = .ok (.ifCond .lt 8, 3) := by decide +kernel
theorem d_Row_word_16 : decode prog_5_method_4_code 16 = .ok (.iload_n 2, 1) := by decide +kernel
theorem d_Row_word_17 : decode prog_5_method_4_code 17 = .ok (.iconst 4, 1) := by decide +kernel
theorem d_Row_word_18 : decode prog_5_method_4_code 18 = .ok (.if_icmp .lt 5, 3) := by decide +kernel
theorem d_Row_word_21 : decode prog_5_method_4_code 21 = .ok (.lconst 0, 1) := by decide +kernel
theorem d_Row_word_22 : decode prog_5_method_4_code 22 = .ok (.lreturn, 1) := by decide +kernel
theorem d_Row_word_23 : decode prog_5_method_4_code 23 = .ok (.aload_n 0, 1) := by decide +kernel
theorem d_Row_word_24 : decode prog_5_method_4_code 24 = .ok (.getfield 9, 3) := by decide +kernel
theorem d_Row_word_27 : decode prog_5_method_4_code 27 = .ok (.iload_n 1, 1) := by decide +kernel
theorem d_Row_word_28 : decode prog_5_method_4_code 28 = .ok (.iconst 4, 1) := by decide +kernel
theorem d_Row_word_29 : decode prog_5_method_4_code 29 = .ok (.imul, 1) := by decide +kernel
theorem d_Row_word_30 : decode prog_5_method_4_code 30 = .ok (.iload_n 2, 1) := by decide +kernel
theorem d_Row_word_31 : decode prog_5_method_4_code 31 = .ok (.iadd, 1) := by decide +kernel
theorem d_Row_word_32 : decode prog_5_method_4_code 32 = .ok (.laload, 1) := by decide +kernel
theorem d_Row_word_33 : decode prog_5_method_4_code 33 = .ok (.lreturn, 1) := by decide +kernel
theorem d_Desk_count_0 : decode prog_1_method_11_code 0 = .ok (.iload_n 1, 1) := by decide +kernel
theorem d_Desk_count_1 : decode prog_1_method_11_code 1 = .ok (.tableswitch 85 0 4 #[35, 46, 54, 69, 77], 35) := by decide +kernel
theorem d_Desk_count_36 : decode prog_1_method_11_code 36 = .ok (.aload_n 0, 1) := by decide +kernel
theorem d_Desk_count_37 : decode prog_1_method_11_code 37 = .ok (.getfield 26, 3) := by decide +kernel
theorem d_Desk_count_40 : decode prog_1_method_11_code 40 = .ok (.getfield 148, 3) := by decide +kernel
theorem d_Desk_count_43 : decode prog_1_method_11_code 43 = .ok (.invokestatic 108, 3) := by decide +kernel
theorem d_Desk_count_46 : decode prog_1_method_11_code 46 = .ok (.ireturn, 1) := by decide +kernel
theorem d_Desk_count_47 : decode prog_1_method_11_code 47 = .ok (.aload_n 0, 1) := by decide +kernel
theorem d_Desk_count_48 : decode prog_1_method_11_code 48 = .ok (.getfield 26, 3) := by decide +kernel
theorem d_Desk_count_51 : decode prog_1_method_11_code 51 = .ok (.invokevirtual 151, 3) := by decide +kernel
theorem d_Desk_count_54 : decode prog_1_method_11_code 54 = .ok (.ireturn, 1) := by decide +kernel
theorem d_Desk_count_55 : decode prog_1_method_11_code 55 = .ok (.aload_n 0, 1) := by decide +kernel
theorem d_Desk_count_56 : decode prog_1_method_11_code 56 = .ok (.getfield 26, 3) := by decide +kernel
theorem d_Desk_count_59 : decode prog_1_method_11_code 59 = .ok (.aload_n 0, 1) := by decide +kernel
theorem d_Desk_count_60 : decode prog_1_method_11_code 60 = .ok (.getfield 26, 3) := by decide +kernel
theorem d_Desk_count_63 : decode prog_1_method_11_code 63 = .ok (.getfield 148, 3) := by decide +kernel
theorem d_Desk_count_66 : decode prog_1_method_11_code 66 = .ok (.invokevirtual 124, 3) := by decide +kernel
theorem d_Desk_count_69 : decode prog_1_method_11_code 69 = .ok (.ireturn, 1) := by decide +kernel
theorem d_Desk_count_70 : decode prog_1_method_11_code 70 = .ok (.aload_n 0, 1) := by decide +kernel
theorem d_Desk_count_71 : decode prog_1_method_11_code 71 = .ok (.getfield 19, 3) := by decide +kernel
theorem d_Desk_count_74 : decode prog_1_method_11_code 74 = .ok (.getfield 45, 3) := by decide +kernel
theorem d_Desk_count_77 : decode prog_1_method_11_code 77 = .ok (.ireturn, 1) := by decide +kernel
theorem d_Desk_count_78 : decode prog_1_method_11_code 78 = .ok (.aload_n 0, 1) := by decide +kernel
theorem d_Desk_count_79 : decode prog_1_method_11_code 79 = .ok (.getfield 26, 3) := by decide +kernel
theorem d_Desk_count_82 : decode prog_1_method_11_code 82 = .ok (.getfield 155, 3) := by decide +kernel
theorem d_Desk_count_85 : decode prog_1_method_11_code 85 = .ok (.ireturn, 1) := by decide +kernel
theorem d_Desk_count_86 : decode prog_1_method_11_code 86 = .ok (.iconst (-1), 1) := by decide +kernel
theorem d_Desk_count_87 : decode prog_1_method_11_code 87 = .ok (.ireturn, 1) := by decide +kernel
theorem d_Desk_fees_0 : decode prog_1_method_12_code 0 = .ok (.aload_n 0, 1) := by decide +kernel
theorem d_Desk_fees_1 : decode prog_1_method_12_code 1 = .ok (.getfield 26, 3) := by decide +kernel
theorem d_Desk_fees_4 : decode prog_1_method_12_code 4 = .ok (.aload_n 0, 1) := by decide +kernel
theorem d_Desk_fees_5 : decode prog_1_method_12_code 5 = .ok (.getfield 26, 3) := by decide +kernel
theorem d_Desk_fees_8 : decode prog_1_method_12_code 8 = .ok (.getfield 148, 3) := by decide +kernel
theorem d_Desk_fees_11 : decode prog_1_method_12_code 11 = .ok (.invokevirtual 121, 3) := by decide +kernel
theorem d_Desk_fees_14 : decode prog_1_method_12_code 14 = .ok (.lreturn, 1) := by decide +kernel
theorem ka_Name : ma_Kc "PoolDesk$Name" F_Name 4 t_Name := ⟨by decide +kernel, by decide +kernel, by decide +kernel⟩
theorem ka_Keys : ma_Kc "PoolDesk$Keys" F_Keys 3 t_Keys := ⟨by decide +kernel, by decide +kernel, by decide +kernel⟩
theorem ka_Tx : ma_Kc "PoolDesk$Transaction" F_Tx 8 t_Tx := ⟨by decide +kernel, by decide +kernel, by decide +kernel⟩
theorem ka_Pool : ma_Kc "PoolDesk$Pool" F_Pool 3 t_Pool := ⟨by decide +kernel, by decide +kernel, by decide +kernel⟩
theorem ka_Row : ma_Kc "PoolDesk$Row" F_Row 2 t_Row := ⟨by decide +kernel, by decide +kernel, by decide +kernel⟩
theorem ka_Desk : ma_Kc "PoolDesk" F_Desk 4 t_Desk := ⟨by decide +kernel, by decide +kernel, by decide +kernel⟩
theorem ka_Model : ma_Kc "PoolDeskModel" F_Model 17 t_Model := ⟨by decide +kernel, by decide +kernel, by decide +kernel⟩
theorem ok_Desk_init : ma_Ok M_Desk_init 0 := ⟨by decide +kernel, ⟨by decide +kernel, by decide +kernel, by decide +kernel⟩, by decide +kernel, by decide +kernel, by decide +kernel⟩
theorem ok_Name_init : ma_Ok M_Name_init 0 := ⟨by decide +kernel, ⟨by decide +kernel, by decide +kernel, by decide +kernel⟩, by decide +kernel, by decide +kernel, by decide +kernel⟩
theorem ok_Keys_init : ma_Ok M_Keys_init 0 := ⟨by decide +kernel, ⟨by decide +kernel, by decide +kernel, by decide +kernel⟩, by decide +kernel, by decide +kernel, by decide +kernel⟩
theorem ok_Pool_init : ma_Ok M_Pool_init 0 := ⟨by decide +kernel, ⟨by decide +kernel, by decide +kernel, by decide +kernel⟩, by decide +kernel, by decide +kernel, by decide +kernel⟩
theorem ok_Tx_init : ma_Ok M_Tx_init 0 := ⟨by decide +kernel, ⟨by decide +kernel, by decide +kernel, by decide +kernel⟩, by decide +kernel, by decide +kernel, by decide +kernel⟩
theorem ok_Row_init : ma_Ok M_Row_init 0 := ⟨by decide +kernel, ⟨by decide +kernel, by decide +kernel, by decide +kernel⟩, by decide +kernel, by decide +kernel, by decide +kernel⟩
theorem ok_Desk_name : ma_Ok M_Desk_name 4 := ⟨by decide +kernel, ⟨by decide +kernel, by decide +kernel, by decide +kernel⟩, by decide +kernel, by decide +kernel, by decide +kernel⟩
theorem ok_Name_set : ma_Ok M_Name_set 4 := ⟨by decide +kernel, ⟨by decide +kernel, by decide +kernel, by decide +kernel⟩, by decide +kernel, by decide +kernel, by decide +kernel⟩
theorem ok_Desk_spend : ma_Ok M_Desk_spend 1 := ⟨by decide +kernel, ⟨by decide +kernel, by decide +kernel, by decide +kernel⟩, by decide +kernel, by decide +kernel, by decide +kernel⟩
theorem ok_Keys_add : ma_Ok M_Keys_add 2 := ⟨by decide +kernel, ⟨by decide +kernel, by decide +kernel, by decide +kernel⟩, by decide +kernel, by decide +kernel, by decide +kernel⟩
theorem ok_Keys_contains : ma_Ok M_Keys_contains 2 := ⟨by decide +kernel, ⟨by decide +kernel, by decide +kernel, by decide +kernel⟩, by decide +kernel, by decide +kernel, by decide +kernel⟩
theorem ok_Keys_isOf : ma_Ok M_Keys_isOf 2 := ⟨by decide +kernel, ⟨by decide +kernel, by decide +kernel, by decide +kernel⟩, by decide +kernel, by decide +kernel, by decide +kernel⟩
theorem ok_Name_write : ma_Ok M_Name_write 2 := ⟨by decide +kernel, ⟨by decide +kernel, by decide +kernel, by decide +kernel⟩, by decide +kernel, by decide +kernel, by decide +kernel⟩
theorem ok_Desk_enter : ma_Ok M_Desk_enter 3 := ⟨by decide +kernel, ⟨by decide +kernel, by decide +kernel, by decide +kernel⟩, by decide +kernel, by decide +kernel, by decide +kernel⟩
theorem ok_Desk_isTransaction : ma_Ok M_Desk_isTransaction 3 := ⟨by decide +kernel, ⟨by decide +kernel, by decide +kernel, by decide +kernel⟩, by decide +kernel, by decide +kernel, by decide +kernel⟩
theorem ok_Pool_hindrance : ma_Ok M_Pool_hindrance 3 := ⟨by decide +kernel, ⟨by decide +kernel, by decide +kernel, by decide +kernel⟩, by decide +kernel, by decide +kernel, by decide +kernel⟩
theorem ok_Pool_find : ma_Ok M_Pool_find 1 := ⟨by decide +kernel, ⟨by decide +kernel, by decide +kernel, by decide +kernel⟩, by decide +kernel, by decide +kernel, by decide +kernel⟩
theorem ok_Desk_has : ma_Ok M_Desk_has 2 := ⟨by decide +kernel, ⟨by decide +kernel, by decide +kernel, by decide +kernel⟩, by decide +kernel, by decide +kernel, by decide +kernel⟩
theorem ok_Desk_bit : ma_Ok M_Desk_bit 1 := ⟨by decide +kernel, ⟨by decide +kernel, by decide +kernel, by decide +kernel⟩, by decide +kernel, by decide +kernel, by decide +kernel⟩
theorem ok_Name_same : ma_Ok M_Name_same 1 := ⟨by decide +kernel, ⟨by decide +kernel, by decide +kernel, by decide +kernel⟩, by decide +kernel, by decide +kernel, by decide +kernel⟩
theorem ok_Pool_isSpent : ma_Ok M_Pool_isSpent 1 := ⟨by decide +kernel, ⟨by decide +kernel, by decide +kernel, by decide +kernel⟩, by decide +kernel, by decide +kernel, by decide +kernel⟩
theorem ok_Keys_containsOneOf : ma_Ok M_Keys_containsOneOf 1 := ⟨by decide +kernel, ⟨by decide +kernel, by decide +kernel, by decide +kernel⟩, by decide +kernel, by decide +kernel, by decide +kernel⟩
theorem ok_Keys_sameName : ma_Ok M_Keys_sameName 3 := ⟨by decide +kernel, ⟨by decide +kernel, by decide +kernel, by decide +kernel⟩, by decide +kernel, by decide +kernel, by decide +kernel⟩
theorem ok_Pool_missesOutput : ma_Ok M_Pool_missesOutput 3 := ⟨by decide +kernel, ⟨by decide +kernel, by decide +kernel, by decide +kernel⟩, by decide +kernel, by decide +kernel, by decide +kernel⟩
theorem ok_Keys_misses : ma_Ok M_Keys_misses 2 := ⟨by decide +kernel, ⟨by decide +kernel, by decide +kernel, by decide +kernel⟩, by decide +kernel, by decide +kernel, by decide +kernel⟩
theorem ok_Pool_hangsOnItself : ma_Ok M_Pool_hangsOnItself 2 := ⟨by decide +kernel, ⟨by decide +kernel, by decide +kernel, by decide +kernel⟩, by decide +kernel, by decide +kernel, by decide +kernel⟩
theorem ok_Keys_bears : ma_Ok M_Keys_bears 1 := ⟨by decide +kernel, ⟨by decide +kernel, by decide +kernel, by decide +kernel⟩, by decide +kernel, by decide +kernel, by decide +kernel⟩
theorem ok_Pool_spendersOf : ma_Ok M_Pool_spendersOf 1 := ⟨by decide +kernel, ⟨by decide +kernel, by decide +kernel, by decide +kernel⟩, by decide +kernel, by decide +kernel, by decide +kernel⟩
theorem ok_Pool_family : ma_Ok M_Pool_family 1 := ⟨by decide +kernel, ⟨by decide +kernel, by decide +kernel, by decide +kernel⟩, by decide +kernel, by decide +kernel, by decide +kernel⟩
theorem ok_Desk_lowest : ma_Ok M_Desk_lowest 1 := ⟨by decide +kernel, ⟨by decide +kernel, by decide +kernel, by decide +kernel⟩, by decide +kernel, by decide +kernel, by decide +kernel⟩
theorem ok_Long_bitCount : ma_Ok M_Long_bitCount 1 := ⟨by decide +kernel, ⟨by decide +kernel, by decide +kernel, by decide +kernel⟩, by decide +kernel, by decide +kernel, by decide +kernel⟩
theorem ok_Pool_named : ma_Ok M_Pool_named 1 := ⟨by decide +kernel, ⟨by decide +kernel, by decide +kernel, by decide +kernel⟩, by decide +kernel, by decide +kernel, by decide +kernel⟩
theorem ok_Desk_letIn : ma_Ok M_Desk_letIn 3 := ⟨by decide +kernel, ⟨by decide +kernel, by decide +kernel, by decide +kernel⟩, by decide +kernel, by decide +kernel, by decide +kernel⟩
theorem ok_Pool_freePlace : ma_Ok M_Pool_freePlace 0 := ⟨by decide +kernel, ⟨by decide +kernel, by decide +kernel, by decide +kernel⟩, by decide +kernel, by decide +kernel, by decide +kernel⟩
theorem ok_Tx_describe : ma_Ok M_Tx_describe 3 := ⟨by decide +kernel, ⟨by decide +kernel, by decide +kernel, by decide +kernel⟩, by decide +kernel, by decide +kernel, by decide +kernel⟩
theorem ok_Pool_settle : ma_Ok M_Pool_settle 3 := ⟨by decide +kernel, ⟨by decide +kernel, by decide +kernel, by decide +kernel⟩, by decide +kernel, by decide +kernel, by decide +kernel⟩
theorem ok_Keys_copy : ma_Ok M_Keys_copy 1 := ⟨by decide +kernel, ⟨by decide +kernel, by decide +kernel, by decide +kernel⟩, by decide +kernel, by decide +kernel, by decide +kernel⟩
theorem ok_Pool_leastPaying : ma_Ok M_Pool_leastPaying 0 := ⟨by decide +kernel, ⟨by decide +kernel, by decide +kernel, by decide +kernel⟩, by decide +kernel, by decide +kernel, by decide +kernel⟩
theorem ok_Pool_sumOfFees : ma_Ok M_Pool_sumOfFees 1 := ⟨by decide +kernel, ⟨by decide +kernel, by decide +kernel, by decide +kernel⟩, by decide +kernel, by decide +kernel, by decide +kernel⟩
theorem ok_Pool_sumOfSizes : ma_Ok M_Pool_sumOfSizes 1 := ⟨by decide +kernel, ⟨by decide +kernel, by decide +kernel, by decide +kernel⟩, by decide +kernel, by decide +kernel, by decide +kernel⟩
theorem ok_Desk_compareRates : ma_Ok M_Desk_compareRates 4 := ⟨by decide +kernel, ⟨by decide +kernel, by decide +kernel, by decide +kernel⟩, by decide +kernel, by decide +kernel, by decide +kernel⟩
theorem ok_Long_compare : ma_Ok M_Long_compare 2 := ⟨by decide +kernel, ⟨by decide +kernel, by decide +kernel, by decide +kernel⟩, by decide +kernel, by decide +kernel, by decide +kernel⟩
theorem ok_Desk_removeFamily : ma_Ok M_Desk_removeFamily 1 := ⟨by decide +kernel, ⟨by decide +kernel, by decide +kernel, by decide +kernel⟩, by decide +kernel, by decide +kernel, by decide +kernel⟩
theorem ok_Pool_remove : ma_Ok M_Pool_remove 1 := ⟨by decide +kernel, ⟨by decide +kernel, by decide +kernel, by decide +kernel⟩, by decide +kernel, by decide +kernel, by decide +kernel⟩
theorem ok_Keys_clear : ma_Ok M_Keys_clear 0 := ⟨by decide +kernel, ⟨by decide +kernel, by decide +kernel, by decide +kernel⟩, by decide +kernel, by decide +kernel, by decide +kernel⟩
theorem ok_Desk_take : ma_Ok M_Desk_take 0 := ⟨by decide +kernel, ⟨by decide +kernel, by decide +kernel, by decide +kernel⟩, by decide +kernel, by decide +kernel, by decide +kernel⟩
theorem ok_Desk_drop : ma_Ok M_Desk_drop 0 := ⟨by decide +kernel, ⟨by decide +kernel, by decide +kernel, by decide +kernel⟩, by decide +kernel, by decide +kernel, by decide +kernel⟩
theorem ok_Desk_strike : ma_Ok M_Desk_strike 1 := ⟨by decide +kernel, ⟨by decide +kernel, by decide +kernel, by decide +kernel⟩, by decide +kernel, by decide +kernel, by decide +kernel⟩
theorem ok_Pool_findSpender : ma_Ok M_Pool_findSpender 2 := ⟨by decide +kernel, ⟨by decide +kernel, by decide +kernel, by decide +kernel⟩, by decide +kernel, by decide +kernel, by decide +kernel⟩
theorem ok_Desk_look : ma_Ok M_Desk_look 1 := ⟨by decide +kernel, ⟨by decide +kernel, by decide +kernel, by decide +kernel⟩, by decide +kernel, by decide +kernel, by decide +kernel⟩
theorem ok_Desk_order : ma_Ok M_Desk_order 1 := ⟨by decide +kernel, ⟨by decide +kernel, by decide +kernel, by decide +kernel⟩, by decide +kernel, by decide +kernel, by decide +kernel⟩
theorem ok_Row_clear : ma_Ok M_Row_clear 0 := ⟨by decide +kernel, ⟨by decide +kernel, by decide +kernel, by decide +kernel⟩, by decide +kernel, by decide +kernel, by decide +kernel⟩
theorem ok_Pool_bestPaying : ma_Ok M_Pool_bestPaying 2 := ⟨by decide +kernel, ⟨by decide +kernel, by decide +kernel, by decide +kernel⟩, by decide +kernel, by decide +kernel, by decide +kernel⟩
theorem ok_Pool_paysBetter : ma_Ok M_Pool_paysBetter 2 := ⟨by decide +kernel, ⟨by decide +kernel, by decide +kernel, by decide +kernel⟩, by decide +kernel, by decide +kernel, by decide +kernel⟩
theorem ok_Row_add : ma_Ok M_Row_add 1 := ⟨by decide +kernel, ⟨by decide +kernel, by decide +kernel, by decide +kernel⟩, by decide +kernel, by decide +kernel, by decide +kernel⟩
theorem ok_Desk_row : ma_Ok M_Desk_row 2 := ⟨by decide +kernel, ⟨by decide +kernel, by decide +kernel, by decide +kernel⟩, by decide +kernel, by decide +kernel, by decide +kernel⟩
theorem ok_Row_word : ma_Ok M_Row_word 2 := ⟨by decide +kernel, ⟨by decide +kernel, by decide +kernel, by decide +kernel⟩, by decide +kernel, by decide +kernel, by decide +kernel⟩
theorem ok_Desk_count : ma_Ok M_Desk_count 1 := ⟨by decide +kernel, ⟨by decide +kernel, by decide +kernel, by decide +kernel⟩, by decide +kernel, by decide +kernel, by decide +kernel⟩
theorem ok_Pool_sumOfKeys : ma_Ok M_Pool_sumOfKeys 0 := ⟨by decide +kernel, ⟨by decide +kernel, by decide +kernel, by decide +kernel⟩, by decide +kernel, by decide +kernel, by decide +kernel⟩
theorem ok_Desk_fees : ma_Ok M_Desk_fees 0 := ⟨by decide +kernel, ⟨by decide +kernel, by decide +kernel, by decide +kernel⟩, by decide +kernel, by decide +kernel, by decide +kernel⟩
end
section
theorem d_Pool_init_0 : decode prog_4_method_1_code 0 = .ok (.aload_n 0, 1) := by decide +kernel
theorem d_Pool_init_1 : decode prog_4_method_1_code 1 = .ok (.invokespecial 3, 3) := by decide +kernel
theorem d_Pool_init_4 : decode prog_4_method_1_code 4 = .ok (.aload_n 0, 1) := by decide +kernel
theorem d_Pool_init_5 : decode prog_4_method_1_code 5 = .ok (.bipush 41, 2) := by decide +kernel
theorem d_Pool_init_7 : decode prog_4_method_1_code 7 = .ok (.anewarray 9, 3) := by decide +kernel
theorem d_Pool_init_10 : decode prog_4_method_1_code 10 = .ok (.putfield 11, 3) := by decide +kernel
theorem d_Pool_init_13 : decode prog_4_method_1_code 13 = .ok (.iconst 0, 1) := by decide +kernel
theorem d_Pool_init_14 : decode prog_4_method_1_code 14 = .ok (.istore_n 1, 1) := by decide +kernel
theorem d_Pool_init_15 : decode prog_4_method_1_code 15 = .ok (.iload_n 1, 1) := by decide +kernel
theorem d_Pool_init_16 : decode prog_4_method_1_code 16 = .ok (.bipush 41, 2) := by decide +kernel
theorem d_Pool_init_18 : decode prog_4_method_1_code 18 = .ok (.if_icmp .ge 22, 3) := by decide +kernel
theorem d_Pool_init_21 : decode prog_4_method_1_code 21 = .ok (.aload_n 0, 1) := by decide +kernel
theorem d_Pool_init_22 : decode prog_4_method_1_code 22 = .ok (.getfield 11, 3) := by decide +kernel
theorem d_Pool_init_25 : decode prog_4_method_1_code 25 = .ok (.iload_n 1, 1) := by decide +kernel
theorem d_Pool_init_26 : decode prog_4_method_1_code 26 = .ok (.new 9, 3) := by decide +kernel
theorem d_Pool_init_29 : decode prog_4_method_1_code 29 = .ok (.dup, 1) := by decide +kernel
theorem d_Pool_init_30 : decode prog_4_method_1_code 30 = .ok (.invokespecial 17, 3) := by decide +kernel
theorem d_Pool_init_33 : decode prog_4_method_1_code 33 = .ok (.aastore, 1) := by decide +kernel
theorem d_Pool_init_34 : decode prog_4_method_1_code 34 = .ok (.iinc 1 1, 3) := by decide +kernel
theorem d_Pool_init_37 : decode prog_4_method_1_code 37 = .ok (.goto (-22), 3) := by decide +kernel
theorem d_Pool_init_40 : decode prog_4_method_1_code 40 = .ok (.return_, 1) := by decide +kernel
theorem d_Pool_hindrance_0 : decode prog_4_method_5_code 0 = .ok (.aload_n 0, 1) := by decide +kernel
theorem d_Pool_hindrance_1 : decode prog_4_method_5_code 1 = .ok (.aload_n 1, 1) := by decide +kernel
theorem d_Pool_hindrance_2 : decode prog_4_method_5_code 2 = .ok (.invokevirtual 52, 3) := by decide +kernel
theorem d_Pool_hindrance_5 : decode prog_4_method_5_code 5 = .ok (.iconst (-1), 1) := by decide +kernel
theorem d_Pool_hindrance_6 : decode prog_4_method_5_code 6 = .ok (.if_icmp .eq 5, 3) := by decide +kernel
theorem d_Pool_hindrance_9 : decode prog_4_method_5_code 9 = .ok (.iconst 1, 1) := by decide +kernel
theorem d_Pool_hindrance_10 : decode prog_4_method_5_code 10 = .ok (.ireturn, 1) := by decide +kernel
theorem d_Pool_hindrance_11 : decode prog_4_method_5_code 11 = .ok (.aload_n 0, 1) := by decide +kernel
theorem d_Pool_hindrance_12 : decode prog_4_method_5_code 12 = .ok (.aload_n 2, 1) := by decide +kernel
theorem d_Pool_hindrance_13 : decode prog_4_method_5_code 13 = .ok (.invokevirtual 56, 3) := by decide +kernel
theorem d_Pool_hindrance_16 : decode prog_4_method_5_code 16 = .ok (.ifCond .eq 5, 3) := by decide +kernel
theorem d_Pool_hindrance_19 : decode prog_4_method_5_code 19 = .ok (.iconst 2, 1) := by decide +kernel
theorem d_Pool_hindrance_20 : decode prog_4_method_5_code 20 = .ok (.ireturn, 1) := by decide +kernel
theorem d_Pool_hindrance_21 : decode prog_4_method_5_code 21 = .ok (.aload_n 0, 1) := by decide +kernel
theorem d_Pool_hindrance_22 : decode prog_4_method_5_code 22 = .ok (.aload_n 1, 1) := by decide +kernel
theorem d_Pool_hindrance_23 : decode prog_4_method_5_code 23 = .ok (.aload_n 2, 1) := by decide +kernel
theorem d_Pool_hindrance_24 : decode prog_4_method_5_code 24 = .ok (.iload_n 3, 1) := by decide +kernel
theorem d_Pool_hindrance_25 : decode prog_4_method_5_code 25 = .ok (.invokevirtual 60, 3) := by decide +kernel
theorem d_Pool_hindrance_28 : decode prog_4_method_5_code 28 = .ok (.ifCond .eq 5, 3) := by decide +kernel
theorem d_Pool_hindrance_31 : decode prog_4_method_5_code 31 = .ok (.iconst 3, 1) := by decide +kernel
theorem d_Pool_hindrance_32 : decode prog_4_method_5_code 32 = .ok (.ireturn, 1) := by decide +kernel
theorem d_Pool_hindrance_33 : decode prog_4_method_5_code 33 = .ok (.aload_n 0, 1) := by decide +kernel
theorem d_Pool_hindrance_34 : decode prog_4_method_5_code 34 = .ok (.aload_n 1, 1) := by decide +kernel
theorem d_Pool_hindrance_35 : decode prog_4_method_5_code 35 = .ok (.aload_n 2, 1) := by decide +kernel
theorem d_Pool_hindrance_36 : decode prog_4_method_5_code 36 = .ok (.invokevirtual 64, 3) := by decide +kernel
theorem d_Pool_hindrance_39 : decode prog_4_method_5_code 39 = .ok (.ifCond .eq 7, 3) := by decide +kernel
theorem d_Pool_hindrance_42 : decode prog_4_method_5_code 42 = .ok (.iconst 4, 1) := by decide +kernel
theorem d_Pool_hindrance_43 : decode prog_4_method_5_code 43 = .ok (.goto 4, 3) := by decide +kernel
theorem d_Pool_hindrance_46 : decode prog_4_method_5_code 46 = .ok (.iconst 0, 1) := by decide +kernel
theorem d_Pool_hindrance_47 : decode prog_4_method_5_code 47 = .ok (.ireturn, 1) := by decide +kernel
theorem d_Pool_find_0 : decode prog_4_method_2_code 0 = .ok (.iconst 0, 1) := by decide +kernel
theorem d_Pool_find_1 : decode prog_4_method_2_code 1 = .ok (.istore_n 2, 1) := by decide +kernel
theorem d_Pool_find_2 : decode prog_4_method_2_code 2 = .ok (.iload_n 2, 1) := by decide +kernel
theorem d_Pool_find_3 : decode prog_4_method_2_code 3 = .ok (.bipush 41, 2) := by decide +kernel
theorem d_Pool_find_5 : decode prog_4_method_2_code 5 = .ok (.if_icmp .ge 38, 3) := by decide +kernel
theorem d_Pool_find_8 : decode prog_4_method_2_code 8 = .ok (.aload_n 0, 1) := by decide +kernel
theorem d_Pool_find_9 : decode prog_4_method_2_code 9 = .ok (.getfield 18, 3) := by decide +kernel
theorem d_Pool_find_12 : decode prog_4_method_2_code 12 = .ok (.iload_n 2, 1) := by decide +kernel
theorem d_Pool_find_13 : decode prog_4_method_2_code 13 = .ok (.invokestatic 22, 3) := by decide +kernel
theorem d_Pool_find_16 : decode prog_4_method_2_code 16 = .ok (.ifCond .eq 21, 3) := by decide +kernel
theorem d_Pool_find_19 : decode prog_4_method_2_code 19 = .ok (.aload_n 0, 1) := by decide +kernel
theorem d_Pool_find_20 : decode prog_4_method_2_code 20 = .ok (.getfield 11, 3) := by decide +kernel
theorem d_Pool_find_23 : decode prog_4_method_2_code 23 = .ok (.iload_n 2, 1) := by decide +kernel
theorem d_Pool_find_24 : decode prog_4_method_2_code 24 = .ok (.aaload, 1) := by decide +kernel
theorem d_Pool_find_25 : decode prog_4_method_2_code 25 = .ok (.getfield 26, 3) := by decide +kernel
theorem d_Pool_find_28 : decode prog_4_method_2_code 28 = .ok (.aload_n 1, 1) := by decide +kernel
theorem d_Pool_find_29 : decode prog_4_method_2_code 29 = .ok (.invokevirtual 30, 3) := by decide +kernel
theorem d_Pool_find_32 : decode prog_4_method_2_code 32 = .ok (.ifCond .eq 5, 3) := by decide +kernel
theorem d_Pool_find_35 : decode prog_4_method_2_code 35 = .ok (.iload_n 2, 1) := by decide +kernel
theorem d_Pool_find_36 : decode prog_4_method_2_code 36 = .ok (.ireturn, 1) := by decide +kernel
theorem d_Pool_find_37 : decode prog_4_method_2_code 37 = .ok (.iinc 2 1, 3) := by decide +kernel
theorem d_Pool_find_40 : decode prog_4_method_2_code 40 = .ok (.goto (-38), 3) := by decide +kernel
theorem d_Pool_find_43 : decode prog_4_method_2_code 43 = .ok (.iconst (-1), 1) := by decide +kernel
theorem d_Pool_find_44 : decode prog_4_method_2_code 44 = .ok (.ireturn, 1) := by decide +kernel
theorem d_Pool_isSpent_0 : decode prog_4_method_6_code 0 = .ok (.iconst 0, 1) := by decide +kernel
theorem d_Pool_isSpent_1 : decode prog_4_method_6_code 1 = .ok (.istore_n 2, 1) := by decide +kernel
theorem d_Pool_isSpent_2 : decode prog_4_method_6_code 2 = .ok (.iload_n 2, 1) := by decide +kernel
theorem d_Pool_isSpent_3 : decode prog_4_method_6_code 3 = .ok (.bipush 41, 2) := by decide +kernel
theorem d_Pool_isSpent_5 : decode prog_4_method_6_code 5 = .ok (.if_icmp .ge 38, 3) := by decide +kernel
theorem d_Pool_isSpent_8 : decode prog_4_method_6_code 8 = .ok (.aload_n 0, 1) := by decide +kernel
theorem d_Pool_isSpent_9 : decode prog_4_method_6_code 9 = .ok (.getfield 18, 3) := by decide +kernel
theorem d_Pool_isSpent_12 : decode prog_4_method_6_code 12 = .ok (.iload_n 2, 1) := by decide +kernel
theorem d_Pool_isSpent_13 : decode prog_4_method_6_code 13 = .ok (.invokestatic 22, 3) := by decide +kernel
theorem d_Pool_isSpent_16 : decode prog_4_method_6_code 16 = .ok (.ifCond .eq 21, 3) := by decide +kernel
theorem d_Pool_isSpent_19 : decode prog_4_method_6_code 19 = .ok (.aload_n 0, 1) := by decide +kernel
theorem d_Pool_isSpent_20 : decode prog_4_method_6_code 20 = .ok (.getfield 11, 3) := by decide +kernel
theorem d_Pool_isSpent_23 : decode prog_4_method_6_code 23 = .ok (.iload_n 2, 1) := by decide +kernel
theorem d_Pool_isSpent_24 : decode prog_4_method_6_code 24 = .ok (.aaload, 1) := by decide +kernel
theorem d_Pool_isSpent_25 : decode prog_4_method_6_code 25 = .ok (.getfield 36, 3) := by decide +kernel
theorem d_Pool_isSpent_28 : decode prog_4_method_6_code 28 = .ok (.aload_n 1, 1) := by decide +kernel
theorem d_Pool_isSpent_29 : decode prog_4_method_6_code 29 = .ok (.invokevirtual 68, 3) := by decide +kernel
theorem d_Pool_isSpent_32 : decode prog_4_method_6_code 32 = .ok (.ifCond .eq 5, 3) := by decide +kernel
theorem d_Pool_isSpent_35 : decode prog_4_method_6_code 35 = .ok (.iconst 1, 1) := by decide +kernel
theorem d_Pool_isSpent_36 : decode prog_4_method_6_code 36 = .ok (.ireturn, 1) := by decide +kernel
theorem d_Pool_isSpent_37 : decode prog_4_method_6_code 37 = .ok (.iinc 2 1, 3) := by decide +kernel
theorem d_Pool_isSpent_40 : decode prog_4_method_6_code 40 = .ok (.goto (-38), 3) := by decide +kernel
theorem d_Pool_isSpent_43 : decode prog_4_method_6_code 43 = .ok (.iconst 0, 1) := by decide +kernel
theorem d_Pool_isSpent_44 : decode prog_4_method_6_code 44 = .ok (.ireturn, 1) := by decide +kernel
theorem d_Pool_missesOutput_0 : decode prog_4_method_7_code 0 = .ok (.iconst 0, 1) := by decide +kernel
theorem d_Pool_missesOutput_1 : decode prog_4_method_7_code 1 = .ok (.istore 4, 2) := by decide +kernel
theorem d_Pool_missesOutput_3 : decode prog_4_method_7_code 3 = .ok (.iload 4, 2) := by decide +kernel
theorem d_Pool_missesOutput_5 : decode prog_4_method_7_code 5 = .ok (.bipush 41, 2) := by decide +kernel
theorem d_Pool_missesOutput_7 : decode prog_4_method_7_code 7 = .ok (.if_icmp .ge 62, 3) := by decide +kernel
theorem d_Pool_missesOutput_10 : decode prog_4_method_7_code 10 = .ok (.aload_n 0, 1) := by decide +kernel
theorem d_Pool_missesOutput_11 : decode prog_4_method_7_code 11 = .ok (.getfield 18, 3) := by decide +kernel
theorem d_Pool_missesOutput_14 : decode prog_4_method_7_code 14 = .ok (.iload 4, 2) := by decide +kernel
theorem d_Pool_missesOutput_16 : decode prog_4_method_7_code 16 = .ok (.invokestatic 22, 3) := by decide +kernel
theorem d_Pool_missesOutput_19 : decode prog_4_method_7_code 19 = .ok (.ifCond .eq 44, 3) := by decide +kernel
theorem d_Pool_missesOutput_22 : decode prog_4_method_7_code 22 = .ok (.aload_n 0, 1) := by decide +kernel
theorem d_Pool_missesOutput_23 : decode prog_4_method_7_code 23 = .ok (.getfield 11, 3) := by decide +kernel
theorem d_Pool_missesOutput_26 : decode prog_4_method_7_code 26 = .ok (.iload 4, 2) := by decide +kernel
theorem d_Pool_missesOutput_28 : decode prog_4_method_7_code 28 = .ok (.aaload, 1) := by decide +kernel
theorem d_Pool_missesOutput_29 : decode prog_4_method_7_code 29 = .ok (.astore 5, 2) := by decide +kernel
theorem d_Pool_missesOutput_31 : decode prog_4_method_7_code 31 = .ok (.aload_n 2, 1) := by decide +kernel
theorem d_Pool_missesOutput_32 : decode prog_4_method_7_code 32 = .ok (.aload 5, 2) := by decide +kernel
theorem d_Pool_missesOutput_34 : decode prog_4_method_7_code 34 = .ok (.getfield 26, 3) := by decide +kernel
theorem d_Pool_missesOutput_37 : decode prog_4_method_7_code 37 = .ok (.aload 5, 2) := by decide +kernel
theorem d_Pool_missesOutput_39 : decode prog_4_method_7_code 39 = .ok (.getfield 71, 3) := by decide +kernel
theorem d_Pool_missesOutput_42 : decode prog_4_method_7_code 42 = .ok (.invokevirtual 75, 3) := by decide +kernel
theorem d_Pool_missesOutput_45 : decode prog_4_method_7_code 45 = .ok (.ifCond .ne 16, 3) := by decide +kernel
theorem d_Pool_missesOutput_48 : decode prog_4_method_7_code 48 = .ok (.aload 5, 2) := by decide +kernel
theorem d_Pool_missesOutput_50 : decode prog_4_method_7_code 50 = .ok (.getfield 36, 3) := by decide +kernel
theorem d_Pool_missesOutput_53 : decode prog_4_method_7_code 53 = .ok (.aload_n 1, 1) := by decide +kernel
theorem d_Pool_missesOutput_54 : decode prog_4_method_7_code 54 = .ok (.iload_n 3, 1) := by decide +kernel
theorem d_Pool_missesOutput_55 : decode prog_4_method_7_code 55 = .ok (.invokevirtual 75, 3) := by decide +kernel
theorem d_Pool_missesOutput_58 : decode prog_4_method_7_code 58 = .ok (.ifCond .eq 5, 3) := by decide +kernel
theorem d_Pool_missesOutput_61 : decode prog_4_method_7_code 61 = .ok (.iconst 1, 1) := by decide +kernel
theorem d_Pool_missesOutput_62 : decode prog_4_method_7_code 62 = .ok (.ireturn, 1) := by decide +kernel
theorem d_Pool_missesOutput_63 : decode prog_4_method_7_code 63 = .ok (.iinc 4 1, 3) := by decide +kernel
theorem d_Pool_missesOutput_66 : decode prog_4_method_7_code 66 = .ok (.goto (-63), 3) := by decide +kernel
theorem d_Pool_missesOutput_69 : decode prog_4_method_7_code 69 = .ok (.iconst 0, 1) := by decide +kernel
theorem d_Pool_missesOutput_70 : decode prog_4_method_7_code 70 = .ok (.ireturn, 1) := by decide +kernel
theorem d_Pool_hangsOnItself_0 : decode prog_4_method_8_code 0 = .ok (.aload_n 2, 1) := by decide +kernel
theorem d_Pool_hangsOnItself_1 : decode prog_4_method_8_code 1 = .ok (.aload_n 1, 1) := by decide +kernel
theorem d_Pool_hangsOnItself_2 : decode prog_4_method_8_code 2 = .ok (.invokevirtual 78, 3) := by decide +kernel
theorem d_Pool_hangsOnItself_5 : decode prog_4_method_8_code 5 = .ok (.ifCond .ne 23, 3) := by decide +kernel
theorem d_Pool_hangsOnItself_8 : decode prog_4_method_8_code 8 = .ok (.aload_n 0, 1) := by decide +kernel
theorem d_Pool_hangsOnItself_9 : decode prog_4_method_8_code 9 = .ok (.aload_n 0, 1) := by decide +kernel
theorem d_Pool_hangsOnItself_10 : decode prog_4_method_8_code 10 = .ok (.aload_n 1, 1) := by decide +kernel
theorem d_Pool_hangsOnItself_11 : decode prog_4_method_8_code 11 = .ok (.invokevirtual 81, 3) := by decide +kernel
theorem d_Pool_hangsOnItself_14 : decode prog_4_method_8_code 14 = .ok (.invokevirtual 85, 3) := by decide +kernel
theorem d_Pool_hangsOnItself_17 : decode prog_4_method_8_code 17 = .ok (.aload_n 0, 1) := by decide +kernel
theorem d_Pool_hangsOnItself_18 : decode prog_4_method_8_code 18 = .ok (.aload_n 2, 1) := by decide +kernel
theorem d_Pool_hangsOnItself_19 : decode prog_4_method_8_code 19 = .ok (.invokevirtual 89, 3) := by decide +kernel
theorem d_Pool_hangsOnItself_22 : decode prog_4_method_8_code 22 = .ok (.land, 1) := by decide +kernel
theorem d_Pool_hangsOnItself_23 : decode prog_4_method_8_code 23 = .ok (.lconst 0, 1) := by decide +kernel
theorem d_Pool_hangsOnItself_24 : decode prog_4_method_8_code 24 = .ok (.lcmp, 1) := by decide +kernel
theorem d_Pool_hangsOnItself_25 : decode prog_4_method_8_code 25 = .ok (.ifCond .eq 7, 3) := by decide +kernel
theorem d_Pool_hangsOnItself_28 : decode prog_4_method_8_code 28 = .ok (.iconst 1, 1) := by decide +kernel
theorem d_Pool_hangsOnItself_29 : decode prog_4_method_8_code 29 = .ok (.goto 4, 3) := by decide +kernel
theorem d_Pool_hangsOnItself_32 : decode prog_4_method_8_code 32 = .ok (.iconst 0, 1) := by decide +kernel
theorem d_Pool_hangsOnItself_33 : decode prog_4_method_8_code 33 = .ok (.ireturn, 1) := by decide +kernel
theorem d_Pool_spendersOf_0 : decode prog_4_method_9_code 0 = .ok (.lconst 0, 1) := by decide +kernel
theorem d_Pool_spendersOf_1 : decode prog_4_method_9_code 1 = .ok (.lstore_n 2, 1) := by decide +kernel
theorem d_Pool_spendersOf_2 : decode prog_4_method_9_code 2 = .ok (.iconst 0, 1) := by decide +kernel
theorem d_Pool_spendersOf_3 : decode prog_4_method_9_code 3 = .ok (.istore 4, 2) := by decide +kernel
theorem d_Pool_spendersOf_5 : decode prog_4_method_9_code 5 = .ok (.iload 4, 2) := by decide +kernel
theorem d_Pool_spendersOf_7 : decode prog_4_method_9_code 7 = .ok (.bipush 41, 2) := by decide +kernel
theorem d_Pool_spendersOf_9 : decode prog_4_method_9_code 9 = .ok (.if_icmp .ge 46, 3) := by decide +kernel
theorem d_Pool_spendersOf_12 : decode prog_4_method_9_code 12 = .ok (.aload_n 0, 1) := by decide +kernel
theorem d_Pool_spendersOf_13 : decode prog_4_method_9_code 13 = .ok (.getfield 18, 3) := by decide +kernel
theorem d_Pool_spendersOf_16 : decode prog_4_method_9_code 16 = .ok (.iload 4, 2) := by decide +kernel
theorem d_Pool_spendersOf_18 : decode prog_4_method_9_code 18 = .ok (.invokestatic 22, 3) := by decide +kernel
theorem d_Pool_spendersOf_21 : decode prog_4_method_9_code 21 = .ok (.ifCond .eq 28, 3) := by decide +kernel
theorem d_Pool_spendersOf_24 : decode prog_4_method_9_code 24 = .ok (.aload_n 0, 1) := by decide +kernel
theorem d_Pool_spendersOf_25 : decode prog_4_method_9_code 25 = .ok (.getfield 11, 3) := by decide +kernel
theorem d_Pool_spendersOf_28 : decode prog_4_method_9_code 28 = .ok (.iload 4, 2) := by decide +kernel
theorem d_Pool_spendersOf_30 : decode prog_4_method_9_code 30 = .ok (.aaload, 1) := by decide +kernel
theorem d_Pool_spendersOf_31 : decode prog_4_method_9_code 31 = .ok (.getfield 36, 3) := by decide +kernel
theorem d_Pool_spendersOf_34 : decode prog_4_method_9_code 34 = .ok (.aload_n 1, 1) := by decide +kernel
theorem d_Pool_spendersOf_35 : decode prog_4_method_9_code 35 = .ok (.invokevirtual 78, 3) := by decide +kernel
theorem d_Pool_spendersOf_38 : decode prog_4_method_9_code 38 = .ok (.ifCond .eq 11, 3) := by decide +kernel
theorem d_Pool_spendersOf_41 : decode prog_4_method_9_code 41 = .ok (.lload_n 2, 1) := by decide +kernel
theorem d_Pool_spendersOf_42 : decode prog_4_method_9_code 42 = .ok (.iload 4, 2) := by decide +kernel
theorem d_Pool_spendersOf_44 : decode prog_4_method_9_code 44 = .ok (.invokestatic 93, 3) := by decide +kernel
theorem d_Pool_spendersOf_47 : decode prog_4_method_9_code 47 = .ok (.lor, 1) := by decide +kernel
theorem d_Pool_spendersOf_48 : decode prog_4_method_9_code 48 = .ok (.lstore_n 2, 1) := by decide +kernel
theorem d_Pool_spendersOf_49 : decode prog_4_method_9_code 49 = .ok (.iinc 4 1, 3) := by decide +kernel
theorem d_Pool_spendersOf_52 : decode prog_4_method_9_code 52 = .ok (.goto (-47), 3) := by decide +kernel
theorem d_Pool_spendersOf_55 : decode prog_4_method_9_code 55 = .ok (.lload_n 2, 1) := by decide +kernel
theorem d_Pool_spendersOf_56 : decode prog_4_method_9_code 56 = .ok (.lreturn, 1) := by decide +kernel
theorem d_Pool_family_0 : decode prog_4_method_13_code 0 = .ok (.lload_n 1, 1) := by decide +kernel
theorem d_Pool_family_1 : decode prog_4_method_13_code 1 = .ok (.lstore_n 3, 1) := by decide +kernel
theorem d_Pool_family_2 : decode prog_4_method_13_code 2 = .ok (.lload_n 1, 1) := by decide +kernel
theorem d_Pool_family_3 : decode prog_4_method_13_code 3 = .ok (.lstore 5, 2) := by decide +kernel
theorem d_Pool_family_5 : decode prog_4_method_13_code 5 = .ok (.iconst 0, 1) := by decide +kernel
theorem d_Pool_family_6 : decode prog_4_method_13_code 6 = .ok (.istore 7, 2) := by decide +kernel
theorem d_Pool_family_8 : decode prog_4_method_13_code 8 = .ok (.iload 7, 2) := by decide +kernel
theorem d_Pool_family_10 : decode prog_4_method_13_code 10 = .ok (.bipush 41, 2) := by decide +kernel
theorem d_Pool_family_12 : decode prog_4_method_13_code 12 = .ok (.if_icmp .ge 66, 3) := by decide +kernel
theorem d_Pool_family_15 : decode prog_4_method_13_code 15 = .ok (.lload 5, 2) := by decide +kernel
theorem d_Pool_family_17 : decode prog_4_method_13_code 17 = .ok (.invokestatic 48, 3) := by decide +kernel
theorem d_Pool_family_20 : decode prog_4_method_13_code 20 = .ok (.istore 8, 2) := by decide +kernel
theorem d_Pool_family_22 : decode prog_4_method_13_code 22 = .ok (.iload 8, 2) := by decide +kernel
theorem d_Pool_family_24 : decode prog_4_method_13_code 24 = .ok (.bipush 41, 2) := by decide +kernel
theorem d_Pool_family_26 : decode prog_4_method_13_code 26 = .ok (.if_icmp .lt 6, 3) := by decide +kernel
theorem d_Pool_family_29 : decode prog_4_method_13_code 29 = .ok (.goto 49, 3) := by decide +kernel
theorem d_Pool_family_32 : decode prog_4_method_13_code 32 = .ok (.aload_n 0, 1) := by decide +kernel
theorem d_Pool_family_33 : decode prog_4_method_13_code 33 = .ok (.getfield 11, 3) := by decide +kernel
theorem d_Pool_family_36 : decode prog_4_method_13_code 36 = .ok (.iload 8, 2) := by decide +kernel
theorem d_Pool_family_38 : decode prog_4_method_13_code 38 = .ok (.aaload, 1) := by decide +kernel
theorem d_Pool_family_39 : decode prog_4_method_13_code 39 = .ok (.getfield 120, 3) := by decide +kernel
theorem d_Pool_family_42 : decode prog_4_method_13_code 42 = .ok (.lload_n 3, 1) := by decide +kernel
theorem d_Pool_family_43 : decode prog_4_method_13_code 43 = .ok (.ldc2_w 46, 3) := by decide +kernel
theorem d_Pool_family_46 : decode prog_4_method_13_code 46 = .ok (.lxor, 1) := by decide +kernel
theorem d_Pool_family_47 : decode prog_4_method_13_code 47 = .ok (.land, 1) := by decide +kernel
theorem d_Pool_family_48 : decode prog_4_method_13_code 48 = .ok (.lstore 9, 2) := by decide +kernel
theorem d_Pool_family_50 : decode prog_4_method_13_code 50 = .ok (.lload_n 3, 1) := by decide +kernel
theorem d_Pool_family_51 : decode prog_4_method_13_code 51 = .ok (.lload 9, 2) := by decide +kernel
theorem d_Pool_family_53 : decode prog_4_method_13_code 53 = .ok (.lor, 1) := by decide +kernel
theorem d_Pool_family_54 : decode prog_4_method_13_code 54 = .ok (.lstore_n 3, 1) := by decide +kernel
theorem d_Pool_family_55 : decode prog_4_method_13_code 55 = .ok (.lload 5, 2) := by decide +kernel
theorem d_Pool_family_57 : decode prog_4_method_13_code 57 = .ok (.iload 8, 2) := by decide +kernel
theorem d_Pool_family_59 : decode prog_4_method_13_code 59 = .ok (.invokestatic 93, 3) := by decide +kernel
theorem d_Pool_family_62 : decode prog_4_method_13_code 62 = .ok (.ldc2_w 46, 3) := by decide +kernel
theorem d_Pool_family_65 : decode prog_4_method_13_code 65 = .ok (.lxor, 1) := by decide +kernel
theorem d_Pool_family_66 : decode prog_4_method_13_code 66 = .ok (.land, 1) := by decide +kernel
theorem d_Pool_family_67 : decode prog_4_method_13_code 67 = .ok (.lload 9, 2) := by decide +kernel
theorem d_Pool_family_69 : decode prog_4_method_13_code 69 = .ok (.lor, 1) := by decide +kernel
theorem d_Pool_family_70 : decode prog_4_method_13_code 70 = .ok (.lstore 5, 2) := by decide +kernel
theorem d_Pool_family_72 : decode prog_4_method_13_code 72 = .ok (.iinc 7 1, 3) := by decide +kernel
theorem d_Pool_family_75 : decode prog_4_method_13_code 75 = .ok (.goto (-67), 3) := by decide +kernel
theorem d_Pool_family_78 : decode prog_4_method_13_code 78 = .ok (.lload_n 3, 1) := by decide +kernel
theorem d_Pool_family_79 : decode prog_4_method_13_code 79 = .ok (.lreturn, 1) := by decide +kernel
theorem d_Pool_named_0 : decode prog_4_method_10_code 0 = .ok (.lconst 0, 1) := by decide +kernel
theorem d_Pool_named_1 : decode prog_4_method_10_code 1 = .ok (.lstore_n 2, 1) := by decide +kernel
theorem d_Pool_named_2 : decode prog_4_method_10_code 2 = .ok (.iconst 0, 1) := by decide +kernel
theorem d_Pool_named_3 : decode prog_4_method_10_code 3 = .ok (.istore 4, 2) := by decide +kernel
theorem d_Pool_named_5 : decode prog_4_method_10_code 5 = .ok (.iload 4, 2) := by decide +kernel
theorem d_Pool_named_7 : decode prog_4_method_10_code 7 = .ok (.bipush 41, 2) := by decide +kernel
theorem d_Pool_named_9 : decode prog_4_method_10_code 9 = .ok (.if_icmp .ge 46, 3) := by decide +kernel
theorem d_Pool_named_12 : decode prog_4_method_10_code 12 = .ok (.aload_n 0, 1) := by decide +kernel
theorem d_Pool_named_13 : decode prog_4_method_10_code 13 = .ok (.getfield 18, 3) := by decide +kernel
theorem d_Pool_named_16 : decode prog_4_method_10_code 16 = .ok (.iload 4, 2) := by decide +kernel
theorem d_Pool_named_18 : decode prog_4_method_10_code 18 = .ok (.invokestatic 22, 3) := by decide +kernel
theorem d_Pool_named_21 : decode prog_4_method_10_code 21 = .ok (.ifCond .eq 28, 3) := by decide +kernel
theorem d_Pool_named_24 : decode prog_4_method_10_code 24 = .ok (.aload_n 1, 1) := by decide +kernel
theorem d_Pool_named_25 : decode prog_4_method_10_code 25 = .ok (.aload_n 0, 1) := by decide +kernel
theorem d_Pool_named_26 : decode prog_4_method_10_code 26 = .ok (.getfield 11, 3) := by decide +kernel
theorem d_Pool_named_29 : decode prog_4_method_10_code 29 = .ok (.iload 4, 2) := by decide +kernel
theorem d_Pool_named_31 : decode prog_4_method_10_code 31 = .ok (.aaload, 1) := by decide +kernel
theorem d_Pool_named_32 : decode prog_4_method_10_code 32 = .ok (.getfield 26, 3) := by decide +kernel
theorem d_Pool_named_35 : decode prog_4_method_10_code 35 = .ok (.invokevirtual 78, 3) := by decide +kernel
theorem d_Pool_named_38 : decode prog_4_method_10_code 38 = .ok (.ifCond .eq 11, 3) := by decide +kernel
theorem d_Pool_named_41 : decode prog_4_method_10_code 41 = .ok (.lload_n 2, 1) := by decide +kernel
theorem d_Pool_named_42 : decode prog_4_method_10_code 42 = .ok (.iload 4, 2) := by decide +kernel
theorem d_Pool_named_44 : decode prog_4_method_10_code 44 = .ok (.invokestatic 93, 3) := by decide +kernel
theorem d_Pool_named_47 : decode prog_4_method_10_code 47 = .ok (.lor, 1) := by decide +kernel
theorem d_Pool_named_48 : decode prog_4_method_10_code 48 = .ok (.lstore_n 2, 1) := by decide +kernel
theorem d_Pool_named_49 : decode prog_4_method_10_code 49 = .ok (.iinc 4 1, 3) := by decide +kernel
theorem d_Pool_named_52 : decode prog_4_method_10_code 52 = .ok (.goto (-47), 3) := by decide +kernel
theorem d_Pool_named_55 : decode prog_4_method_10_code 55 = .ok (.lload_n 2, 1) := by decide +kernel
theorem d_Pool_named_56 : decode prog_4_method_10_code 56 = .ok (.lreturn, 1) := by decide +kernel
theorem d_Pool_freePlace_0 : decode prog_4_method_4_code 0 = .ok (.aload_n 0, 1) := by decide +kernel
theorem d_Pool_freePlace_1 : decode prog_4_method_4_code 1 = .ok (.getfield 18, 3) := by decide +kernel
theorem d_Pool_freePlace_4 : decode prog_4_method_4_code 4 = .ok (.ldc2_w 46, 3) := by decide +kernel
theorem d_Pool_freePlace_7 : decode prog_4_method_4_code 7 = .ok (.lxor, 1) := by decide +kernel
theorem d_Pool_freePlace_8 : decode prog_4_method_4_code 8 = .ok (.invokestatic 48, 3) := by decide +kernel
theorem d_Pool_freePlace_11 : decode prog_4_method_4_code 11 = .ok (.istore_n 1, 1) := by decide +kernel
theorem d_Pool_freePlace_12 : decode prog_4_method_4_code 12 = .ok (.iload_n 1, 1) := by decide +kernel
theorem d_Pool_freePlace_13 : decode prog_4_method_4_code 13 = .ok (.bipush 41, 2) := by decide +kernel
theorem d_Pool_freePlace_15 : decode prog_4_method_4_code 15 = .ok (.if_icmp .ge 7, 3) := by decide +kernel
theorem d_Pool_freePlace_18 : decode prog_4_method_4_code 18 = .ok (.iload_n 1, 1) := by decide +kernel
theorem d_Pool_freePlace_19 : decode prog_4_method_4_code 19 = .ok (.goto 4, 3) := by decide +kernel
theorem d_Pool_freePlace_22 : decode prog_4_method_4_code 22 = .ok (.iconst (-1), 1) := by decide +kernel
theorem d_Pool_freePlace_23 : decode prog_4_method_4_code 23 = .ok (.ireturn, 1) := by decide +kernel
theorem d_Pool_settle_0 : decode prog_4_method_11_code 0 = .ok (.aload_n 0, 1) := by decide +kernel
theorem d_Pool_settle_1 : decode prog_4_method_11_code 1 = .ok (.getfield 11, 3) := by decide +kernel
theorem d_Pool_settle_4 : decode prog_4_method_11_code 4 = .ok (.iload_n 1, 1) := by decide +kernel
theorem d_Pool_settle_5 : decode prog_4_method_11_code 5 = .ok (.aaload, 1) := by decide +kernel
theorem d_Pool_settle_6 : decode prog_4_method_11_code 6 = .ok (.astore 4, 2) := by decide +kernel
theorem d_Pool_settle_8 : decode prog_4_method_11_code 8 = .ok (.aload 4, 2) := by decide +kernel
theorem d_Pool_settle_10 : decode prog_4_method_11_code 10 = .ok (.getfield 26, 3) := by decide +kernel
theorem d_Pool_settle_13 : decode prog_4_method_11_code 13 = .ok (.aload_n 2, 1) := by decide +kernel
theorem d_Pool_settle_14 : decode prog_4_method_11_code 14 = .ok (.getfield 97, 3) := by decide +kernel
theorem d_Pool_settle_17 : decode prog_4_method_11_code 17 = .ok (.aload_n 2, 1) := by decide +kernel
theorem d_Pool_settle_18 : decode prog_4_method_11_code 18 = .ok (.getfield 100, 3) := by decide +kernel
theorem d_Pool_settle_21 : decode prog_4_method_11_code 21 = .ok (.aload_n 2, 1) := by decide +kernel
theorem d_Pool_settle_22 : decode prog_4_method_11_code 22 = .ok (.getfield 103, 3) := by decide +kernel
theorem d_Pool_settle_25 : decode prog_4_method_11_code 25 = .ok (.aload_n 2, 1) := by decide +kernel
theorem d_Pool_settle_26 : decode prog_4_method_11_code 26 = .ok (.getfield 106, 3) := by decide +kernel
theorem d_Pool_settle_29 : decode prog_4_method_11_code 29 = .ok (.invokevirtual 109, 3) := by decide +kernel
theorem d_Pool_settle_32 : decode prog_4_method_11_code 32 = .ok (.aload 4, 2) := by decide +kernel
theorem d_Pool_settle_34 : decode prog_4_method_11_code 34 = .ok (.getfield 36, 3) := by decide +kernel
theorem d_Pool_settle_37 : decode prog_4_method_11_code 37 = .ok (.aload_n 3, 1) := by decide +kernel
theorem d_Pool_settle_38 : decode prog_4_method_11_code 38 = .ok (.invokevirtual 113, 3) := by decide +kernel
theorem d_Pool_settle_41 : decode prog_4_method_11_code 41 = .ok (.aload 4, 2) := by decide +kernel
theorem d_Pool_settle_43 : decode prog_4_method_11_code 43 = .ok (.aload_n 0, 1) := by decide +kernel
theorem d_Pool_settle_44 : decode prog_4_method_11_code 44 = .ok (.aload_n 3, 1) := by decide +kernel
theorem d_Pool_settle_45 : decode prog_4_method_11_code 45 = .ok (.invokevirtual 89, 3) := by decide +kernel
theorem d_Pool_settle_48 : decode prog_4_method_11_code 48 = .ok (.putfield 117, 3) := by decide +kernel
theorem d_Pool_settle_51 : decode prog_4_method_11_code 51 = .ok (.aload 4, 2) := by decide +kernel
theorem d_Pool_settle_53 : decode prog_4_method_11_code 53 = .ok (.aload_n 0, 1) := by decide +kernel
theorem d_Pool_settle_54 : decode prog_4_method_11_code 54 = .ok (.aload_n 2, 1) := by decide +kernel
theorem d_Pool_settle_55 : decode prog_4_method_11_code 55 = .ok (.invokevirtual 81, 3) := by decide +kernel
theorem d_Pool_settle_58 : decode prog_4_method_11_code 58 = .ok (.putfield 120, 3) := by decide +kernel
theorem d_Pool_settle_61 : decode prog_4_method_11_code 61 = .ok (.aload_n 0, 1) := by decide +kernel
theorem d_Pool_settle_62 : decode prog_4_method_11_code 62 = .ok (.dup, 1) := by decide +kernel
theorem d_Pool_settle_63 : decode prog_4_method_11_code 63 = .ok (.getfield 123, 3) := by decide +kernel
theorem d_Pool_settle_66 : decode prog_4_method_11_code 66 = .ok (.iconst 1, 1) := by decide +kernel
theorem d_Pool_settle_67 : decode prog_4_method_11_code 67 = .ok (.iadd, 1) := by decide +kernel
theorem d_Pool_settle_68 : decode prog_4_method_11_code 68 = .ok (.putfield 123, 3) := by decide +kernel
theorem d_Pool_settle_71 : decode prog_4_method_11_code 71 = .ok (.aload 4, 2) := by decide +kernel
theorem d_Pool_settle_73 : decode prog_4_method_11_code 73 = .ok (.aload_n 0, 1) := by decide +kernel
theorem d_Pool_settle_74 : decode prog_4_method_11_code 74 = .ok (.getfield 123, 3) := by decide +kernel
theorem d_Pool_settle_77 : decode prog_4_method_11_code 77 = .ok (.putfield 126, 3) := by decide +kernel
theorem d_Pool_settle_80 : decode prog_4_method_11_code 80 = .ok (.aload_n 0, 1) := by decide +kernel
theorem d_Pool_settle_81 : decode prog_4_method_11_code 81 = .ok (.dup, 1) := by decide +kernel
theorem d_Pool_settle_82 : decode prog_4_method_11_code 82 = .ok (.getfield 18, 3) := by decide +kernel
theorem d_Pool_settle_85 : decode prog_4_method_11_code 85 = .ok (.iload_n 1, 1) := by decide +kernel
theorem d_Pool_settle_86 : decode prog_4_method_11_code 86 = .ok (.invokestatic 93, 3) := by decide +kernel
theorem d_Pool_settle_89 : decode prog_4_method_11_code 89 = .ok (.lor, 1) := by decide +kernel
theorem d_Pool_settle_90 : decode prog_4_method_11_code 90 = .ok (.putfield 18, 3) := by decide +kernel
theorem d_Pool_settle_93 : decode prog_4_method_11_code 93 = .ok (.iconst 0, 1) := by decide +kernel
theorem d_Pool_settle_94 : decode prog_4_method_11_code 94 = .ok (.istore 5, 2) := by decide +kernel
theorem d_Pool_settle_96 : decode prog_4_method_11_code 96 = .ok (.iload 5, 2) := by decide +kernel
theorem d_Pool_settle_98 : decode prog_4_method_11_code 98 = .ok (.bipush 41, 2) := by decide +kernel
theorem d_Pool_settle_100 : decode prog_4_method_11_code 100 = .ok (.if_icmp .ge 73, 3) := by decide +kernel
theorem d_Pool_settle_103 : decode prog_4_method_11_code 103 = .ok (.aload 4, 2) := by decide +kernel
theorem d_Pool_settle_105 : decode prog_4_method_11_code 105 = .ok (.getfield 117, 3) := by decide +kernel
theorem d_Pool_settle_108 : decode prog_4_method_11_code 108 = .ok (.iload 5, 2) := by decide +kernel
theorem d_Pool_settle_110 : decode prog_4_method_11_code 110 = .ok (.invokestatic 22, 3) := by decide +kernel
theorem d_Pool_settle_113 : decode prog_4_method_11_code 113 = .ok (.ifCond .eq 22, 3) := by decide +kernel
theorem d_Pool_settle_116 : decode prog_4_method_11_code 116 = .ok (.aload_n 0, 1) := by decide +kernel
theorem d_Pool_settle_117 : decode prog_4_method_11_code 117 = .ok (.getfield 11, 3) := by decide +kernel
theorem d_Pool_settle_120 : decode prog_4_method_11_code 120 = .ok (.iload 5, 2) := by decide +kernel
theorem d_Pool_settle_122 : decode prog_4_method_11_code 122 = .ok (.aaload, 1) := by decide +kernel
theorem d_Pool_settle_123 : decode prog_4_method_11_code 123 = .ok (.dup, 1) := by decide +kernel
theorem d_Pool_settle_124 : decode prog_4_method_11_code 124 = .ok (.getfield 120, 3) := by decide +kernel
theorem d_Pool_settle_127 : decode prog_4_method_11_code 127 = .ok (.iload_n 1, 1) := by decide +kernel
theorem d_Pool_settle_128 : decode prog_4_method_11_code 128 = .ok (.invokestatic 93, 3) := by decide +kernel
theorem d_Pool_settle_131 : decode prog_4_method_11_code 131 = .ok (.lor, 1) := by decide +kernel
theorem d_Pool_settle_132 : decode prog_4_method_11_code 132 = .ok (.putfield 120, 3) := by decide +kernel
theorem d_Pool_settle_135 : decode prog_4_method_11_code 135 = .ok (.aload 4, 2) := by decide +kernel
theorem d_Pool_settle_137 : decode prog_4_method_11_code 137 = .ok (.getfield 120, 3) := by decide +kernel
theorem d_Pool_settle_140 : decode prog_4_method_11_code 140 = .ok (.iload 5, 2) := by decide +kernel
theorem d_Pool_settle_142 : decode prog_4_method_11_code 142 = .ok (.invokestatic 22, 3) := by decide +kernel
theorem d_Pool_settle_145 : decode prog_4_method_11_code 145 = .ok (.ifCond .eq 22, 3) := by decide +kernel
theorem d_Pool_settle_148 : decode prog_4_method_11_code 148 = .ok (.aload_n 0, 1) := by decide +kernel
theorem d_Pool_settle_149 : decode prog_4_method_11_code 149 = .ok (.getfield 11, 3) := by decide +kernel
theorem d_Pool_settle_152 : decode prog_4_method_11_code 152 = .ok (.iload 5, 2) := by decide +kernel
theorem d_Pool_settle_154 : decode prog_4_method_11_code 154 = .ok (.aaload, 1) := by decide +kernel
theorem d_Pool_settle_155 : decode prog_4_method_11_code 155 = .ok (.dup, 1) := by decide +kernel
theorem d_Pool_settle_156 : decode prog_4_method_11_code 156 = .ok (.getfield 117, 3) := by decide +kernel
theorem d_Pool_settle_159 : decode prog_4_method_11_code 159 = .ok (.iload_n 1, 1) := by decide +kernel
theorem d_Pool_settle_160 : decode prog_4_method_11_code 160 = .ok (.invokestatic 93, 3) := by decide +kernel
theorem d_Pool_settle_163 : decode prog_4_method_11_code 163 = .ok (.lor, 1) := by decide +kernel
theorem d_Pool_settle_164 : decode prog_4_method_11_code 164 = .ok (.putfield 117, 3) := by decide +kernel
theorem d_Pool_settle_167 : decode prog_4_method_11_code 167 = .ok (.iinc 5 1, 3) := by decide +kernel
theorem d_Pool_settle_170 : decode prog_4_method_11_code 170 = .ok (.goto (-74), 3) := by decide +kernel
theorem d_Pool_settle_173 : decode prog_4_method_11_code 173 = .ok (.return_, 1) := by decide +kernel
theorem d_Pool_leastPaying_0 : decode prog_4_method_17_code 0 = .ok (.iconst (-1), 1) := by decide +kernel
theorem d_Pool_leastPaying_1 : decode prog_4_method_17_code 1 = .ok (.istore_n 1, 1) := by decide +kernel
theorem d_Pool_leastPaying_2 : decode prog_4_method_17_code 2 = .ok (.iconst 0, 1) := by decide +kernel
theorem d_Pool_leastPaying_3 : decode prog_4_method_17_code 3 = .ok (.istore_n 2, 1) := by decide +kernel
theorem d_Pool_leastPaying_4 : decode prog_4_method_17_code 4 = .ok (.lconst 0, 1) := by decide +kernel
theorem d_Pool_leastPaying_5 : decode prog_4_method_17_code 5 = .ok (.lstore_n 3, 1) := by decide +kernel
theorem d_Pool_leastPaying_6 : decode prog_4_method_17_code 6 = .ok (.iconst 0, 1) := by decide +kernel
theorem d_Pool_leastPaying_7 : decode prog_4_method_17_code 7 = .ok (.istore 5, 2) := by decide +kernel
theorem d_Pool_leastPaying_9 : decode prog_4_method_17_code 9 = .ok (.iconst 0, 1) := by decide +kernel
theorem d_Pool_leastPaying_10 : decode prog_4_method_17_code 10 = .ok (.istore 6, 2) := by decide +kernel
theorem d_Pool_leastPaying_12 : decode prog_4_method_17_code 12 = .ok (.iload 6, 2) := by decide +kernel
theorem d_Pool_leastPaying_14 : decode prog_4_method_17_code 14 = .ok (.bipush 41, 2) := by decide +kernel
theorem d_Pool_leastPaying_16 : decode prog_4_method_17_code 16 = .ok (.if_icmp .ge 115, 3) := by decide +kernel
theorem d_Pool_leastPaying_19 : decode prog_4_method_17_code 19 = .ok (.aload_n 0, 1) := by decide +kernel
theorem d_Pool_leastPaying_20 : decode prog_4_method_17_code 20 = .ok (.getfield 18, 3) := by decide +kernel
theorem d_Pool_leastPaying_23 : decode prog_4_method_17_code 23 = .ok (.iload 6, 2) := by decide +kernel
theorem d_Pool_leastPaying_25 : decode prog_4_method_17_code 25 = .ok (.invokestatic 22, 3) := by decide +kernel
theorem d_Pool_leastPaying_28 : decode prog_4_method_17_code 28 = .ok (.ifCond .ne 6, 3) := by decide +kernel
theorem d_Pool_leastPaying_31 : decode prog_4_method_17_code 31 = .ok (.goto 94, 3) := by decide +kernel
theorem d_Pool_leastPaying_34 : decode prog_4_method_17_code 34 = .ok (.aload_n 0, 1) := by decide +kernel
theorem d_Pool_leastPaying_35 : decode prog_4_method_17_code 35 = .ok (.iload 6, 2) := by decide +kernel
theorem d_Pool_leastPaying_37 : decode prog_4_method_17_code 37 = .ok (.invokestatic 93, 3) := by decide +kernel
theorem d_Pool_leastPaying_40 : decode prog_4_method_17_code 40 = .ok (.invokevirtual 85, 3) := by decide +kernel
theorem d_Pool_leastPaying_43 : decode prog_4_method_17_code 43 = .ok (.lstore 7, 2) := by decide +kernel
theorem d_Pool_leastPaying_45 : decode prog_4_method_17_code 45 = .ok (.aload_n 0, 1) := by decide +kernel
theorem d_Pool_leastPaying_46 : decode prog_4_method_17_code 46 = .ok (.lload 7, 2) := by decide +kernel
theorem d_Pool_leastPaying_48 : decode prog_4_method_17_code 48 = .ok (.invokevirtual 138, 3) := by decide +kernel
theorem d_Pool_leastPaying_51 : decode prog_4_method_17_code 51 = .ok (.lstore 9, 2) := by decide +kernel
theorem d_Pool_leastPaying_53 : decode prog_4_method_17_code 53 = .ok (.aload_n 0, 1) := by decide +kernel
theorem d_Pool_leastPaying_54 : decode prog_4_method_17_code 54 = .ok (.lload 7, 2) := by decide +kernel
theorem d_Pool_leastPaying_56 : decode prog_4_method_17_code 56 = .ok (.invokevirtual 141, 3) := by decide +kernel
theorem d_Pool_leastPaying_59 : decode prog_4_method_17_code 59 = .ok (.istore 11, 2) := by decide +kernel
theorem d_Pool_leastPaying_61 : decode prog_4_method_17_code 61 = .ok (.lload 9, 2) := by decide +kernel
theorem d_Pool_leastPaying_63 : decode prog_4_method_17_code 63 = .ok (.iload 11, 2) := by decide +kernel
theorem d_Pool_leastPaying_65 : decode prog_4_method_17_code 65 = .ok (.i2l, 1) := by decide +kernel
theorem d_Pool_leastPaying_66 : decode prog_4_method_17_code 66 = .ok (.lload_n 3, 1) := by decide +kernel
theorem d_Pool_leastPaying_67 : decode prog_4_method_17_code 67 = .ok (.iload 5, 2) := by decide +kernel
theorem d_Pool_leastPaying_69 : decode prog_4_method_17_code 69 = .ok (.i2l, 1) := by decide +kernel
theorem d_Pool_leastPaying_70 : decode prog_4_method_17_code 70 = .ok (.invokestatic 144, 3) := by decide +kernel
theorem d_Pool_leastPaying_73 : decode prog_4_method_17_code 73 = .ok (.istore 12, 2) := by decide +kernel
theorem d_Pool_leastPaying_75 : decode prog_4_method_17_code 75 = .ok (.iload_n 1, 1) := by decide +kernel
theorem d_Pool_leastPaying_76 : decode prog_4_method_17_code 76 = .ok (.iconst (-1), 1) := by decide +kernel
theorem d_Pool_leastPaying_77 : decode prog_4_method_17_code 77 = .ok (.if_icmp .eq 27, 3) := by decide +kernel
theorem d_Pool_leastPaying_80 : decode prog_4_method_17_code 80 = .ok (.iload 12, 2) := by decide +kernel
theorem d_Pool_leastPaying_82 : decode prog_4_method_17_code 82 = .ok (.ifCond .lt 22, 3) := by decide +kernel
theorem d_Pool_leastPaying_85 : decode prog_4_method_17_code 85 = .ok (.iload 12, 2) := by decide +kernel
theorem d_Pool_leastPaying_87 : decode prog_4_method_17_code 87 = .ok (.ifCond .ne 38, 3) := by decide +kernel
theorem d_Pool_leastPaying_90 : decode prog_4_method_17_code 90 = .ok (.aload_n 0, 1) := by decide +kernel
theorem d_Pool_leastPaying_91 : decode prog_4_method_17_code 91 = .ok (.getfield 11, 3) := by decide +kernel
theorem d_Pool_leastPaying_94 : decode prog_4_method_17_code 94 = .ok (.iload 6, 2) := by decide +kernel
theorem d_Pool_leastPaying_96 : decode prog_4_method_17_code 96 = .ok (.aaload, 1) := by decide +kernel
theorem d_Pool_leastPaying_97 : decode prog_4_method_17_code 97 = .ok (.getfield 126, 3) := by decide +kernel
theorem d_Pool_leastPaying_100 : decode prog_4_method_17_code 100 = .ok (.iload_n 2, 1) := by decide +kernel
theorem d_Pool_leastPaying_101 : decode prog_4_method_17_code 101 = .ok (.if_icmp .le 24, 3) := by decide +kernel
theorem d_Pool_leastPaying_104 : decode prog_4_method_17_code 104 = .ok (.iload 6, 2) := by decide +kernel
theorem d_Pool_leastPaying_106 : decode prog_4_method_17_code 106 = .ok (.istore_n 1, 1) := by decide +kernel
theorem d_Pool_leastPaying_107 : decode prog_4_method_17_code 107 = .ok (.aload_n 0, 1) := by decide +kernel
theorem d_Pool_leastPaying_108 : decode prog_4_method_17_code 108 = .ok (.getfield 11, 3) := by decide +kernel
theorem d_Pool_leastPaying_111 : decode prog_4_method_17_code 111 = .ok (.iload 6, 2) := by decide +kernel
theorem d_Pool_leastPaying_113 : decode prog_4_method_17_code 113 = .ok (.aaload, 1) := by decide +kernel
theorem d_Pool_leastPaying_114 : decode prog_4_method_17_code 114 = .ok (.getfield 126, 3) := by decide +kernel
theorem d_Pool_leastPaying_117 : decode prog_4_method_17_code 117 = .ok (.istore_n 2, 1) := by decide +kernel
theorem d_Pool_leastPaying_118 : decode prog_4_method_17_code 118 = .ok (.lload 9, 2) := by decide +kernel
theorem d_Pool_leastPaying_120 : decode prog_4_method_17_code 120 = .ok (.lstore_n 3, 1) := by decide +kernel
theorem d_Pool_leastPaying_121 : decode prog_4_method_17_code 121 = .ok (.iload 11, 2) := by decide +kernel
theorem d_Pool_leastPaying_123 : decode prog_4_method_17_code 123 = .ok (.istore 5, 2) := by decide +kernel
theorem d_Pool_leastPaying_125 : decode prog_4_method_17_code 125 = .ok (.iinc 6 1, 3) := by decide +kernel
theorem d_Pool_leastPaying_128 : decode prog_4_method_17_code 128 = .ok (.goto (-116), 3) := by decide +kernel
theorem d_Pool_leastPaying_131 : decode prog_4_method_17_code 131 = .ok (.iload_n 1, 1) := by decide +kernel
theorem d_Pool_leastPaying_132 : decode prog_4_method_17_code 132 = .ok (.ireturn, 1) := by decide +kernel
theorem d_Pool_sumOfFees_0 : decode prog_4_method_14_code 0 = .ok (.lconst 0, 1) := by decide +kernel
theorem d_Pool_sumOfFees_1 : decode prog_4_method_14_code 1 = .ok (.lstore_n 3, 1) := by decide +kernel
theorem d_Pool_sumOfFees_2 : decode prog_4_method_14_code 2 = .ok (.iconst 0, 1) := by decide +kernel
theorem d_Pool_sumOfFees_3 : decode prog_4_method_14_code 3 = .ok (.istore 5, 2) := by decide +kernel
theorem d_Pool_sumOfFees_5 : decode prog_4_method_14_code 5 = .ok (.iload 5, 2) := by decide +kernel
theorem d_Pool_sumOfFees_7 : decode prog_4_method_14_code 7 = .ok (.bipush 41, 2) := by decide +kernel
theorem d_Pool_sumOfFees_9 : decode prog_4_method_14_code 9 = .ok (.if_icmp .ge 31, 3) := by decide +kernel
theorem d_Pool_sumOfFees_12 : decode prog_4_method_14_code 12 = .ok (.lload_n 1, 1) := by decide +kernel
theorem d_Pool_sumOfFees_13 : decode prog_4_method_14_code 13 = .ok (.iload 5, 2) := by decide +kernel
theorem d_Pool_sumOfFees_15 : decode prog_4_method_14_code 15 = .ok (.invokestatic 22, 3) := by decide +kernel
theorem d_Pool_sumOfFees_18 : decode prog_4_method_14_code 18 = .ok (.ifCond .eq 16, 3) := by decide +kernel
theorem d_Pool_sumOfFees_21 : decode prog_4_method_14_code 21 = .ok (.lload_n 3, 1) := by decide +kernel
theorem d_Pool_sumOfFees_22 : decode prog_4_method_14_code 22 = .ok (.aload_n 0, 1) := by decide +kernel
theorem d_Pool_sumOfFees_23 : decode prog_4_method_14_code 23 = .ok (.getfield 11, 3) := by decide +kernel
theorem d_Pool_sumOfFees_26 : decode prog_4_method_14_code 26 = .ok (.iload 5, 2) := by decide +kernel
theorem d_Pool_sumOfFees_28 : decode prog_4_method_14_code 28 = .ok (.aaload, 1) := by decide +kernel
theorem d_Pool_sumOfFees_29 : decode prog_4_method_14_code 29 = .ok (.getfield 129, 3) := by decide +kernel
theorem d_Pool_sumOfFees_32 : decode prog_4_method_14_code 32 = .ok (.ladd, 1) := by decide +kernel
theorem d_Pool_sumOfFees_33 : decode prog_4_method_14_code 33 = .ok (.lstore_n 3, 1) := by decide +kernel
theorem d_Pool_sumOfFees_34 : decode prog_4_method_14_code 34 = .ok (.iinc 5 1, 3) := by decide +kernel
theorem d_Pool_sumOfFees_37 : decode prog_4_method_14_code 37 = .ok (.goto (-32), 3) := by decide +kernel
theorem d_Pool_sumOfFees_40 : decode prog_4_method_14_code 40 = .ok (.lload_n 3, 1) := by decide +kernel
theorem d_Pool_sumOfFees_41 : decode prog_4_method_14_code 41 = .ok (.lreturn, 1) := by decide +kernel
theorem d_Pool_sumOfSizes_0 : decode prog_4_method_15_code 0 = .ok (.iconst 0, 1) := by decide +kernel
theorem d_Pool_sumOfSizes_1 : decode prog_4_method_15_code 1 = .ok (.istore_n 3, 1) := by decide +kernel
theorem d_Pool_sumOfSizes_2 : decode prog_4_method_15_code 2 = .ok (.iconst 0, 1) := by decide +kernel
theorem d_Pool_sumOfSizes_3 : decode prog_4_method_15_code 3 = .ok (.istore 4, 2) := by decide +kernel
theorem d_Pool_sumOfSizes_5 : decode prog_4_method_15_code 5 = .ok (.iload 4, 2) := by decide +kernel
theorem d_Pool_sumOfSizes_7 : decode prog_4_method_15_code 7 = .ok (.bipush 41, 2) := by decide +kernel
theorem d_Pool_sumOfSizes_9 : decode prog_4_method_15_code 9 = .ok (.if_icmp .ge 31, 3) := by decide +kernel
theorem d_Pool_sumOfSizes_12 : decode prog_4_method_15_code 12 = .ok (.lload_n 1, 1) := by decide +kernel
theorem d_Pool_sumOfSizes_13 : decode prog_4_method_15_code 13 = .ok (.iload 4, 2) := by decide +kernel
theorem d_Pool_sumOfSizes_15 : decode prog_4_method_15_code 15 = .ok (.invokestatic 22, 3) := by decide +kernel
theorem d_Pool_sumOfSizes_18 : decode prog_4_method_15_code 18 = .ok (.ifCond .eq 16, 3) := by decide +kernel
theorem d_Pool_sumOfSizes_21 : decode prog_4_method_15_code 21 = .ok (.iload_n 3, 1) := by decide +kernel
theorem d_Pool_sumOfSizes_22 : decode prog_4_method_15_code 22 = .ok (.aload_n 0, 1) := by decide +kernel
theorem d_Pool_sumOfSizes_23 : decode prog_4_method_15_code 23 = .ok (.getfield 11, 3) := by decide +kernel
theorem d_Pool_sumOfSizes_26 : decode prog_4_method_15_code 26 = .ok (.iload 4, 2) := by decide +kernel
theorem d_Pool_sumOfSizes_28 : decode prog_4_method_15_code 28 = .ok (.aaload, 1) := by decide +kernel
theorem d_Pool_sumOfSizes_29 : decode prog_4_method_15_code 29 = .ok (.getfield 132, 3) := by decide +kernel
theorem d_Pool_sumOfSizes_32 : decode prog_4_method_15_code 32 = .ok (.iadd, 1) := by decide +kernel
theorem d_Pool_sumOfSizes_33 : decode prog_4_method_15_code 33 = .ok (.istore_n 3, 1) := by decide +kernel
theorem d_Pool_sumOfSizes_34 : decode prog_4_method_15_code 34 = .ok (.iinc 4 1, 3) := by decide +kernel
theorem d_Pool_sumOfSizes_37 : decode prog_4_method_15_code 37 = .ok (.goto (-32), 3) := by decide +kernel
theorem d_Pool_sumOfSizes_40 : decode prog_4_method_15_code 40 = .ok (.iload_n 3, 1) := by decide +kernel
theorem d_Pool_sumOfSizes_41 : decode prog_4_method_15_code 41 = .ok (.ireturn, 1) := by decide +kernel
theorem d_Pool_remove_0 : decode prog_4_method_12_code 0 = .ok (.aload_n 0, 1) := by decide +kernel
theorem d_Pool_remove_1 : decode prog_4_method_12_code 1 = .ok (.dup, 1) := by decide +kernel
theorem d_Pool_remove_2 : decode prog_4_method_12_code 2 = .ok (.getfield 18, 3) := by decide +kernel
theorem d_Pool_remove_5 : decode prog_4_method_12_code 5 = .ok (.lload_n 1, 1) := by decide +kernel
theorem d_Pool_remove_6 : decode prog_4_method_12_code 6 = .ok (.ldc2_w 46, 3) := by decide +kernel
theorem d_Pool_remove_9 : decode prog_4_method_12_code 9 = .ok (.lxor, 1) := by decide +kernel
theorem d_Pool_remove_10 : decode prog_4_method_12_code 10 = .ok (.land, 1) := by decide +kernel
theorem d_Pool_remove_11 : decode prog_4_method_12_code 11 = .ok (.putfield 18, 3) := by decide +kernel
theorem d_Pool_remove_14 : decode prog_4_method_12_code 14 = .ok (.iconst 0, 1) := by decide +kernel
theorem d_Pool_remove_15 : decode prog_4_method_12_code 15 = .ok (.istore_n 3, 1) := by decide +kernel
theorem d_Pool_remove_16 : decode prog_4_method_12_code 16 = .ok (.iload_n 3, 1) := by decide +kernel
theorem d_Pool_remove_17 : decode prog_4_method_12_code 17 = .ok (.bipush 41, 2) := by decide +kernel
theorem d_Pool_remove_19 : decode prog_4_method_12_code 19 = .ok (.if_icmp .ge 47, 3) := by decide +kernel
theorem d_Pool_remove_22 : decode prog_4_method_12_code 22 = .ok (.aload_n 0, 1) := by decide +kernel
theorem d_Pool_remove_23 : decode prog_4_method_12_code 23 = .ok (.getfield 11, 3) := by decide +kernel
theorem d_Pool_remove_26 : decode prog_4_method_12_code 26 = .ok (.iload_n 3, 1) := by decide +kernel
theorem d_Pool_remove_27 : decode prog_4_method_12_code 27 = .ok (.aaload, 1) := by decide +kernel
theorem d_Pool_remove_28 : decode prog_4_method_12_code 28 = .ok (.dup, 1) := by decide +kernel
theorem d_Pool_remove_29 : decode prog_4_method_12_code 29 = .ok (.getfield 117, 3) := by decide +kernel
theorem d_Pool_remove_32 : decode prog_4_method_12_code 32 = .ok (.lload_n 1, 1) := by decide +kernel
theorem d_Pool_remove_33 : decode prog_4_method_12_code 33 = .ok (.ldc2_w 46, 3) := by decide +kernel
theorem d_Pool_remove_36 : decode prog_4_method_12_code 36 = .ok (.lxor, 1) := by decide +kernel
theorem d_Pool_remove_37 : decode prog_4_method_12_code 37 = .ok (.land, 1) := by decide +kernel
theorem d_Pool_remove_38 : decode prog_4_method_12_code 38 = .ok (.putfield 117, 3) := by decide +kernel
theorem d_Pool_remove_41 : decode prog_4_method_12_code 41 = .ok (.aload_n 0, 1) := by decide +kernel
theorem d_Pool_remove_42 : decode prog_4_method_12_code 42 = .ok (.getfield 11, 3) := by decide +kernel
theorem d_Pool_remove_45 : decode prog_4_method_12_code 45 = .ok (.iload_n 3, 1) := by decide +kernel
theorem d_Pool_remove_46 : decode prog_4_method_12_code 46 = .ok (.aaload, 1) := by decide +kernel
theorem d_Pool_remove_47 : decode prog_4_method_12_code 47 = .ok (.dup, 1) := by decide +kernel
theorem d_Pool_remove_48 : decode prog_4_method_12_code 48 = .ok (.getfield 120, 3) := by decide +kernel
theorem d_Pool_remove_51 : decode prog_4_method_12_code 51 = .ok (.lload_n 1, 1) := by decide +kernel
theorem d_Pool_remove_52 : decode prog_4_method_12_code 52 = .ok (.ldc2_w 46, 3) := by decide +kernel
theorem d_Pool_remove_55 : decode prog_4_method_12_code 55 = .ok (.lxor, 1) := by decide +kernel
theorem d_Pool_remove_56 : decode prog_4_method_12_code 56 = .ok (.land, 1) := by decide +kernel
theorem d_Pool_remove_57 : decode prog_4_method_12_code 57 = .ok (.putfield 120, 3) := by decide +kernel
theorem d_Pool_remove_60 : decode prog_4_method_12_code 60 = .ok (.iinc 3 1, 3) := by decide +kernel
theorem d_Pool_remove_63 : decode prog_4_method_12_code 63 = .ok (.goto (-47), 3) := by decide +kernel
theorem d_Pool_remove_66 : decode prog_4_method_12_code 66 = .ok (.return_, 1) := by decide +kernel
theorem d_Pool_findSpender_0 : decode prog_4_method_3_code 0 = .ok (.iconst 0, 1) := by decide +kernel
theorem d_Pool_findSpender_1 : decode prog_4_method_3_code 1 = .ok (.istore_n 3, 1) := by decide +kernel
theorem d_Pool_findSpender_2 : decode prog_4_method_3_code 2 = .ok (.iload_n 3, 1) := by decide +kernel
theorem d_Pool_findSpender_3 : decode prog_4_method_3_code 3 = .ok (.bipush 41, 2) := by decide +kernel
theorem d_Pool_findSpender_5 : decode prog_4_method_3_code 5 = .ok (.if_icmp .ge 39, 3) := by decide +kernel
theorem d_Pool_findSpender_8 : decode prog_4_method_3_code 8 = .ok (.aload_n 0, 1) := by decide +kernel
theorem d_Pool_findSpender_9 : decode prog_4_method_3_code 9 = .ok (.getfield 18, 3) := by decide +kernel
theorem d_Pool_findSpender_12 : decode prog_4_method_3_code 12 = .ok (.iload_n 3, 1) := by decide +kernel
theorem d_Pool_findSpender_13 : decode prog_4_method_3_code 13 = .ok (.invokestatic 22, 3) := by decide +kernel
theorem d_Pool_findSpender_16 : decode prog_4_method_3_code 16 = .ok (.ifCond .eq 22, 3) := by decide +kernel
theorem d_Pool_findSpender_19 : decode prog_4_method_3_code 19 = .ok (.aload_n 0, 1) := by decide +kernel
theorem d_Pool_findSpender_20 : decode prog_4_method_3_code 20 = .ok (.getfield 11, 3) := by decide +kernel
theorem d_Pool_findSpender_23 : decode prog_4_method_3_code 23 = .ok (.iload_n 3, 1) := by decide +kernel
theorem d_Pool_findSpender_24 : decode prog_4_method_3_code 24 = .ok (.aaload, 1) := by decide +kernel
theorem d_Pool_findSpender_25 : decode prog_4_method_3_code 25 = .ok (.getfield 36, 3) := by decide +kernel
theorem d_Pool_findSpender_28 : decode prog_4_method_3_code 28 = .ok (.aload_n 1, 1) := by decide +kernel
theorem d_Pool_findSpender_29 : decode prog_4_method_3_code 29 = .ok (.iload_n 2, 1) := by decide +kernel
theorem d_Pool_findSpender_30 : decode prog_4_method_3_code 30 = .ok (.invokevirtual 40, 3) := by decide +kernel
theorem d_Pool_findSpender_33 : decode prog_4_method_3_code 33 = .ok (.ifCond .eq 5, 3) := by decide +kernel
theorem d_Pool_findSpender_36 : decode prog_4_method_3_code 36 = .ok (.iload_n 3, 1) := by decide +kernel
theorem d_Pool_findSpender_37 : decode prog_4_method_3_code 37 = .ok (.ireturn, 1) := by decide +kernel
theorem d_Pool_findSpender_38 : decode prog_4_method_3_code 38 = .ok (.iinc 3 1, 3) := by decide +kernel
theorem d_Pool_findSpender_41 : decode prog_4_method_3_code 41 = .ok (.goto (-39), 3) := by decide +kernel
theorem d_Pool_findSpender_44 : decode prog_4_method_3_code 44 = .ok (.iconst (-1), 1) := by decide +kernel
theorem d_Pool_findSpender_45 : decode prog_4_method_3_code 45 = .ok (.ireturn, 1) := by decide +kernel
theorem d_Pool_bestPaying_0 : decode prog_4_method_18_code 0 = .ok (.iconst (-1), 1) := by decide +kernel
theorem d_Pool_bestPaying_1 : decode prog_4_method_18_code 1 = .ok (.istore 4, 2) := by decide +kernel
theorem d_Pool_bestPaying_3 : decode prog_4_method_18_code 3 = .ok (.iconst 0, 1) := by decide +kernel
theorem d_Pool_bestPaying_4 : decode prog_4_method_18_code 4 = .ok (.istore 5, 2) := by decide +kernel
theorem d_Pool_bestPaying_6 : decode prog_4_method_18_code 6 = .ok (.iload 5, 2) := by decide +kernel
theorem d_Pool_bestPaying_8 : decode prog_4_method_18_code 8 = .ok (.bipush 41, 2) := by decide +kernel
theorem d_Pool_bestPaying_10 : decode prog_4_method_18_code 10 = .ok (.if_icmp .ge 101, 3) := by decide +kernel
theorem d_Pool_bestPaying_13 : decode prog_4_method_18_code 13 = .ok (.aload_n 0, 1) := by decide +kernel
theorem d_Pool_bestPaying_14 : decode prog_4_method_18_code 14 = .ok (.getfield 18, 3) := by decide +kernel
theorem d_Pool_bestPaying_17 : decode prog_4_method_18_code 17 = .ok (.lload_n 1, 1) := by decide +kernel
theorem d_Pool_bestPaying_18 : decode prog_4_method_18_code 18 = .ok (.ldc2_w 46, 3) := by decide +kernel
theorem d_Pool_bestPaying_21 : decode prog_4_method_18_code 21 = .ok (.lxor, 1) := by decide +kernel
theorem d_Pool_bestPaying_22 : decode prog_4_method_18_code 22 = .ok (.land, 1) := by decide +kernel
theorem d_Pool_bestPaying_23 : decode prog_4_method_18_code 23 = .ok (.iload 5, 2) := by decide +kernel
theorem d_Pool_bestPaying_25 : decode prog_4_method_18_code 25 = .ok (.invokestatic 22, 3) := by decide +kernel
theorem d_Pool_bestPaying_28 : decode prog_4_method_18_code 28 = .ok (.ifCond .ne 6, 3) := by decide +kernel
theorem d_Pool_bestPaying_31 : decode prog_4_method_18_code 31 = .ok (.goto 74, 3) := by decide +kernel
theorem d_Pool_bestPaying_34 : decode prog_4_method_18_code 34 = .ok (.aload_n 0, 1) := by decide +kernel
theorem d_Pool_bestPaying_35 : decode prog_4_method_18_code 35 = .ok (.getfield 11, 3) := by decide +kernel
theorem d_Pool_bestPaying_38 : decode prog_4_method_18_code 38 = .ok (.iload 5, 2) := by decide +kernel
theorem d_Pool_bestPaying_40 : decode prog_4_method_18_code 40 = .ok (.aaload, 1) := by decide +kernel
theorem d_Pool_bestPaying_41 : decode prog_4_method_18_code 41 = .ok (.astore 6, 2) := by decide +kernel
theorem d_Pool_bestPaying_43 : decode prog_4_method_18_code 43 = .ok (.aload 6, 2) := by decide +kernel
theorem d_Pool_bestPaying_45 : decode prog_4_method_18_code 45 = .ok (.getfield 117, 3) := by decide +kernel
theorem d_Pool_bestPaying_48 : decode prog_4_method_18_code 48 = .ok (.lload_n 1, 1) := by decide +kernel
theorem d_Pool_bestPaying_49 : decode prog_4_method_18_code 49 = .ok (.ldc2_w 46, 3) := by decide +kernel
theorem d_Pool_bestPaying_52 : decode prog_4_method_18_code 52 = .ok (.lxor, 1) := by decide +kernel
theorem d_Pool_bestPaying_53 : decode prog_4_method_18_code 53 = .ok (.land, 1) := by decide +kernel
theorem d_Pool_bestPaying_54 : decode prog_4_method_18_code 54 = .ok (.lconst 0, 1) := by decide +kernel
theorem d_Pool_bestPaying_55 : decode prog_4_method_18_code 55 = .ok (.lcmp, 1) := by decide +kernel
theorem d_Pool_bestPaying_56 : decode prog_4_method_18_code 56 = .ok (.ifCond .ne 16, 3) := by decide +kernel
theorem d_Pool_bestPaying_59 : decode prog_4_method_18_code 59 = .ok (.aload 6, 2) := by decide +kernel
theorem d_Pool_bestPaying_61 : decode prog_4_method_18_code 61 = .ok (.getfield 132, 3) := by decide +kernel
theorem d_Pool_bestPaying_64 : decode prog_4_method_18_code 64 = .ok (.iload_n 3, 1) := by decide +kernel
theorem d_Pool_bestPaying_65 : decode prog_4_method_18_code 65 = .ok (.if_icmp .gt 7, 3) := by decide +kernel
theorem d_Pool_bestPaying_68 : decode prog_4_method_18_code 68 = .ok (.iconst 1, 1) := by decide +kernel
theorem d_Pool_bestPaying_69 : decode prog_4_method_18_code 69 = .ok (.goto 4, 3) := by decide +kernel
theorem d_Pool_bestPaying_72 : decode prog_4_method_18_code 72 = .ok (.iconst 0, 1) := by decide +kernel
theorem d_Pool_bestPaying_73 : decode prog_4_method_18_code 73 = .ok (.istore 7, 2) := by decide +kernel
theorem d_Pool_bestPaying_75 : decode prog_4_method_18_code 75 = .ok (.iload 7, 2) := by decide +kernel
theorem d_Pool_bestPaying_77 : decode prog_4_method_18_code 77 = .ok (.ifCond .eq 28, 3) := by decide +kernel
theorem d_Pool_bestPaying_80 : decode prog_4_method_18_code 80 = .ok (.iload 4, 2) := by decide +kernel
theorem d_Pool_bestPaying_82 : decode prog_4_method_18_code 82 = .ok (.iconst (-1), 1) := by decide +kernel
theorem d_Pool_bestPaying_83 : decode prog_4_method_18_code 83 = .ok (.if_icmp .eq 18, 3) := by decide +kernel
theorem d_Pool_bestPaying_86 : decode prog_4_method_18_code 86 = .ok (.aload 6, 2) := by decide +kernel
theorem d_Pool_bestPaying_88 : decode prog_4_method_18_code 88 = .ok (.aload_n 0, 1) := by decide +kernel
theorem d_Pool_bestPaying_89 : decode prog_4_method_18_code 89 = .ok (.getfield 11, 3) := by decide +kernel
theorem d_Pool_bestPaying_92 : decode prog_4_method_18_code 92 = .ok (.iload 4, 2) := by decide +kernel
theorem d_Pool_bestPaying_94 : decode prog_4_method_18_code 94 = .ok (.aaload, 1) := by decide +kernel
theorem d_Pool_bestPaying_95 : decode prog_4_method_18_code 95 = .ok (.invokestatic 148, 3) := by decide +kernel
theorem d_Pool_bestPaying_98 : decode prog_4_method_18_code 98 = .ok (.ifCond .eq 7, 3) := by decide +kernel
theorem d_Pool_bestPaying_101 : decode prog_4_method_18_code 101 = .ok (.iload 5, 2) := by decide +kernel
theorem d_Pool_bestPaying_103 : decode prog_4_method_18_code 103 = .ok (.istore 4, 2) := by decide +kernel
theorem d_Pool_bestPaying_105 : decode prog_4_method_18_code 105 = .ok (.iinc 5 1, 3) := by decide +kernel
theorem d_Pool_bestPaying_108 : decode prog_4_method_18_code 108 = .ok (.goto (-102), 3) := by decide +kernel
theorem d_Pool_bestPaying_111 : decode prog_4_method_18_code 111 = .ok (.iload 4, 2) := by decide +kernel
theorem d_Pool_bestPaying_113 : decode prog_4_method_18_code 113 = .ok (.ireturn, 1) := by decide +kernel
theorem d_Pool_paysBetter_0 : decode prog_4_method_19_code 0 = .ok (.aload_n 0, 1) := by decide +kernel
theorem d_Pool_paysBetter_1 : decode prog_4_method_19_code 1 = .ok (.getfield 129, 3) := by decide +kernel
theorem d_Pool_paysBetter_4 : decode prog_4_method_19_code 4 = .ok (.aload_n 0, 1) := by decide +kernel
theorem d_Pool_paysBetter_5 : decode prog_4_method_19_code 5 = .ok (.getfield 132, 3) := by decide +kernel
theorem d_Pool_paysBetter_8 : decode prog_4_method_19_code 8 = .ok (.i2l, 1) := by decide +kernel
theorem d_Pool_paysBetter_9 : decode prog_4_method_19_code 9 = .ok (.aload_n 1, 1) := by decide +kernel
theorem d_Pool_paysBetter_10 : decode prog_4_method_19_code 10 = .ok (.getfield 129, 3) := by decide +kernel
theorem d_Pool_paysBetter_13 : decode prog_4_method_19_code 13 = .ok (.aload_n 1, 1) := by decide +kernel
theorem d_Pool_paysBetter_14 : decode prog_4_method_19_code 14 = .ok (.getfield 132, 3) := by decide +kernel
theorem d_Pool_paysBetter_17 : decode prog_4_method_19_code 17 = .ok (.i2l, 1) := by decide +kernel
theorem d_Pool_paysBetter_18 : decode prog_4_method_19_code 18 = .ok (.invokestatic 144, 3) := by decide +kernel
theorem d_Pool_paysBetter_21 : decode prog_4_method_19_code 21 = .ok (.istore_n 2, 1) := by decide +kernel
theorem d_Pool_paysBetter_22 : decode prog_4_method_19_code 22 = .ok (.iload_n 2, 1) := by decide +kernel
theorem d_Pool_paysBetter_23 : decode prog_4_method_19_code 23 = .ok (.ifCond .gt 18, 3) := by decide +kernel
theorem d_Pool_paysBetter_26 : decode prog_4_method_19_code 26 = .ok (.iload_n 2, 1) := by decide +kernel
theorem d_Pool_paysBetter_27 : decode prog_4_method_19_code 27 = .ok (.ifCond .ne 18, 3) := by decide +kernel
theorem d_Pool_paysBetter_30 : decode prog_4_method_19_code 30 = .ok (.aload_n 0, 1) := by decide +kernel
theorem d_Pool_paysBetter_31 : decode prog_4_method_19_code 31 = .ok (.getfield 126, 3) := by decide +kernel
theorem d_Pool_paysBetter_34 : decode prog_4_method_19_code 34 = .ok (.aload_n 1, 1) := by decide +kernel
theorem d_Pool_paysBetter_35 : decode prog_4_method_19_code 35 = .ok (.getfield 126, 3) := by decide +kernel
theorem d_Pool_paysBetter_38 : decode prog_4_method_19_code 38 = .ok (.if_icmp .ge 7, 3) := by decide +kernel
theorem d_Pool_paysBetter_41 : decode prog_4_method_19_code 41 = .ok (.iconst 1, 1) := by decide +kernel
theorem d_Pool_paysBetter_42 : decode prog_4_method_19_code 42 = .ok (.goto 4, 3) := by decide +kernel
theorem d_Pool_paysBetter_45 : decode prog_4_method_19_code 45 = .ok (.iconst 0, 1) := by decide +kernel
theorem d_Pool_paysBetter_46 : decode prog_4_method_19_code 46 = .ok (.ireturn, 1) := by decide +kernel
theorem d_Pool_sumOfKeys_0 : decode prog_4_method_16_code 0 = .ok (.iconst 0, 1) := by decide +kernel
theorem d_Pool_sumOfKeys_1 : decode prog_4_method_16_code 1 = .ok (.istore_n 1, 1) := by decide +kernel
theorem d_Pool_sumOfKeys_2 : decode prog_4_method_16_code 2 = .ok (.iconst 0, 1) := by decide +kernel
theorem d_Pool_sumOfKeys_3 : decode prog_4_method_16_code 3 = .ok (.istore_n 2, 1) := by decide +kernel
theorem d_Pool_sumOfKeys_4 : decode prog_4_method_16_code 4 = .ok (.iload_n 2, 1) := by decide +kernel
theorem d_Pool_sumOfKeys_5 : decode prog_4_method_16_code 5 = .ok (.bipush 41, 2) := by decide +kernel
theorem d_Pool_sumOfKeys_7 : decode prog_4_method_16_code 7 = .ok (.if_icmp .ge 35, 3) := by decide +kernel
theorem d_Pool_sumOfKeys_10 : decode prog_4_method_16_code 10 = .ok (.aload_n 0, 1) := by decide +kernel
theorem d_Pool_sumOfKeys_11 : decode prog_4_method_16_code 11 = .ok (.getfield 18, 3) := by decide +kernel
theorem d_Pool_sumOfKeys_14 : decode prog_4_method_16_code 14 = .ok (.iload_n 2, 1) := by decide +kernel
theorem d_Pool_sumOfKeys_15 : decode prog_4_method_16_code 15 = .ok (.invokestatic 22, 3) := by decide +kernel
theorem d_Pool_sumOfKeys_18 : decode prog_4_method_16_code 18 = .ok (.ifCond .eq 18, 3) := by decide +kernel
theorem d_Pool_sumOfKeys_21 : decode prog_4_method_16_code 21 = .ok (.iload_n 1, 1) := by decide +kernel
theorem d_Pool_sumOfKeys_22 : decode prog_4_method_16_code 22 = .ok (.aload_n 0, 1) := by decide +kernel
theorem d_Pool_sumOfKeys_23 : decode prog_4_method_16_code 23 = .ok (.getfield 11, 3) := by decide +kernel
theorem d_Pool_sumOfKeys_26 : decode prog_4_method_16_code 26 = .ok (.iload_n 2, 1) := by decide +kernel
theorem d_Pool_sumOfKeys_27 : decode prog_4_method_16_code 27 = .ok (.aaload, 1) := by decide +kernel
theorem d_Pool_sumOfKeys_28 : decode prog_4_method_16_code 28 = .ok (.getfield 36, 3) := by decide +kernel
theorem d_Pool_sumOfKeys_31 : decode prog_4_method_16_code 31 = .ok (.getfield 135, 3) := by decide +kernel
theorem d_Pool_sumOfKeys_34 : decode prog_4_method_16_code 34 = .ok (.iadd, 1) := by decide +kernel
theorem d_Pool_sumOfKeys_35 : decode prog_4_method_16_code 35 = .ok (.istore_n 1, 1) := by decide +kernel
theorem d_Pool_sumOfKeys_36 : decode prog_4_method_16_code 36 = .ok (.iinc 2 1, 3) := by decide +kernel
theorem d_Pool_sumOfKeys_39 : decode prog_4_method_16_code 39 = .ok (.goto (-35), 3) := by decide +kernel
theorem d_Pool_sumOfKeys_42 : decode prog_4_method_16_code 42 = .ok (.iload_n 1, 1) := by decide +kernel
theorem d_Pool_sumOfKeys_43 : decode prog_4_method_16_code 43 = .ok (.ireturn, 1) := by decide +kernel
end
section
def wl_Long_bitCount : List Cond := [.constantLong "java/lang/Long" 314 6148914691236517205, .constantLong "java/lang/Long" 316 3689348814741910323, .constantLong "java/lang/Long" 318 1085102592571150095]
theorem wi_Long_bitCount : ∀ w ∈ wl_Long_bitCount, w ∈ ma_tbl := by decide +kernel
def wl_Desk_has : List Cond := [.methodLink "PoolDesk" 68 y_Desk_bit, .static y_Desk_bit]
theorem wi_Desk_has : ∀ w ∈ wl_Desk_has, w ∈ ma_tbl := by decide +kernel
def wl_Name_init : List Cond := [.methodLink "PoolDesk$Name" 3 Lib.objectInit, .instanceMethod Lib.objectInit, .code Lib.objectInit ⟨#[0xb1]⟩ 1 none]
theorem wi_Name_init : ∀ w ∈ wl_Name_init, w ∈ ma_tbl := by decide +kernel
def wl_Name_set : List Cond := [.fieldLink "PoolDesk$Name" 9 "PoolDesk$Name" "a" "J", .fieldLink "PoolDesk$Name" 15 "PoolDesk$Name" "b" "J", .fieldLink "PoolDesk$Name" 18 "PoolDesk$Name" "c" "J", .fieldLink "PoolDesk$Name" 21 "PoolDesk$Name" "d" "J"]
theorem wi_Name_set : ∀ w ∈ wl_Name_set, w ∈ ma_tbl := by decide +kernel
def wl_Name_same : List Cond := [.fieldLink "PoolDesk$Name" 9 "PoolDesk$Name" "a" "J", .fieldLink "PoolDesk$Name" 15 "PoolDesk$Name" "b" "J", .fieldLink "PoolDesk$Name" 18 "PoolDesk$Name" "c" "J", .fieldLink "PoolDesk$Name" 21 "PoolDesk$Name" "d" "J"]
theorem wi_Name_same : ∀ w ∈ wl_Name_same, w ∈ ma_tbl := by decide +kernel
def wl_Name_write : List Cond := [.fieldLink "PoolDesk$Name" 9 "PoolDesk$Name" "a" "J", .fieldLink "PoolDesk$Name" 15 "PoolDesk$Name" "b" "J", .fieldLink "PoolDesk$Name" 18 "PoolDesk$Name" "c" "J", .fieldLink "PoolDesk$Name" 21 "PoolDesk$Name" "d" "J"]
theorem wi_Name_write : ∀ w ∈ wl_Name_write, w ∈ ma_tbl := by decide +kernel
def wl_Keys_isOf : List Cond := [.fieldLink "PoolDesk$Keys" 9 "PoolDesk$Keys" "words" "[J", .fieldLink "PoolDesk$Keys" 47 "PoolDesk$Name" "a" "J", .fieldLink "PoolDesk$Keys" 51 "PoolDesk$Name" "b" "J", .fieldLink "PoolDesk$Keys" 54 "PoolDesk$Name" "c" "J", .fieldLink "PoolDesk$Keys" 57 "PoolDesk$Name" "d" "J"]
theorem wi_Keys_isOf : ∀ w ∈ wl_Keys_isOf, w ∈ ma_tbl := by decide +kernel
def wl_Keys_bears : List Cond := [.fieldLink "PoolDesk$Keys" 19 "PoolDesk$Keys" "held" "I", .methodLink "PoolDesk$Keys" 39 y_Keys_isOf, .instanceMethod y_Keys_isOf, .selects "PoolDesk$Keys" y_Keys_isOf y_Keys_isOf]
theorem wi_Keys_bears : ∀ w ∈ wl_Keys_bears, w ∈ ma_tbl := by decide +kernel
def wl_Keys_contains : List Cond := [.fieldLink "PoolDesk$Keys" 19 "PoolDesk$Keys" "held" "I", .fieldLink "PoolDesk$Keys" 15 "PoolDesk$Keys" "indexes" "[I", .methodLink "PoolDesk$Keys" 39 y_Keys_isOf, .instanceMethod y_Keys_isOf, .selects "PoolDesk$Keys" y_Keys_isOf y_Keys_isOf]
theorem wi_Keys_contains : ∀ w ∈ wl_Keys_contains, w ∈ ma_tbl := by decide +kernel
def wl_Keys_misses : List Cond := [.fieldLink "PoolDesk$Keys" 19 "PoolDesk$Keys" "held" "I", .fieldLink "PoolDesk$Keys" 15 "PoolDesk$Keys" "indexes" "[I", .methodLink "PoolDesk$Keys" 39 y_Keys_isOf, .instanceMethod y_Keys_isOf, .selects "PoolDesk$Keys" y_Keys_isOf y_Keys_isOf]
theorem wi_Keys_misses : ∀ w ∈ wl_Keys_misses, w ∈ ma_tbl := by decide +kernel
def wl_Keys_sameName : List Cond := [.fieldLink "PoolDesk$Keys" 9 "PoolDesk$Keys" "words" "[J"]
theorem wi_Keys_sameName : ∀ w ∈ wl_Keys_sameName, w ∈ ma_tbl := by decide +kernel
def wl_Keys_containsOneOf : List Cond := [.fieldLink "PoolDesk$Keys" 19 "PoolDesk$Keys" "held" "I", .fieldLink "PoolDesk$Keys" 15 "PoolDesk$Keys" "indexes" "[I", .methodLink "PoolDesk$Keys" 43 y_Keys_sameName, .instanceMethod y_Keys_sameName, .selects "PoolDesk$Keys" y_Keys_sameName y_Keys_sameName]
theorem wi_Keys_containsOneOf : ∀ w ∈ wl_Keys_containsOneOf, w ∈ ma_tbl := by decide +kernel
set_option maxHeartbeats 4000000 in
set_option maxRecDepth 100000 in
theorem c_Long_compare {l : Launch} {D : va_G} {ca : Nat → ClassId} {hp : hp_T} {d : Nat} {x y : Int64} : ma_V l D ca ma_T M_Long_compare d 0 0 hp (ma_qi (ma_eq (lg_cmp x y) hp)) 0 (lv_args 0 [.long x, .long y]) [] := by
  change ma_V l D ca ma_T M_Long_compare d 0 0 hp (ma_qi (ma_eq (lg_cmp x y) hp)) 0 [(0, .long x), (2, .long y)] []
  refine rv_lload_n d_Long_compare_0 rfl 0 rfl ?_
  refine rv_lload_n d_Long_compare_1 rfl 1 rfl ?_
  refine rv_lcmp d_Long_compare_2 ?_
  refine rv_if_ge (tgt := 10) d_Long_compare_3 (by decide) (fun c_3 => ?_) (fun c_3 => ?_)
  · refine rv_lload_n d_Long_compare_10 rfl 0 rfl ?_
    refine rv_lload_n d_Long_compare_11 rfl 1 rfl ?_
    refine rv_lcmp d_Long_compare_12 ?_
    refine rv_if_ne (tgt := 20) d_Long_compare_13 (by decide) (fun c_13 => ?_) (fun c_13 => ?_)
    · have e : lg_cmp x y = nI 1 := by
        have h1 := (lg_cmp_ge _ _).mp c_3
        have h2 : ¬ x = y := fun z => c_13 (lc_0.mpr z)
        have h3 : y < x := by
          rcases Int64.lt_or_eq_of_le h1 with h | h
          · exact h
          · exact absurd h.symm h2
        unfold lg_cmp
        rw [if_pos h3]
        rfl
      refine rv_iconst (v := nI 1) d_Long_compare_20 (by decide) ?_
      exact rv_ireturn ⟨_, rfl, e.symm, rfl⟩ d_Long_compare_21 rfl rfl
    · have e : lg_cmp x y = nI 0 := c_13
      refine rv_iconst (v := nI 0) d_Long_compare_16 (by decide) ?_
      refine rv_goto (tgt := 21) d_Long_compare_17 (by decide) ?_
      exact rv_ireturn ⟨_, rfl, e.symm, rfl⟩ d_Long_compare_21 rfl rfl
  · have e : lg_cmp x y = -1 := by
      have h1 : x < y := Int64.not_le.mp (fun z => c_3 ((lg_cmp_ge _ _).mpr z))
      unfold lg_cmp
      rw [if_neg (Int64.not_lt.mpr (Int64.le_of_lt h1)), if_neg (Int64.ne_of_lt h1)]
    refine rv_iconst (v := (-1)) d_Long_compare_6 (by decide) ?_
    refine rv_goto (tgt := 21) d_Long_compare_7 (by decide) ?_
    exact rv_ireturn ⟨_, rfl, e.symm, rfl⟩ d_Long_compare_21 rfl rfl
set_option maxHeartbeats 4000000 in
set_option maxRecDepth 100000 in
theorem c_Long_bitCount {l : Launch} {D : va_G} {ca : Nat → ClassId} {hp : hp_T} {d : Nat} {x : Int64} : ma_V l D ca ma_T M_Long_bitCount d 0 0 hp (ma_qi (ma_eq (nI (bz_c x 64)) hp)) 0 (lv_args 0 [.long x]) [] := by
  change ma_V l D ca ma_T M_Long_bitCount d 0 0 hp (ma_qi (ma_eq (nI (bz_c x 64)) hp)) 0 [(0, .long x)] []
  refine rv_lload_n d_Long_bitCount_0 rfl 0 rfl ?_
  refine rv_lload_n d_Long_bitCount_1 rfl 0 rfl ?_
  refine rv_iconst (v := nI 1) d_Long_bitCount_2 (by decide) ?_
  refine rv_lushr d_Long_bitCount_3 ?_
  refine rv_ldc2 (v := 6148914691236517205) d_Long_bitCount_4 (wi_Long_bitCount _ (List.mem_of_getElem? (i := 0) rfl)) ?_
  refine rv_land d_Long_bitCount_7 ?_
  refine rv_lsub d_Long_bitCount_8 ?_
  refine rv_topl (fun x1 e1 => ?_)
  refine rv_lstore_n (lv' := [(0, .long x1)]) d_Long_bitCount_9 rfl (by decide) rfl ?_
  refine rv_lload_n d_Long_bitCount_10 rfl 0 rfl ?_
  refine rv_ldc2 (v := 3689348814741910323) d_Long_bitCount_11 (wi_Long_bitCount _ (List.mem_of_getElem? (i := 1) rfl)) ?_
  refine rv_land d_Long_bitCount_14 ?_
  refine rv_lload_n d_Long_bitCount_15 rfl 0 rfl ?_
  refine rv_iconst (v := nI 2) d_Long_bitCount_16 (by decide) ?_
  refine rv_lushr d_Long_bitCount_17 ?_
  refine rv_ldc2 (v := 3689348814741910323) d_Long_bitCount_18 (wi_Long_bitCount _ (List.mem_of_getElem? (i := 1) rfl)) ?_
  refine rv_land d_Long_bitCount_21 ?_
  refine rv_ladd d_Long_bitCount_22 ?_
  refine rv_topl (fun x2 e2 => ?_)
  refine rv_lstore_n (lv' := [(0, .long x2)]) d_Long_bitCount_23 rfl (by decide) rfl ?_
  refine rv_lload_n d_Long_bitCount_24 rfl 0 rfl ?_
  refine rv_lload_n d_Long_bitCount_25 rfl 0 rfl ?_
  refine rv_iconst (v := nI 4) d_Long_bitCount_26 (by decide) ?_
  refine rv_lushr d_Long_bitCount_27 ?_
  refine rv_ladd d_Long_bitCount_28 ?_
  refine rv_ldc2 (v := 1085102592571150095) d_Long_bitCount_29 (wi_Long_bitCount _ (List.mem_of_getElem? (i := 2) rfl)) ?_
  refine rv_land d_Long_bitCount_32 ?_
  refine rv_topl (fun x3 e3 => ?_)
  refine rv_lstore_n (lv' := [(0, .long x3)]) d_Long_bitCount_33 rfl (by decide) rfl ?_
  refine rv_lload_n d_Long_bitCount_34 rfl 0 rfl ?_
  refine rv_lload_n d_Long_bitCount_35 rfl 0 rfl ?_
  refine rv_bipush (v := nI 8) d_Long_bitCount_36 (by decide) ?_
  refine rv_lushr d_Long_bitCount_38 ?_
  refine rv_ladd d_Long_bitCount_39 ?_
  refine rv_topl (fun x4 e4 => ?_)
  refine rv_lstore_n (lv' := [(0, .long x4)]) d_Long_bitCount_40 rfl (by decide) rfl ?_
  refine rv_lload_n d_Long_bitCount_41 rfl 0 rfl ?_
  refine rv_lload_n d_Long_bitCount_42 rfl 0 rfl ?_
  refine rv_bipush (v := nI 16) d_Long_bitCount_43 (by decide) ?_
  refine rv_lushr d_Long_bitCount_45 ?_
  refine rv_ladd d_Long_bitCount_46 ?_
  refine rv_topl (fun x5 e5 => ?_)
  refine rv_lstore_n (lv' := [(0, .long x5)]) d_Long_bitCount_47 rfl (by decide) rfl ?_
  refine rv_lload_n d_Long_bitCount_48 rfl 0 rfl ?_
  refine rv_lload_n d_Long_bitCount_49 rfl 0 rfl ?_
  refine rv_bipush (v := nI 32) d_Long_bitCount_50 (by decide) ?_
  refine rv_lushr d_Long_bitCount_52 ?_
  refine rv_ladd d_Long_bitCount_53 ?_
  refine rv_topl (fun x6 e6 => ?_)
  refine rv_lstore_n (lv' := [(0, .long x6)]) d_Long_bitCount_54 rfl (by decide) rfl ?_
  refine rv_lload_n d_Long_bitCount_55 rfl 0 rfl ?_
  refine rv_l2i d_Long_bitCount_56 ?_
  refine rv_bipush (v := nI 127) d_Long_bitCount_57 (by decide) ?_
  refine rv_iand d_Long_bitCount_59 ?_
  exact rv_ireturn ⟨_, rfl, pc_main e1 e2 e3 e4 e5 e6, rfl⟩ d_Long_bitCount_60 rfl rfl
set_option maxHeartbeats 4000000 in
set_option maxRecDepth 100000 in
theorem c_Desk_bit {l : Launch} {D : va_G} {ca : Nat → ClassId} {hp : hp_T} {d : Nat} {p : Nat} : ma_V l D ca ma_T M_Desk_bit d 0 0 hp (ma_ql (ma_eq (bz_b p) hp)) 0 (lv_args 0 [.int (nI p)]) [] := by
  change ma_V l D ca ma_T M_Desk_bit d 0 0 hp (ma_ql (ma_eq (bz_b p) hp)) 0 [(0, .int (nI p))] []
  refine rv_lconst (v := 1) d_Desk_bit_0 (by decide) ?_
  refine rv_iload_n d_Desk_bit_1 rfl 0 rfl ?_
  refine rv_lshl d_Desk_bit_2 ?_
  exact rv_lreturn ⟨_, rfl, rfl, rfl⟩ d_Desk_bit_3 rfl
set_option maxHeartbeats 4000000 in
set_option maxRecDepth 100000 in
theorem c_Desk_has {l : Launch} {D : va_G} {ca : Nat → ClassId} {hp : hp_T} {d : Nat} {x : Int64} {p : Nat} (h : p < 64) : ma_V l D ca ma_T M_Desk_has (d + 1) 0 0 hp (ma_qi (ma_eq (bI (bz_t x p)) hp)) 0 (lv_args 0 [.long x, .int (nI p)]) [] := by
  change ma_V l D ca ma_T M_Desk_has (d + 1) 0 0 hp (ma_qi (ma_eq (bI (bz_t x p)) hp)) 0 [(0, .long x), (2, .int (nI p))] []
  refine rv_lload_n d_Desk_has_0 rfl 0 rfl ?_
  refine rv_iload_n d_Desk_has_1 rfl 1 rfl ?_
  refine rv_callS (kc' := 0) (ks' := 0) (kc1 := 0) (ks1 := 0) (As := [.int (nI p)]) (rest := [.long x]) (c_Desk_bit) ok_Desk_bit (wi_Desk_has _ (List.mem_of_getElem? (i := 0) rfl)) (wi_Desk_has _ (List.mem_of_getElem? (i := 1) rfl)) rfl rfl (Nat.le_of_ble_eq_true rfl) (Nat.le_of_ble_eq_true rfl) ⟨Nat.le_of_ble_eq_true rfl, Nat.le_of_ble_eq_true rfl⟩ d_Desk_has_2 (rv_kle ?_)
  refine rv_land d_Desk_has_5 ?_
  refine rv_lconst (v := 0) d_Desk_has_6 (by decide) ?_
  refine rv_lcmp d_Desk_has_7 ?_
  refine rv_if_eq (tgt := 15) d_Desk_has_8 (by decide) (fun c_8 => ?_) (fun c_8 => ?_)
  · have e : bz_t x p = false := (bz_has h).mp (lc_0.mp c_8)
    refine rv_iconst (v := nI 0) d_Desk_has_15 (by decide) ?_
    refine rv_eqi (y := bI (bz_t x p)) (by rw [e]; rfl) ?_
    exact rv_ireturn ⟨_, rfl, rfl, rfl⟩ d_Desk_has_16 rfl (bI_nar _)
  · have e : bz_t x p = true := by
      cases q : bz_t x p with
      | true => rfl
      | false => exact absurd (lc_0.mpr ((bz_has h).mpr q)) c_8
    refine rv_iconst (v := nI 1) d_Desk_has_11 (by decide) ?_
    refine rv_goto (tgt := 16) d_Desk_has_12 (by decide) ?_
    refine rv_eqi (y := bI (bz_t x p)) (by rw [e]; rfl) ?_
    exact rv_ireturn ⟨_, rfl, rfl, rfl⟩ d_Desk_has_16 rfl (bI_nar _)
set_option maxHeartbeats 4000000 in
set_option maxRecDepth 100000 in
theorem c_Name_init {l : Launch} {D : va_G} {ca : Nat → ClassId} {hp : hp_T} {d : Nat} {a : Nat} : ma_V l D ca ma_T M_Name_init (d + 1) 0 0 hp (ma_qv (fun hp1 => hp1 = hp)) 0 (lv_args 0 [.ref a]) [] := by
  change ma_V l D ca ma_T M_Name_init (d + 1) 0 0 hp (ma_qv (fun hp1 => hp1 = hp)) 0 [(0, .ref a)] []
  refine rv_aload_n d_Name_init_0 rfl 0 rfl ?_
  refine rv_obj (wi_Name_init _ (List.mem_of_getElem? (i := 0) rfl)) (wi_Name_init _ (List.mem_of_getElem? (i := 1) rfl)) (wi_Name_init _ (List.mem_of_getElem? (i := 2) rfl)) (Nat.le_of_ble_eq_true rfl) d_Name_init_1 ?_
  exact rv_vreturn ⟨rfl, rfl⟩ d_Name_init_4 rfl
set_option maxHeartbeats 4000000 in
set_option maxRecDepth 100000 in
theorem c_Name_set {l : Launch} {D : va_G} {ca : Nat → ClassId} {hp : hp_T} {d : Nat} {a : Nat} {n m : nm_T} (h0 : hp a = some (.inr (0, nm_F n))) : ma_V l D ca ma_T M_Name_set d 0 0 hp (ma_qv (fun hp1 => hp1 = hp_up hp a (.inr (0, nm_F m)))) 0 (lv_args 0 [.ref a, .long m.1, .long m.2.1, .long m.2.2.1, .long m.2.2.2]) [] := by
  change ma_V l D ca ma_T M_Name_set d 0 0 hp (ma_qv (fun hp1 => hp1 = hp_up hp a (.inr (0, nm_F m)))) 0 [(0, .ref a), (1, .long m.1), (3, .long m.2.1), (5, .long m.2.2.1), (7, .long m.2.2.2)] []
  refine rv_aload_n d_Name_set_0 rfl 0 rfl ?_
  refine rv_lload_n d_Name_set_1 rfl 1 rfl ?_
  refine rv_put (fs' := [.long m.1, .long n.2.1, .long n.2.2.1, .long n.2.2.2]) ka_Name h0 rfl 0 (by decide) (wi_Name_set _ (List.mem_of_getElem? (i := 0) rfl)) rfl rfl rfl (Nat.le_of_ble_eq_true rfl) rfl d_Name_set_2
    (fun hp1 ehp1 => ?_)
  have hf1_0 : hp1 a = some (.inr (0, [.long m.1, .long n.2.1, .long n.2.2.1, .long n.2.2.2])) := by rw [ehp1]; exact hp_us
  refine rv_aload_n d_Name_set_5 rfl 0 rfl ?_
  refine rv_lload_n d_Name_set_6 rfl 2 rfl ?_
  refine rv_put (fs' := [.long m.1, .long m.2.1, .long n.2.2.1, .long n.2.2.2]) ka_Name hf1_0 rfl 1 (by decide) (wi_Name_set _ (List.mem_of_getElem? (i := 1) rfl)) rfl rfl rfl (Nat.le_of_ble_eq_true rfl) rfl d_Name_set_7
    (fun hp2 ehp2 => ?_)
  have hf2_0 : hp2 a = some (.inr (0, [.long m.1, .long m.2.1, .long n.2.2.1, .long n.2.2.2])) := by rw [ehp2]; exact hp_us
  refine rv_aload_n d_Name_set_10 rfl 0 rfl ?_
  refine rv_lload d_Name_set_11 3 rfl ?_
  refine rv_put (fs' := [.long m.1, .long m.2.1, .long m.2.2.1, .long n.2.2.2]) ka_Name hf2_0 rfl 2 (by decide) (wi_Name_set _ (List.mem_of_getElem? (i := 2) rfl)) rfl rfl rfl (Nat.le_of_ble_eq_true rfl) rfl d_Name_set_13
    (fun hp3 ehp3 => ?_)
  have hf3_0 : hp3 a = some (.inr (0, [.long m.1, .long m.2.1, .long m.2.2.1, .long n.2.2.2])) := by rw [ehp3]; exact hp_us
  refine rv_aload_n d_Name_set_16 rfl 0 rfl ?_
  refine rv_lload d_Name_set_17 4 rfl ?_
  refine rv_put (fs' := [.long m.1, .long m.2.1, .long m.2.2.1, .long m.2.2.2]) ka_Name hf3_0 rfl 3 (by decide) (wi_Name_set _ (List.mem_of_getElem? (i := 3) rfl)) rfl rfl rfl (Nat.le_of_ble_eq_true rfl) rfl d_Name_set_19
    (fun hp4 ehp4 => ?_)
  have hf4_0 : hp4 a = some (.inr (0, [.long m.1, .long m.2.1, .long m.2.2.1, .long m.2.2.2])) := by rw [ehp4]; exact hp_us
  refine rv_vreturn ⟨rfl, ?_⟩ d_Name_set_22 rfl
  rw [ehp4, ehp3, ehp2, ehp1, hp_uu, hp_uu, hp_uu]
set_option maxHeartbeats 4000000 in
set_option maxRecDepth 100000 in
theorem c_Name_same {l : Launch} {D : va_G} {ca : Nat → ClassId} {hp : hp_T} {d : Nat} {a b : Nat} {n m : nm_T} (h0 : hp a = some (.inr (0, nm_F n))) (h1 : hp b = some (.inr (0, nm_F m))) : ma_V l D ca ma_T M_Name_same d 0 0 hp (ma_qi (ma_eq (bI (decide (n = m))) hp)) 0 (lv_args 0 [.ref a, .ref b]) [] := by
  change ma_V l D ca ma_T M_Name_same d 0 0 hp (ma_qi (ma_eq (bI (decide (n = m))) hp)) 0 [(0, .ref a), (1, .ref b)] []
  refine rv_aload_n d_Name_same_0 rfl 0 rfl ?_
  refine rv_get ka_Name h0 rfl 0 (by decide) (wi_Name_same _ (List.mem_of_getElem? (i := 0) rfl)) rfl d_Name_same_1 ?_
  refine rv_aload_n d_Name_same_4 rfl 1 rfl ?_
  refine rv_get ka_Name h1 rfl 0 (by decide) (wi_Name_same _ (List.mem_of_getElem? (i := 0) rfl)) rfl d_Name_same_5 ?_
  refine rv_lcmp d_Name_same_8 ?_
  refine rv_if_ne (tgt := 52) d_Name_same_9 (by decide) (fun c_9 => ?_) (fun c_9 => ?_)
  · have e : decide (n = m) = false := decide_eq_false (fun q => c_9 (lc_0.mpr (by rw [q])))
    refine rv_iconst (v := nI 0) d_Name_same_52 (by decide) ?_
    refine rv_eqi (y := bI (decide (n = m))) (by rw [e]; rfl) ?_
    exact rv_ireturn ⟨_, rfl, rfl, rfl⟩ d_Name_same_53 rfl (bI_nar _)
  · have q0 := lc_0.mp c_9
    refine rv_aload_n d_Name_same_12 rfl 0 rfl ?_
    refine rv_get ka_Name h0 rfl 1 (by decide) (wi_Name_same _ (List.mem_of_getElem? (i := 1) rfl)) rfl d_Name_same_13 ?_
    refine rv_aload_n d_Name_same_16 rfl 1 rfl ?_
    refine rv_get ka_Name h1 rfl 1 (by decide) (wi_Name_same _ (List.mem_of_getElem? (i := 1) rfl)) rfl d_Name_same_17 ?_
    refine rv_lcmp d_Name_same_20 ?_
    refine rv_if_ne (tgt := 52) d_Name_same_21 (by decide) (fun c_21 => ?_) (fun c_21 => ?_)
    · have e : decide (n = m) = false := decide_eq_false (fun q => c_21 (lc_0.mpr (by rw [q])))
      refine rv_iconst (v := nI 0) d_Name_same_52 (by decide) ?_
      refine rv_eqi (y := bI (decide (n = m))) (by rw [e]; rfl) ?_
      exact rv_ireturn ⟨_, rfl, rfl, rfl⟩ d_Name_same_53 rfl (bI_nar _)
    · have q1 := lc_0.mp c_21
      refine rv_aload_n d_Name_same_24 rfl 0 rfl ?_
      refine rv_get ka_Name h0 rfl 2 (by decide) (wi_Name_same _ (List.mem_of_getElem? (i := 2) rfl)) rfl d_Name_same_25 ?_
      refine rv_aload_n d_Name_same_28 rfl 1 rfl ?_
      refine rv_get ka_Name h1 rfl 2 (by decide) (wi_Name_same _ (List.mem_of_getElem? (i := 2) rfl)) rfl d_Name_same_29 ?_
      refine rv_lcmp d_Name_same_32 ?_
      refine rv_if_ne (tgt := 52) d_Name_same_33 (by decide) (fun c_33 => ?_) (fun c_33 => ?_)
      · have e : decide (n = m) = false := decide_eq_false (fun q => c_33 (lc_0.mpr (by rw [q])))
        refine rv_iconst (v := nI 0) d_Name_same_52 (by decide) ?_
        refine rv_eqi (y := bI (decide (n = m))) (by rw [e]; rfl) ?_
        exact rv_ireturn ⟨_, rfl, rfl, rfl⟩ d_Name_same_53 rfl (bI_nar _)
      · have q2 := lc_0.mp c_33
        refine rv_aload_n d_Name_same_36 rfl 0 rfl ?_
        refine rv_get ka_Name h0 rfl 3 (by decide) (wi_Name_same _ (List.mem_of_getElem? (i := 3) rfl)) rfl d_Name_same_37 ?_
        refine rv_aload_n d_Name_same_40 rfl 1 rfl ?_
        refine rv_get ka_Name h1 rfl 3 (by decide) (wi_Name_same _ (List.mem_of_getElem? (i := 3) rfl)) rfl d_Name_same_41 ?_
        refine rv_lcmp d_Name_same_44 ?_
        refine rv_if_ne (tgt := 52) d_Name_same_45 (by decide) (fun c_45 => ?_) (fun c_45 => ?_)
        · have e : decide (n = m) = false := decide_eq_false (fun q => c_45 (lc_0.mpr (by rw [q])))
          refine rv_iconst (v := nI 0) d_Name_same_52 (by decide) ?_
          refine rv_eqi (y := bI (decide (n = m))) (by rw [e]; rfl) ?_
          exact rv_ireturn ⟨_, rfl, rfl, rfl⟩ d_Name_same_53 rfl (bI_nar _)
        · have q3 := lc_0.mp c_45
          have e : decide (n = m) = true := decide_eq_true (nm_of q0 q1 q2 q3)
          refine rv_iconst (v := nI 1) d_Name_same_48 (by decide) ?_
          refine rv_goto (tgt := 53) d_Name_same_49 (by decide) ?_
          refine rv_eqi (y := bI (decide (n = m))) (by rw [e]; rfl) ?_
          exact rv_ireturn ⟨_, rfl, rfl, rfl⟩ d_Name_same_53 rfl (bI_nar _)
set_option maxHeartbeats 4000000 in
set_option maxRecDepth 100000 in
theorem c_Name_write {l : Launch} {D : va_G} {ca : Nat → ClassId} {hp : hp_T} {d : Nat} {a w N j : Nat} {n : nm_T} {f : Nat → Int64} (h0 : hp a = some (.inr (0, nm_F n))) (h1 : hp w = some (.inl (ca 1, N, .inr (.inl f)))) (hN : N < 65536) (hj : j + 4 ≤ N) : ma_V l D ca ma_T M_Name_write d 0 0 hp (ma_qv (fun hp1 => hp1 = hp_up hp w (.inl (ca 1, N, .inr (.inl (kx_w f j n)))))) 0 (lv_args 0 [.ref a, .ref w, .int (nI j)]) [] := by
  change ma_V l D ca ma_T M_Name_write d 0 0 hp (ma_qv (fun hp1 => hp1 = hp_up hp w (.inl (ca 1, N, .inr (.inl (kx_w f j n)))))) 0 [(0, .ref a), (1, .ref w), (2, .int (nI j))] []
  refine rv_iload_n d_Name_write_0 rfl 2 rfl ?_
  refine rv_if_lt (tgt := 12) d_Name_write_1 (by decide) (fun c_1 => ?_) (fun c_1 => ?_)
  · exact absurd c_1 (nI_pos (by omega))
  · refine rv_iload_n d_Name_write_4 rfl 2 rfl ?_
    refine rv_aload_n d_Name_write_5 rfl 1 rfl ?_
    refine rv_alen h1 1 rfl d_Name_write_6 ?_
    refine rv_iconst (v := nI 4) d_Name_write_7 (by decide) ?_
    refine rv_isub d_Name_write_8 ?_
    refine rv_eqi (y := nI (N - 4)) (pk_sub (by omega)) ?_
    refine rv_icmp_le (tgt := 13) d_Name_write_9 (by decide) (fun c_9 => ?_) (fun c_9 => ?_)
    · refine rv_aload_n d_Name_write_13 rfl 1 rfl ?_
      refine rv_iload_n d_Name_write_14 rfl 2 rfl ?_
      refine rv_aload_n d_Name_write_15 rfl 0 rfl ?_
      refine rv_get ka_Name h0 rfl 0 (by decide) (wi_Name_write _ (List.mem_of_getElem? (i := 0) rfl)) rfl d_Name_write_16 ?_
      refine rv_last h1 1 rfl (by omega) (by omega) d_Name_write_19
        (fun hp5 ehp5 => ?_)
      have hf5_0 : hp5 a = some (.inr (0, [.long n.1, .long n.2.1, .long n.2.2.1, .long n.2.2.2])) := by rw [ehp5, hp_un (hp_ne h0 h1 (fun q => by first | cases q | simp at q))]; exact h0
      have hf5_1 : hp5 w = some (.inl (ca 1, N, .inr (.inl (vp_updL f j n.1)))) := by rw [ehp5]; exact hp_us
      refine rv_aload_n d_Name_write_20 rfl 1 rfl ?_
      refine rv_iload_n d_Name_write_21 rfl 2 rfl ?_
      refine rv_iconst (v := nI 1) d_Name_write_22 (by decide) ?_
      refine rv_iadd d_Name_write_23 ?_
      refine rv_eqi (nI_add _ _) ?_
      refine rv_aload_n d_Name_write_24 rfl 0 rfl ?_
      refine rv_get ka_Name hf5_0 rfl 1 (by decide) (wi_Name_write _ (List.mem_of_getElem? (i := 1) rfl)) rfl d_Name_write_25 ?_
      refine rv_last hf5_1 1 rfl (by omega) (by omega) d_Name_write_28
        (fun hp6 ehp6 => ?_)
      have hf6_0 : hp6 a = some (.inr (0, [.long n.1, .long n.2.1, .long n.2.2.1, .long n.2.2.2])) := by rw [ehp6, hp_un (hp_ne hf5_0 hf5_1 (fun q => by first | cases q | simp at q))]; exact hf5_0
      have hf6_1 : hp6 w = some (.inl (ca 1, N, .inr (.inl (vp_updL (vp_updL f j n.1) (j + 1) n.2.1)))) := by rw [ehp6]; exact hp_us
      refine rv_aload_n d_Name_write_29 rfl 1 rfl ?_
      refine rv_iload_n d_Name_write_30 rfl 2 rfl ?_
      refine rv_iconst (v := nI 2) d_Name_write_31 (by decide) ?_
      refine rv_iadd d_Name_write_32 ?_
      refine rv_eqi (nI_add _ _) ?_
      refine rv_aload_n d_Name_write_33 rfl 0 rfl ?_
      refine rv_get ka_Name hf6_0 rfl 2 (by decide) (wi_Name_write _ (List.mem_of_getElem? (i := 2) rfl)) rfl d_Name_write_34 ?_
      refine rv_last hf6_1 1 rfl (by omega) (by omega) d_Name_write_37
        (fun hp7 ehp7 => ?_)
      have hf7_0 : hp7 a = some (.inr (0, [.long n.1, .long n.2.1, .long n.2.2.1, .long n.2.2.2])) := by rw [ehp7, hp_un (hp_ne hf6_0 hf6_1 (fun q => by first | cases q | simp at q))]; exact hf6_0
      have hf7_1 : hp7 w = some (.inl (ca 1, N, .inr (.inl (vp_updL (vp_updL (vp_updL f j n.1) (j + 1) n.2.1) (j + 2) n.2.2.1)))) := by rw [ehp7]; exact hp_us
      refine rv_aload_n d_Name_write_38 rfl 1 rfl ?_
      refine rv_iload_n d_Name_write_39 rfl 2 rfl ?_
      refine rv_iconst (v := nI 3) d_Name_write_40 (by decide) ?_
      refine rv_iadd d_Name_write_41 ?_
      refine rv_eqi (nI_add _ _) ?_
      refine rv_aload_n d_Name_write_42 rfl 0 rfl ?_
      refine rv_get ka_Name hf7_0 rfl 3 (by decide) (wi_Name_write _ (List.mem_of_getElem? (i := 3) rfl)) rfl d_Name_write_43 ?_
      refine rv_last hf7_1 1 rfl (by omega) (by omega) d_Name_write_46
        (fun hp8 ehp8 => ?_)
      have hf8_0 : hp8 a = some (.inr (0, [.long n.1, .long n.2.1, .long n.2.2.1, .long n.2.2.2])) := by rw [ehp8, hp_un (hp_ne hf7_0 hf7_1 (fun q => by first | cases q | simp at q))]; exact hf7_0
      have hf8_1 : hp8 w = some (.inl (ca 1, N, .inr (.inl (vp_updL (vp_updL (vp_updL (vp_updL f j n.1) (j + 1) n.2.1) (j + 2) n.2.2.1) (j + 3) n.2.2.2)))) := by rw [ehp8]; exact hp_us
      refine rv_vreturn ⟨rfl, ?_⟩ d_Name_write_47 rfl
      rw [ehp8, ehp7, ehp6, ehp5, hp_uu, hp_uu, hp_uu]
      rfl
    · exact absurd (nI_le (by omega) (by omega)) c_9
set_option maxHeartbeats 4000000 in
set_option maxRecDepth 100000 in
theorem c_Keys_isOf {l : Launch} {D : va_G} {ca : Nat → ClassId} {hp : hp_T} {d : Nat} {k w i b n j : Nat} {m : nm_T} {f : Nat → Int64} (hk : hp k = some (.inr (1, [.ref w, .ref i, .int (nI n)]))) (hw : hp w = some (.inl (ca 1, 32, .inr (.inl f)))) (hb : hp b = some (.inr (0, nm_F m))) (hj : j < 8) : ma_V l D ca ma_T M_Keys_isOf d 0 0 hp (ma_qi (ma_eq (bI (decide (kx_n f j = m))) hp)) 0 (lv_args 0 [.ref k, .int (nI j), .ref b]) [] := by
  change ma_V l D ca ma_T M_Keys_isOf d 0 0 hp (ma_qi (ma_eq (bI (decide (kx_n f j = m))) hp)) 0 [(0, .ref k), (1, .int (nI j)), (2, .ref b)] []
  refine rv_iload_n d_Keys_isOf_0 rfl 1 rfl ?_
  refine rv_iconst (v := nI 4) d_Keys_isOf_1 (by decide) ?_
  refine rv_imul d_Keys_isOf_2 ?_
  refine rv_eqi (pk_mul _ _) ?_
  refine rv_istore_n (lv' := [(3, .int (nI (j * 4))), (0, .ref k), (1, .int (nI j)), (2, .ref b)]) d_Keys_isOf_3 rfl (by decide) rfl ?_
  refine rv_aload_n d_Keys_isOf_4 rfl 1 rfl ?_
  refine rv_get ka_Keys hk rfl 0 (by decide) (wi_Keys_isOf _ (List.mem_of_getElem? (i := 0) rfl)) rfl d_Keys_isOf_5 ?_
  refine rv_iload_n d_Keys_isOf_8 rfl 0 rfl ?_
  refine rv_lald hw 1 rfl (by omega) (by decide) d_Keys_isOf_9 ?_
  refine rv_aload_n d_Keys_isOf_10 rfl 3 rfl ?_
  refine rv_get ka_Name hb rfl 0 (by decide) (wi_Keys_isOf _ (List.mem_of_getElem? (i := 1) rfl)) rfl d_Keys_isOf_11 ?_
  refine rv_lcmp d_Keys_isOf_14 ?_
  refine rv_if_ne (tgt := 70) d_Keys_isOf_15 (by decide) (fun c_15 => ?_) (fun c_15 => ?_)
  · have e : decide (kx_n f j = m) = false := decide_eq_false (fun q => c_15 (lc_0.mpr (by rw [← q]; rfl)))
    refine rv_iconst (v := nI 0) d_Keys_isOf_70 (by decide) ?_
    refine rv_eqi (y := bI (decide (kx_n f j = m))) (by rw [e]; rfl) ?_
    exact rv_ireturn ⟨_, rfl, rfl, rfl⟩ d_Keys_isOf_71 rfl (bI_nar _)
  · have q0 := lc_0.mp c_15
    refine rv_aload_n d_Keys_isOf_18 rfl 1 rfl ?_
    refine rv_get ka_Keys hk rfl 0 (by decide) (wi_Keys_isOf _ (List.mem_of_getElem? (i := 0) rfl)) rfl d_Keys_isOf_19 ?_
    refine rv_iload_n d_Keys_isOf_22 rfl 0 rfl ?_
    refine rv_iconst (v := nI 1) d_Keys_isOf_23 (by decide) ?_
    refine rv_iadd d_Keys_isOf_24 ?_
    refine rv_eqi (nI_add _ _) ?_
    refine rv_lald hw 1 rfl (by omega) (by decide) d_Keys_isOf_25 ?_
    refine rv_aload_n d_Keys_isOf_26 rfl 3 rfl ?_
    refine rv_get ka_Name hb rfl 1 (by decide) (wi_Keys_isOf _ (List.mem_of_getElem? (i := 2) rfl)) rfl d_Keys_isOf_27 ?_
    refine rv_lcmp d_Keys_isOf_30 ?_
    refine rv_if_ne (tgt := 70) d_Keys_isOf_31 (by decide) (fun c_31 => ?_) (fun c_31 => ?_)
    · have e : decide (kx_n f j = m) = false := decide_eq_false (fun q => c_31 (lc_0.mpr (by rw [← q]; rfl)))
      refine rv_iconst (v := nI 0) d_Keys_isOf_70 (by decide) ?_
      refine rv_eqi (y := bI (decide (kx_n f j = m))) (by rw [e]; rfl) ?_
      exact rv_ireturn ⟨_, rfl, rfl, rfl⟩ d_Keys_isOf_71 rfl (bI_nar _)
    · have q1 := lc_0.mp c_31
      refine rv_aload_n d_Keys_isOf_34 rfl 1 rfl ?_
      refine rv_get ka_Keys hk rfl 0 (by decide) (wi_Keys_isOf _ (List.mem_of_getElem? (i := 0) rfl)) rfl d_Keys_isOf_35 ?_
      refine rv_iload_n d_Keys_isOf_38 rfl 0 rfl ?_
      refine rv_iconst (v := nI 2) d_Keys_isOf_39 (by decide) ?_
      refine rv_iadd d_Keys_isOf_40 ?_
      refine rv_eqi (nI_add _ _) ?_
      refine rv_lald hw 1 rfl (by omega) (by decide) d_Keys_isOf_41 ?_
      refine rv_aload_n d_Keys_isOf_42 rfl 3 rfl ?_
      refine rv_get ka_Name hb rfl 2 (by decide) (wi_Keys_isOf _ (List.mem_of_getElem? (i := 3) rfl)) rfl d_Keys_isOf_43 ?_
      refine rv_lcmp d_Keys_isOf_46 ?_
      refine rv_if_ne (tgt := 70) d_Keys_isOf_47 (by decide) (fun c_47 => ?_) (fun c_47 => ?_)
      · have e : decide (kx_n f j = m) = false := decide_eq_false (fun q => c_47 (lc_0.mpr (by rw [← q]; rfl)))
        refine rv_iconst (v := nI 0) d_Keys_isOf_70 (by decide) ?_
        refine rv_eqi (y := bI (decide (kx_n f j = m))) (by rw [e]; rfl) ?_
        exact rv_ireturn ⟨_, rfl, rfl, rfl⟩ d_Keys_isOf_71 rfl (bI_nar _)
      · have q2 := lc_0.mp c_47
        refine rv_aload_n d_Keys_isOf_50 rfl 1 rfl ?_
        refine rv_get ka_Keys hk rfl 0 (by decide) (wi_Keys_isOf _ (List.mem_of_getElem? (i := 0) rfl)) rfl d_Keys_isOf_51 ?_
        refine rv_iload_n d_Keys_isOf_54 rfl 0 rfl ?_
        refine rv_iconst (v := nI 3) d_Keys_isOf_55 (by decide) ?_
        refine rv_iadd d_Keys_isOf_56 ?_
        refine rv_eqi (nI_add _ _) ?_
        refine rv_lald hw 1 rfl (by omega) (by decide) d_Keys_isOf_57 ?_
        refine rv_aload_n d_Keys_isOf_58 rfl 3 rfl ?_
        refine rv_get ka_Name hb rfl 3 (by decide) (wi_Keys_isOf _ (List.mem_of_getElem? (i := 4) rfl)) rfl d_Keys_isOf_59 ?_
        refine rv_lcmp d_Keys_isOf_62 ?_
        refine rv_if_ne (tgt := 70) d_Keys_isOf_63 (by decide) (fun c_63 => ?_) (fun c_63 => ?_)
        · have e : decide (kx_n f j = m) = false := decide_eq_false (fun q => c_63 (lc_0.mpr (by rw [← q]; rfl)))
          refine rv_iconst (v := nI 0) d_Keys_isOf_70 (by decide) ?_
          refine rv_eqi (y := bI (decide (kx_n f j = m))) (by rw [e]; rfl) ?_
          exact rv_ireturn ⟨_, rfl, rfl, rfl⟩ d_Keys_isOf_71 rfl (bI_nar _)
        · have q3 := lc_0.mp c_63
          have e : decide (kx_n f j = m) = true := decide_eq_true (nm_of q0 q1 q2 q3)
          refine rv_iconst (v := nI 1) d_Keys_isOf_66 (by decide) ?_
          refine rv_goto (tgt := 71) d_Keys_isOf_67 (by decide) ?_
          refine rv_eqi (y := bI (decide (kx_n f j = m))) (by rw [e]; rfl) ?_
          exact rv_ireturn ⟨_, rfl, rfl, rfl⟩ d_Keys_isOf_71 rfl (bI_nar _)
set_option maxHeartbeats 4000000 in
set_option maxRecDepth 100000 in
theorem c_Keys_bears_l {l : Launch} {D : va_G} {ca : Nat → ClassId} {hp : hp_T} {d : Nat} {k w i0 b n : Nat} {m0 : nm_T} {f : Nat → Int64} {g : Nat → Int32} (hk : hp k = some (.inr (1, [.ref w, .ref i0, .int (nI n)]))) (hw : hp w = some (.inl (ca 1, 32, .inr (.inl f)))) (hi0 : hp i0 = some (.inl (ca 0, 8, .inl g))) (hn : n ≤ 8) (hb : hp b = some (.inr (0, nm_F m0))) : ∀ (m i : Nat), i + m = n → ma_V l D ca ma_T M_Keys_bears (d + 1) 0 0 hp (ma_qi (ma_eq (bI (lp_any (fun j => decide (kx_n f j = m0)) m i)) hp)) 2 [(2, .int (nI i)), (0, .ref k), (1, .ref b)] [] := by
  intro m
  induction m with
  | zero =>
    intro i hi
    refine rv_iload_n d_Keys_bears_2 rfl 0 rfl ?_
    refine rv_aload_n d_Keys_bears_3 rfl 1 rfl ?_
    refine rv_get ka_Keys hk rfl 2 (by decide) (wi_Keys_bears _ (List.mem_of_getElem? (i := 0) rfl)) rfl d_Keys_bears_4 ?_
    refine rv_icmp_ge (tgt := 27) d_Keys_bears_7 (by decide) (fun c_7 => ?_) (fun c_7 => ?_)
    · refine rv_iconst (v := nI 0) d_Keys_bears_27 (by decide) ?_
      exact rv_ireturn ⟨_, rfl, rfl, rfl⟩ d_Keys_bears_28 rfl (bI_nar false)
    · exact absurd (nI_le (by omega) (by omega)) c_7
  | succ m ih =>
    intro i hi
    refine rv_iload_n d_Keys_bears_2 rfl 0 rfl ?_
    refine rv_aload_n d_Keys_bears_3 rfl 1 rfl ?_
    refine rv_get ka_Keys hk rfl 2 (by decide) (wi_Keys_bears _ (List.mem_of_getElem? (i := 0) rfl)) rfl d_Keys_bears_4 ?_
    refine rv_icmp_ge (tgt := 27) d_Keys_bears_7 (by decide) (fun c_7 => ?_) (fun c_7 => ?_)
    · exact absurd c_7 (nI_ge (by omega) (by omega))
    · refine rv_aload_n d_Keys_bears_10 rfl 1 rfl ?_
      refine rv_iload_n d_Keys_bears_11 rfl 0 rfl ?_
      refine rv_aload_n d_Keys_bears_12 rfl 2 rfl ?_
      refine rv_callV (kc' := 0) (ks' := 0) (kc1 := 0) (ks1 := 0) (As := [.int (nI i), .ref b]) (rest := []) hk rfl (c_Keys_isOf hk hw hb (by omega)) ok_Keys_isOf (wi_Keys_bears _ (List.mem_of_getElem? (i := 1) rfl)) (wi_Keys_bears _ (List.mem_of_getElem? (i := 2) rfl)) (wi_Keys_bears _ (List.mem_of_getElem? (i := 3) rfl)) rfl rfl (Nat.le_of_ble_eq_true rfl) (Nat.le_of_ble_eq_true rfl) ⟨Nat.le_of_ble_eq_true rfl, Nat.le_of_ble_eq_true rfl⟩ d_Keys_bears_13 (rv_kie ?_)
      refine rv_if_eq (tgt := 21) d_Keys_bears_16 (by decide) (fun c_16 => ?_) (fun c_16 => ?_)
      · have e : (fun j => decide (kx_n f j = m0)) i = false := bI_0.mp c_16
        refine rv_iinc (k := 0) (v := nI (i + 1)) (lv' := [(2, .int (nI (i + 1))), (0, .ref k), (1, .ref b)]) d_Keys_bears_21 rfl (nI_1 _) (by decide) rfl ?_
        refine rv_goto (tgt := 2) d_Keys_bears_24 (by decide) ?_
        rw [lp_any_f e]
        exact rv_lv [0, 1, 2] rfl (ih (i + 1) (by omega))
      · have e : (fun j => decide (kx_n f j = m0)) i = true := bI_n.mp c_16
        refine rv_iconst (v := nI 1) d_Keys_bears_19 (by decide) ?_
        rw [lp_any_t e]
        exact rv_ireturn ⟨_, rfl, rfl, rfl⟩ d_Keys_bears_20 rfl (bI_nar true)
set_option maxHeartbeats 4000000 in
set_option maxRecDepth 100000 in
theorem c_Keys_bears {l : Launch} {D : va_G} {ca : Nat → ClassId} {hp : hp_T} {d : Nat} {k w i0 b n : Nat} {m0 : nm_T} {f : Nat → Int64} {g : Nat → Int32} (hk : hp k = some (.inr (1, [.ref w, .ref i0, .int (nI n)]))) (hw : hp w = some (.inl (ca 1, 32, .inr (.inl f)))) (hi0 : hp i0 = some (.inl (ca 0, 8, .inl g))) (hn : n ≤ 8) (hb : hp b = some (.inr (0, nm_F m0))) : ma_V l D ca ma_T M_Keys_bears (d + 1) 0 0 hp (ma_qi (ma_eq (bI (lp_any (fun j => decide (kx_n f j = m0)) n 0)) hp)) 0 (lv_args 0 [.ref k, .ref b]) [] := by
  change ma_V l D ca ma_T M_Keys_bears (d + 1) 0 0 hp (ma_qi (ma_eq (bI (lp_any (fun j => decide (kx_n f j = m0)) n 0)) hp)) 0 [(0, .ref k), (1, .ref b)] []
  refine rv_iconst (v := nI 0) d_Keys_bears_0 (by decide) ?_
  refine rv_istore_n (lv' := [(2, .int (nI 0)), (0, .ref k), (1, .ref b)]) d_Keys_bears_1 rfl (by decide) rfl ?_
  exact c_Keys_bears_l hk hw hi0 hn hb n 0 (Nat.zero_add _)
set_option maxHeartbeats 4000000 in
set_option maxRecDepth 100000 in
theorem c_Keys_contains_l {l : Launch} {D : va_G} {ca : Nat → ClassId} {hp : hp_T} {d : Nat} {k w i0 b n : Nat} {m0 : nm_T} {f : Nat → Int64} {g : Nat → Int32} (hk : hp k = some (.inr (1, [.ref w, .ref i0, .int (nI n)]))) (hw : hp w = some (.inl (ca 1, 32, .inr (.inl f)))) (hi0 : hp i0 = some (.inl (ca 0, 8, .inl g))) (hn : n ≤ 8) (hb : hp b = some (.inr (0, nm_F m0))) {x : Int32} : ∀ (m i : Nat), i + m = n → ma_V l D ca ma_T M_Keys_contains (d + 1) 0 0 hp (ma_qi (ma_eq (bI (lp_any (fun j => decide (g j = x) && decide (kx_n f j = m0)) m i)) hp)) 2 [(3, .int (nI i)), (0, .ref k), (1, .ref b), (2, .int x)] [] := by
  intro m
  induction m with
  | zero =>
    intro i hi
    refine rv_iload_n d_Keys_contains_2 rfl 0 rfl ?_
    refine rv_aload_n d_Keys_contains_3 rfl 1 rfl ?_
    refine rv_get ka_Keys hk rfl 2 (by decide) (wi_Keys_contains _ (List.mem_of_getElem? (i := 0) rfl)) rfl d_Keys_contains_4 ?_
    refine rv_icmp_ge (tgt := 37) d_Keys_contains_7 (by decide) (fun c_7 => ?_) (fun c_7 => ?_)
    · refine rv_iconst (v := nI 0) d_Keys_contains_37 (by decide) ?_
      exact rv_ireturn ⟨_, rfl, rfl, rfl⟩ d_Keys_contains_38 rfl (bI_nar false)
    · exact absurd (nI_le (by omega) (by omega)) c_7
  | succ m ih =>
    intro i hi
    refine rv_iload_n d_Keys_contains_2 rfl 0 rfl ?_
    refine rv_aload_n d_Keys_contains_3 rfl 1 rfl ?_
    refine rv_get ka_Keys hk rfl 2 (by decide) (wi_Keys_contains _ (List.mem_of_getElem? (i := 0) rfl)) rfl d_Keys_contains_4 ?_
    refine rv_icmp_ge (tgt := 37) d_Keys_contains_7 (by decide) (fun c_7 => ?_) (fun c_7 => ?_)
    · exact absurd c_7 (nI_ge (by omega) (by omega))
    · refine rv_aload_n d_Keys_contains_10 rfl 1 rfl ?_
      refine rv_get ka_Keys hk rfl 1 (by decide) (wi_Keys_contains _ (List.mem_of_getElem? (i := 1) rfl)) rfl d_Keys_contains_11 ?_
      refine rv_iload_n d_Keys_contains_14 rfl 0 rfl ?_
      refine rv_iald hi0 0 rfl (by omega) (by decide) d_Keys_contains_15 ?_
      refine rv_iload_n d_Keys_contains_16 rfl 3 rfl ?_
      refine rv_icmp_ne (tgt := 31) d_Keys_contains_17 (by decide) (fun c_17 => ?_) (fun c_17 => ?_)
      · have e : (fun j => decide (g j = x) && decide (kx_n f j = m0)) i = false := by simp [c_17]
        refine rv_iinc (k := 0) (v := nI (i + 1)) (lv' := [(3, .int (nI (i + 1))), (0, .ref k), (1, .ref b), (2, .int x)]) d_Keys_contains_31 rfl (nI_1 _) (by decide) rfl ?_
        refine rv_goto (tgt := 2) d_Keys_contains_34 (by decide) ?_
        rw [lp_any_f e]
        exact rv_lv [0, 1, 2, 3] rfl (ih (i + 1) (by omega))
      · refine rv_aload_n d_Keys_contains_20 rfl 1 rfl ?_
        refine rv_iload_n d_Keys_contains_21 rfl 0 rfl ?_
        refine rv_aload_n d_Keys_contains_22 rfl 2 rfl ?_
        refine rv_callV (kc' := 0) (ks' := 0) (kc1 := 0) (ks1 := 0) (As := [.int (nI i), .ref b]) (rest := []) hk rfl (c_Keys_isOf hk hw hb (by omega)) ok_Keys_isOf (wi_Keys_contains _ (List.mem_of_getElem? (i := 2) rfl)) (wi_Keys_contains _ (List.mem_of_getElem? (i := 3) rfl)) (wi_Keys_contains _ (List.mem_of_getElem? (i := 4) rfl)) rfl rfl (Nat.le_of_ble_eq_true rfl) (Nat.le_of_ble_eq_true rfl) ⟨Nat.le_of_ble_eq_true rfl, Nat.le_of_ble_eq_true rfl⟩ d_Keys_contains_23 (rv_kie ?_)
        refine rv_if_eq (tgt := 31) d_Keys_contains_26 (by decide) (fun c_26 => ?_) (fun c_26 => ?_)
        · have e : (fun j => decide (g j = x) && decide (kx_n f j = m0)) i = false := by simp [bI_0.mp c_26]
          refine rv_iinc (k := 0) (v := nI (i + 1)) (lv' := [(3, .int (nI (i + 1))), (0, .ref k), (1, .ref b), (2, .int x)]) d_Keys_contains_31 rfl (nI_1 _) (by decide) rfl ?_
          refine rv_goto (tgt := 2) d_Keys_contains_34 (by decide) ?_
          rw [lp_any_f e]
          exact rv_lv [0, 1, 2, 3] rfl (ih (i + 1) (by omega))
        · have e : (fun j => decide (g j = x) && decide (kx_n f j = m0)) i = true := by simp [c_17, of_decide_eq_true (bI_n.mp c_26)]
          refine rv_iconst (v := nI 1) d_Keys_contains_29 (by decide) ?_
          rw [lp_any_t e]
          exact rv_ireturn ⟨_, rfl, rfl, rfl⟩ d_Keys_contains_30 rfl (bI_nar true)
set_option maxHeartbeats 4000000 in
set_option maxRecDepth 100000 in
theorem c_Keys_contains {l : Launch} {D : va_G} {ca : Nat → ClassId} {hp : hp_T} {d : Nat} {k w i0 b n : Nat} {m0 : nm_T} {f : Nat → Int64} {g : Nat → Int32} (hk : hp k = some (.inr (1, [.ref w, .ref i0, .int (nI n)]))) (hw : hp w = some (.inl (ca 1, 32, .inr (.inl f)))) (hi0 : hp i0 = some (.inl (ca 0, 8, .inl g))) (hn : n ≤ 8) (hb : hp b = some (.inr (0, nm_F m0))) {x : Int32} : ma_V l D ca ma_T M_Keys_contains (d + 1) 0 0 hp (ma_qi (ma_eq (bI (lp_any (fun j => decide (g j = x) && decide (kx_n f j = m0)) n 0)) hp)) 0 (lv_args 0 [.ref k, .ref b, .int x]) [] := by
  change ma_V l D ca ma_T M_Keys_contains (d + 1) 0 0 hp (ma_qi (ma_eq (bI (lp_any (fun j => decide (g j = x) && decide (kx_n f j = m0)) n 0)) hp)) 0 [(0, .ref k), (1, .ref b), (2, .int x)] []
  refine rv_iconst (v := nI 0) d_Keys_contains_0 (by decide) ?_
  refine rv_istore_n (lv' := [(3, .int (nI 0)), (0, .ref k), (1, .ref b), (2, .int x)]) d_Keys_contains_1 rfl (by decide) rfl ?_
  exact c_Keys_contains_l hk hw hi0 hn hb n 0 (Nat.zero_add _)
set_option maxHeartbeats 4000000 in
set_option maxRecDepth 100000 in
theorem c_Keys_misses_l {l : Launch} {D : va_G} {ca : Nat → ClassId} {hp : hp_T} {d : Nat} {k w i0 b n : Nat} {m0 : nm_T} {f : Nat → Int64} {g : Nat → Int32} (hk : hp k = some (.inr (1, [.ref w, .ref i0, .int (nI n)]))) (hw : hp w = some (.inl (ca 1, 32, .inr (.inl f)))) (hi0 : hp i0 = some (.inl (ca 0, 8, .inl g))) (hn : n ≤ 8) (hb : hp b = some (.inr (0, nm_F m0))) {x : Int32} : ∀ (m i : Nat), i + m = n → ma_V l D ca ma_T M_Keys_misses (d + 1) 0 0 hp (ma_qi (ma_eq (bI (lp_any (fun j => (decide (g j < 0) || decide (x ≤ g j)) && decide (kx_n f j = m0)) m i)) hp)) 2 [(3, .int (nI i)), (0, .ref k), (1, .ref b), (2, .int x)] [] := by
  intro m
  induction m with
  | zero =>
    intro i hi
    refine rv_iload_n d_Keys_misses_2 rfl 0 rfl ?_
    refine rv_aload_n d_Keys_misses_3 rfl 1 rfl ?_
    refine rv_get ka_Keys hk rfl 2 (by decide) (wi_Keys_misses _ (List.mem_of_getElem? (i := 0) rfl)) rfl d_Keys_misses_4 ?_
    refine rv_icmp_ge (tgt := 46) d_Keys_misses_7 (by decide) (fun c_7 => ?_) (fun c_7 => ?_)
    · refine rv_iconst (v := nI 0) d_Keys_misses_46 (by decide) ?_
      exact rv_ireturn ⟨_, rfl, rfl, rfl⟩ d_Keys_misses_47 rfl (bI_nar false)
    · exact absurd (nI_le (by omega) (by omega)) c_7
  | succ m ih =>
    intro i hi
    refine rv_iload_n d_Keys_misses_2 rfl 0 rfl ?_
    refine rv_aload_n d_Keys_misses_3 rfl 1 rfl ?_
    refine rv_get ka_Keys hk rfl 2 (by decide) (wi_Keys_misses _ (List.mem_of_getElem? (i := 0) rfl)) rfl d_Keys_misses_4 ?_
    refine rv_icmp_ge (tgt := 46) d_Keys_misses_7 (by decide) (fun c_7 => ?_) (fun c_7 => ?_)
    · exact absurd c_7 (nI_ge (by omega) (by omega))
    · refine rv_aload_n d_Keys_misses_10 rfl 1 rfl ?_
      refine rv_get ka_Keys hk rfl 1 (by decide) (wi_Keys_misses _ (List.mem_of_getElem? (i := 1) rfl)) rfl d_Keys_misses_11 ?_
      refine rv_iload_n d_Keys_misses_14 rfl 0 rfl ?_
      refine rv_iald hi0 0 rfl (by omega) (by decide) d_Keys_misses_15 ?_
      refine rv_if_lt (tgt := 29) d_Keys_misses_16 (by decide) (fun c_16 => ?_) (fun c_16 => ?_)
      · have e0 : (decide (g i < 0) || decide (x ≤ g i)) = true := by simp [c_16]
        refine rv_aload_n d_Keys_misses_29 rfl 1 rfl ?_
        refine rv_iload_n d_Keys_misses_30 rfl 0 rfl ?_
        refine rv_aload_n d_Keys_misses_31 rfl 2 rfl ?_
        refine rv_callV (kc' := 0) (ks' := 0) (kc1 := 0) (ks1 := 0) (As := [.int (nI i), .ref b]) (rest := []) hk rfl (c_Keys_isOf hk hw hb (by omega)) ok_Keys_isOf (wi_Keys_misses _ (List.mem_of_getElem? (i := 2) rfl)) (wi_Keys_misses _ (List.mem_of_getElem? (i := 3) rfl)) (wi_Keys_misses _ (List.mem_of_getElem? (i := 4) rfl)) rfl rfl (Nat.le_of_ble_eq_true rfl) (Nat.le_of_ble_eq_true rfl) ⟨Nat.le_of_ble_eq_true rfl, Nat.le_of_ble_eq_true rfl⟩ d_Keys_misses_32 (rv_kie ?_)
        refine rv_if_eq (tgt := 40) d_Keys_misses_35 (by decide) (fun c_35 => ?_) (fun c_35 => ?_)
        · have e : (fun j => (decide (g j < 0) || decide (x ≤ g j)) && decide (kx_n f j = m0)) i = false := by simp [bI_0.mp c_35]
          refine rv_iinc (k := 0) (v := nI (i + 1)) (lv' := [(3, .int (nI (i + 1))), (0, .ref k), (1, .ref b), (2, .int x)]) d_Keys_misses_40 rfl (nI_1 _) (by decide) rfl ?_
          refine rv_goto (tgt := 2) d_Keys_misses_43 (by decide) ?_
          rw [lp_any_f e]
          exact rv_lv [0, 1, 2, 3] rfl (ih (i + 1) (by omega))
        · have e : (fun j => (decide (g j < 0) || decide (x ≤ g j)) && decide (kx_n f j = m0)) i = true := by show (_ && _) = true; rw [e0, bI_n.mp c_35]; rfl
          refine rv_iconst (v := nI 1) d_Keys_misses_38 (by decide) ?_
          rw [lp_any_t e]
          exact rv_ireturn ⟨_, rfl, rfl, rfl⟩ d_Keys_misses_39 rfl (bI_nar true)
      · refine rv_aload_n d_Keys_misses_19 rfl 1 rfl ?_
        refine rv_get ka_Keys hk rfl 1 (by decide) (wi_Keys_misses _ (List.mem_of_getElem? (i := 1) rfl)) rfl d_Keys_misses_20 ?_
        refine rv_iload_n d_Keys_misses_23 rfl 0 rfl ?_
        refine rv_iald hi0 0 rfl (by omega) (by decide) d_Keys_misses_24 ?_
        refine rv_iload_n d_Keys_misses_25 rfl 3 rfl ?_
        refine rv_icmp_lt (tgt := 40) d_Keys_misses_26 (by decide) (fun c_26 => ?_) (fun c_26 => ?_)
        · have e : (fun j => (decide (g j < 0) || decide (x ≤ g j)) && decide (kx_n f j = m0)) i = false := by simp [c_16, Int32.not_le.mpr c_26]
          refine rv_iinc (k := 0) (v := nI (i + 1)) (lv' := [(3, .int (nI (i + 1))), (0, .ref k), (1, .ref b), (2, .int x)]) d_Keys_misses_40 rfl (nI_1 _) (by decide) rfl ?_
          refine rv_goto (tgt := 2) d_Keys_misses_43 (by decide) ?_
          rw [lp_any_f e]
          exact rv_lv [0, 1, 2, 3] rfl (ih (i + 1) (by omega))
        · have e0 : (decide (g i < 0) || decide (x ≤ g i)) = true := by simp [Int32.not_lt.mp c_26]
          refine rv_aload_n d_Keys_misses_29 rfl 1 rfl ?_
          refine rv_iload_n d_Keys_misses_30 rfl 0 rfl ?_
          refine rv_aload_n d_Keys_misses_31 rfl 2 rfl ?_
          refine rv_callV (kc' := 0) (ks' := 0) (kc1 := 0) (ks1 := 0) (As := [.int (nI i), .ref b]) (rest := []) hk rfl (c_Keys_isOf hk hw hb (by omega)) ok_Keys_isOf (wi_Keys_misses _ (List.mem_of_getElem? (i := 2) rfl)) (wi_Keys_misses _ (List.mem_of_getElem? (i := 3) rfl)) (wi_Keys_misses _ (List.mem_of_getElem? (i := 4) rfl)) rfl rfl (Nat.le_of_ble_eq_true rfl) (Nat.le_of_ble_eq_true rfl) ⟨Nat.le_of_ble_eq_true rfl, Nat.le_of_ble_eq_true rfl⟩ d_Keys_misses_32 (rv_kie ?_)
          refine rv_if_eq (tgt := 40) d_Keys_misses_35 (by decide) (fun c_35 => ?_) (fun c_35 => ?_)
          · have e : (fun j => (decide (g j < 0) || decide (x ≤ g j)) && decide (kx_n f j = m0)) i = false := by simp [bI_0.mp c_35]
            refine rv_iinc (k := 0) (v := nI (i + 1)) (lv' := [(3, .int (nI (i + 1))), (0, .ref k), (1, .ref b), (2, .int x)]) d_Keys_misses_40 rfl (nI_1 _) (by decide) rfl ?_
            refine rv_goto (tgt := 2) d_Keys_misses_43 (by decide) ?_
            rw [lp_any_f e]
            exact rv_lv [0, 1, 2, 3] rfl (ih (i + 1) (by omega))
          · have e : (fun j => (decide (g j < 0) || decide (x ≤ g j)) && decide (kx_n f j = m0)) i = true := by show (_ && _) = true; rw [e0, bI_n.mp c_35]; rfl
            refine rv_iconst (v := nI 1) d_Keys_misses_38 (by decide) ?_
            rw [lp_any_t e]
            exact rv_ireturn ⟨_, rfl, rfl, rfl⟩ d_Keys_misses_39 rfl (bI_nar true)
set_option maxHeartbeats 4000000 in
set_option maxRecDepth 100000 in
theorem c_Keys_misses {l : Launch} {D : va_G} {ca : Nat → ClassId} {hp : hp_T} {d : Nat} {k w i0 b n : Nat} {m0 : nm_T} {f : Nat → Int64} {g : Nat → Int32} (hk : hp k = some (.inr (1, [.ref w, .ref i0, .int (nI n)]))) (hw : hp w = some (.inl (ca 1, 32, .inr (.inl f)))) (hi0 : hp i0 = some (.inl (ca 0, 8, .inl g))) (hn : n ≤ 8) (hb : hp b = some (.inr (0, nm_F m0))) {x : Int32} : ma_V l D ca ma_T M_Keys_misses (d + 1) 0 0 hp (ma_qi (ma_eq (bI (lp_any (fun j => (decide (g j < 0) || decide (x ≤ g j)) && decide (kx_n f j = m0)) n 0)) hp)) 0 (lv_args 0 [.ref k, .ref b, .int x]) [] := by
  change ma_V l D ca ma_T M_Keys_misses (d + 1) 0 0 hp (ma_qi (ma_eq (bI (lp_any (fun j => (decide (g j < 0) || decide (x ≤ g j)) && decide (kx_n f j = m0)) n 0)) hp)) 0 [(0, .ref k), (1, .ref b), (2, .int x)] []
  refine rv_iconst (v := nI 0) d_Keys_misses_0 (by decide) ?_
  refine rv_istore_n (lv' := [(3, .int (nI 0)), (0, .ref k), (1, .ref b), (2, .int x)]) d_Keys_misses_1 rfl (by decide) rfl ?_
  exact c_Keys_misses_l hk hw hi0 hn hb n 0 (Nat.zero_add _)
set_option maxHeartbeats 4000000 in
set_option maxRecDepth 100000 in
theorem c_Keys_sameName_l {l : Launch} {D : va_G} {ca : Nat → ClassId} {hp : hp_T} {d : Nat} {k w i0 n k2 w2 i2 n2 : Nat} {f f2 : Nat → Int64} (hk : hp k = some (.inr (1, [.ref w, .ref i0, .int (nI n)]))) (hw : hp w = some (.inl (ca 1, 32, .inr (.inl f)))) (hk2 : hp k2 = some (.inr (1, [.ref w2, .ref i2, .int (nI n2)]))) (hw2 : hp w2 = some (.inl (ca 1, 32, .inr (.inl f2)))) {j q : Nat} (hj : j < 8) (hq : q < 8) : ∀ (m i : Nat), i + m = 4 → ma_V l D ca ma_T M_Keys_sameName d 0 0 hp (ma_qi (ma_eq (bI (!(lp_any (fun w => !decide (f (j * 4 + w) = f2 (q * 4 + w))) m i))) hp)) 3 [(4, .int (nI i)), (0, .ref k), (1, .int (nI j)), (2, .ref k2), (3, .int (nI q))] [] := by
  intro m
  induction m with
  | zero =>
    intro i hi
    refine rv_iload d_Keys_sameName_3 0 rfl ?_
    refine rv_iconst (v := nI 4) d_Keys_sameName_5 (by decide) ?_
    refine rv_icmp_ge (tgt := 43) d_Keys_sameName_6 (by decide) (fun c_6 => ?_) (fun c_6 => ?_)
    · refine rv_iconst (v := nI 1) d_Keys_sameName_43 (by decide) ?_
      exact rv_ireturn ⟨_, rfl, rfl, rfl⟩ d_Keys_sameName_44 rfl (bI_nar true)
    · exact absurd (nI_le (by omega) (by omega)) c_6
  | succ m ih =>
    intro i hi
    refine rv_iload d_Keys_sameName_3 0 rfl ?_
    refine rv_iconst (v := nI 4) d_Keys_sameName_5 (by decide) ?_
    refine rv_icmp_ge (tgt := 43) d_Keys_sameName_6 (by decide) (fun c_6 => ?_) (fun c_6 => ?_)
    · exact absurd c_6 (nI_ge (by omega) (by omega))
    · refine rv_aload_n d_Keys_sameName_9 rfl 1 rfl ?_
      refine rv_get ka_Keys hk rfl 0 (by decide) (wi_Keys_sameName _ (List.mem_of_getElem? (i := 0) rfl)) rfl d_Keys_sameName_10 ?_
      refine rv_iload_n d_Keys_sameName_13 rfl 2 rfl ?_
      refine rv_iconst (v := nI 4) d_Keys_sameName_14 (by decide) ?_
      refine rv_imul d_Keys_sameName_15 ?_
      refine rv_eqi (pk_mul _ _) ?_
      refine rv_iload d_Keys_sameName_16 0 rfl ?_
      refine rv_iadd d_Keys_sameName_18 ?_
      refine rv_eqi (nI_add _ _) ?_
      refine rv_lald hw 1 rfl (by omega) (by decide) d_Keys_sameName_19 ?_
      refine rv_aload_n d_Keys_sameName_20 rfl 3 rfl ?_
      refine rv_get ka_Keys hk2 rfl 0 (by decide) (wi_Keys_sameName _ (List.mem_of_getElem? (i := 0) rfl)) rfl d_Keys_sameName_21 ?_
      refine rv_iload_n d_Keys_sameName_24 rfl 4 rfl ?_
      refine rv_iconst (v := nI 4) d_Keys_sameName_25 (by decide) ?_
      refine rv_imul d_Keys_sameName_26 ?_
      refine rv_eqi (pk_mul _ _) ?_
      refine rv_iload d_Keys_sameName_27 0 rfl ?_
      refine rv_iadd d_Keys_sameName_29 ?_
      refine rv_eqi (nI_add _ _) ?_
      refine rv_lald hw2 1 rfl (by omega) (by decide) d_Keys_sameName_30 ?_
      refine rv_lcmp d_Keys_sameName_31 ?_
      refine rv_if_eq (tgt := 37) d_Keys_sameName_32 (by decide) (fun c_32 => ?_) (fun c_32 => ?_)
      · have e : (fun w => !decide (f (j * 4 + w) = f2 (q * 4 + w))) i = false := by simp [lc_0.mp c_32]
        refine rv_iinc (k := 0) (v := nI (i + 1)) (lv' := [(4, .int (nI (i + 1))), (0, .ref k), (1, .int (nI j)), (2, .ref k2), (3, .int (nI q))]) d_Keys_sameName_37 rfl (nI_1 _) (by decide) rfl ?_
        refine rv_goto (tgt := 3) d_Keys_sameName_40 (by decide) ?_
        rw [lp_any_f e]
        exact rv_lv [0, 1, 2, 3, 4] rfl (ih (i + 1) (by omega))
      · have e : (fun w => !decide (f (j * 4 + w) = f2 (q * 4 + w))) i = true := by show (!decide _) = true; rw [decide_eq_false (fun z => c_32 (lc_0.mpr z))]; rfl
        refine rv_iconst (v := nI 0) d_Keys_sameName_35 (by decide) ?_
        rw [lp_any_t e]
        exact rv_ireturn ⟨_, rfl, rfl, rfl⟩ d_Keys_sameName_36 rfl (bI_nar false)
set_option maxHeartbeats 4000000 in
set_option maxRecDepth 100000 in
theorem c_Keys_sameName {l : Launch} {D : va_G} {ca : Nat → ClassId} {hp : hp_T} {d : Nat} {k w i0 n k2 w2 i2 n2 : Nat} {f f2 : Nat → Int64} (hk : hp k = some (.inr (1, [.ref w, .ref i0, .int (nI n)]))) (hw : hp w = some (.inl (ca 1, 32, .inr (.inl f)))) (hk2 : hp k2 = some (.inr (1, [.ref w2, .ref i2, .int (nI n2)]))) (hw2 : hp w2 = some (.inl (ca 1, 32, .inr (.inl f2)))) {j q : Nat} (hj : j < 8) (hq : q < 8) : ma_V l D ca ma_T M_Keys_sameName d 0 0 hp (ma_qi (ma_eq (bI (!(lp_any (fun w => !decide (f (j * 4 + w) = f2 (q * 4 + w))) 4 0))) hp)) 0 (lv_args 0 [.ref k, .int (nI j), .ref k2, .int (nI q)]) [] := by
  change ma_V l D ca ma_T M_Keys_sameName d 0 0 hp (ma_qi (ma_eq (bI (!(lp_any (fun w => !decide (f (j * 4 + w) = f2 (q * 4 + w))) 4 0))) hp)) 0 [(0, .ref k), (1, .int (nI j)), (2, .ref k2), (3, .int (nI q))] []
  refine rv_iconst (v := nI 0) d_Keys_sameName_0 (by decide) ?_
  refine rv_istore (lv' := [(4, .int (nI 0)), (0, .ref k), (1, .int (nI j)), (2, .ref k2), (3, .int (nI q))]) d_Keys_sameName_1 (by decide) rfl ?_
  exact c_Keys_sameName_l hk hw hk2 hw2 hj hq 4 0 rfl
set_option maxHeartbeats 4000000 in
set_option maxRecDepth 100000 in
theorem c_Keys_containsOneOf_i {l : Launch} {D : va_G} {ca : Nat → ClassId} {hp : hp_T} {d : Nat} {Q : Option Value → hp_T → Prop} {k w i0 n k2 w2 i2 n2 : Nat} {f f2 : Nat → Int64} {g g2 : Nat → Int32} (hk : hp k = some (.inr (1, [.ref w, .ref i0, .int (nI n)]))) (hw : hp w = some (.inl (ca 1, 32, .inr (.inl f)))) (hk2 : hp k2 = some (.inr (1, [.ref w2, .ref i2, .int (nI n2)]))) (hw2 : hp w2 = some (.inl (ca 1, 32, .inr (.inl f2)))) (hi0 : hp i0 = some (.inl (ca 0, 8, .inl g))) (hn : n ≤ 8) (hi2 : hp i2 = some (.inl (ca 0, 8, .inl g2))) (hn2 : n2 ≤ 8) {i : Nat} (hi : i < n) : ∀ (m j : Nat), j + m = n2 → (lp_any (fun j => decide (g i = g2 j) && !(lp_any (fun w => !decide (f (i * 4 + w) = f2 (j * 4 + w))) 4 0)) m j = true → Q (some (.int (nI 1))) hp) → (lp_any (fun j => decide (g i = g2 j) && !(lp_any (fun w => !decide (f (i * 4 + w) = f2 (j * 4 + w))) 4 0)) m j = false → ∀ j1 : Nat, ma_V l D ca ma_T M_Keys_containsOneOf (d + 1) 0 0 hp Q 53 [(3, .int (nI j1)), (2, .int (nI i)), (0, .ref k), (1, .ref k2)] []) → ma_V l D ca ma_T M_Keys_containsOneOf (d + 1) 0 0 hp Q 12 [(3, .int (nI j)), (2, .int (nI i)), (0, .ref k), (1, .ref k2)] [] := by
  intro m
  induction m with
  | zero =>
    intro j hj hT hF
    refine rv_iload_n d_Keys_containsOneOf_12 rfl 0 rfl ?_
    refine rv_aload_n d_Keys_containsOneOf_13 rfl 3 rfl ?_
    refine rv_get ka_Keys hk2 rfl 2 (by decide) (wi_Keys_containsOneOf _ (List.mem_of_getElem? (i := 0) rfl)) rfl d_Keys_containsOneOf_14 ?_
    refine rv_icmp_ge (tgt := 53) d_Keys_containsOneOf_17 (by decide) (fun c_17 => ?_) (fun c_17 => ?_)
    · exact hF rfl j
    · exact absurd (nI_le (by omega) (by omega)) c_17
  | succ m ih =>
    intro j hj hT hF
    refine rv_iload_n d_Keys_containsOneOf_12 rfl 0 rfl ?_
    refine rv_aload_n d_Keys_containsOneOf_13 rfl 3 rfl ?_
    refine rv_get ka_Keys hk2 rfl 2 (by decide) (wi_Keys_containsOneOf _ (List.mem_of_getElem? (i := 0) rfl)) rfl d_Keys_containsOneOf_14 ?_
    refine rv_icmp_ge (tgt := 53) d_Keys_containsOneOf_17 (by decide) (fun c_17 => ?_) (fun c_17 => ?_)
    · exact absurd c_17 (nI_ge (by omega) (by omega))
    · refine rv_aload_n d_Keys_containsOneOf_20 rfl 2 rfl ?_
      refine rv_get ka_Keys hk rfl 1 (by decide) (wi_Keys_containsOneOf _ (List.mem_of_getElem? (i := 1) rfl)) rfl d_Keys_containsOneOf_21 ?_
      refine rv_iload_n d_Keys_containsOneOf_24 rfl 1 rfl ?_
      refine rv_iald hi0 0 rfl (by omega) (by decide) d_Keys_containsOneOf_25 ?_
      refine rv_aload_n d_Keys_containsOneOf_26 rfl 3 rfl ?_
      refine rv_get ka_Keys hk2 rfl 1 (by decide) (wi_Keys_containsOneOf _ (List.mem_of_getElem? (i := 1) rfl)) rfl d_Keys_containsOneOf_27 ?_
      refine rv_iload_n d_Keys_containsOneOf_30 rfl 0 rfl ?_
      refine rv_iald hi2 0 rfl (by omega) (by decide) d_Keys_containsOneOf_31 ?_
      refine rv_icmp_ne (tgt := 47) d_Keys_containsOneOf_32 (by decide) (fun c_32 => ?_) (fun c_32 => ?_)
      · have e : (fun j => decide (g i = g2 j) && !(lp_any (fun w => !decide (f (i * 4 + w) = f2 (j * 4 + w))) 4 0)) j = false := by show (_ && _) = false; rw [decide_eq_false c_32]; rfl
        refine rv_iinc (k := 0) (v := nI (j + 1)) (lv' := [(3, .int (nI (j + 1))), (2, .int (nI i)), (0, .ref k), (1, .ref k2)]) d_Keys_containsOneOf_47 rfl (nI_1 _) (by decide) rfl ?_
        refine rv_goto (tgt := 12) d_Keys_containsOneOf_50 (by decide) ?_
        exact rv_lv [0, 1, 2, 3] rfl (ih (j + 1) (by omega) (fun h => hT (by rw [lp_any_f e]; exact h)) (fun h => hF (by rw [lp_any_f e]; exact h)))
      · refine rv_aload_n d_Keys_containsOneOf_35 rfl 2 rfl ?_
        refine rv_iload_n d_Keys_containsOneOf_36 rfl 1 rfl ?_
        refine rv_aload_n d_Keys_containsOneOf_37 rfl 3 rfl ?_
        refine rv_iload_n d_Keys_containsOneOf_38 rfl 0 rfl ?_
        refine rv_callV (kc' := 0) (ks' := 0) (kc1 := 0) (ks1 := 0) (As := [.int (nI i), .ref k2, .int (nI j)]) (rest := []) hk rfl (c_Keys_sameName hk hw hk2 hw2 (by omega) (by omega)) ok_Keys_sameName (wi_Keys_containsOneOf _ (List.mem_of_getElem? (i := 2) rfl)) (wi_Keys_containsOneOf _ (List.mem_of_getElem? (i := 3) rfl)) (wi_Keys_containsOneOf _ (List.mem_of_getElem? (i := 4) rfl)) rfl rfl (Nat.le_of_ble_eq_true rfl) (Nat.le_of_ble_eq_true rfl) ⟨Nat.le_of_ble_eq_true rfl, Nat.le_of_ble_eq_true rfl⟩ d_Keys_containsOneOf_39 (rv_kie ?_)
        refine rv_if_eq (tgt := 47) d_Keys_containsOneOf_42 (by decide) (fun c_42 => ?_) (fun c_42 => ?_)
        · have e : (fun j => decide (g i = g2 j) && !(lp_any (fun w => !decide (f (i * 4 + w) = f2 (j * 4 + w))) 4 0)) j = false := by show (_ && _) = false; rw [bI_0.mp c_42, Bool.and_false]
          refine rv_iinc (k := 0) (v := nI (j + 1)) (lv' := [(3, .int (nI (j + 1))), (2, .int (nI i)), (0, .ref k), (1, .ref k2)]) d_Keys_containsOneOf_47 rfl (nI_1 _) (by decide) rfl ?_
          refine rv_goto (tgt := 12) d_Keys_containsOneOf_50 (by decide) ?_
          exact rv_lv [0, 1, 2, 3] rfl (ih (j + 1) (by omega) (fun h => hT (by rw [lp_any_f e]; exact h)) (fun h => hF (by rw [lp_any_f e]; exact h)))
        · have e : (fun j => decide (g i = g2 j) && !(lp_any (fun w => !decide (f (i * 4 + w) = f2 (j * 4 + w))) 4 0)) j = true := by show (_ && _) = true; rw [decide_eq_true c_32, bI_n.mp c_42]; rfl
          refine rv_iconst (v := nI 1) d_Keys_containsOneOf_45 (by decide) ?_
          exact rv_ireturn (hT (lp_any_t e)) d_Keys_containsOneOf_46 rfl (bI_nar true)
set_option maxHeartbeats 4000000 in
set_option maxRecDepth 100000 in
theorem c_Keys_containsOneOf_l {l : Launch} {D : va_G} {ca : Nat → ClassId} {hp : hp_T} {d : Nat} {k w i0 n k2 w2 i2 n2 : Nat} {f f2 : Nat → Int64} {g g2 : Nat → Int32} (hk : hp k = some (.inr (1, [.ref w, .ref i0, .int (nI n)]))) (hw : hp w = some (.inl (ca 1, 32, .inr (.inl f)))) (hk2 : hp k2 = some (.inr (1, [.ref w2, .ref i2, .int (nI n2)]))) (hw2 : hp w2 = some (.inl (ca 1, 32, .inr (.inl f2)))) (hi0 : hp i0 = some (.inl (ca 0, 8, .inl g))) (hn : n ≤ 8) (hi2 : hp i2 = some (.inl (ca 0, 8, .inl g2))) (hn2 : n2 ≤ 8) : ∀ (m i : Nat), i + m = n → ma_V l D ca ma_T M_Keys_containsOneOf (d + 1) 0 0 hp (ma_qi (ma_eq (bI (lp_any (fun i => lp_any (fun j => decide (g i = g2 j) && !(lp_any (fun w => !decide (f (i * 4 + w) = f2 (j * 4 + w))) 4 0)) n2 0) m i)) hp)) 2 [(2, .int (nI i)), (0, .ref k), (1, .ref k2)] [] := by
  intro m
  induction m with
  | zero =>
    intro i hi
    refine rv_iload_n d_Keys_containsOneOf_2 rfl 0 rfl ?_
    refine rv_aload_n d_Keys_containsOneOf_3 rfl 1 rfl ?_
    refine rv_get ka_Keys hk rfl 2 (by decide) (wi_Keys_containsOneOf _ (List.mem_of_getElem? (i := 0) rfl)) rfl d_Keys_containsOneOf_4 ?_
    refine rv_icmp_ge (tgt := 59) d_Keys_containsOneOf_7 (by decide) (fun c_7 => ?_) (fun c_7 => ?_)
    · refine rv_iconst (v := nI 0) d_Keys_containsOneOf_59 (by decide) ?_
      exact rv_ireturn ⟨_, rfl, rfl, rfl⟩ d_Keys_containsOneOf_60 rfl (bI_nar false)
    · exact absurd (nI_le (by omega) (by omega)) c_7
  | succ m ih =>
    intro i hi
    refine rv_iload_n d_Keys_containsOneOf_2 rfl 0 rfl ?_
    refine rv_aload_n d_Keys_containsOneOf_3 rfl 1 rfl ?_
    refine rv_get ka_Keys hk rfl 2 (by decide) (wi_Keys_containsOneOf _ (List.mem_of_getElem? (i := 0) rfl)) rfl d_Keys_containsOneOf_4 ?_
    refine rv_icmp_ge (tgt := 59) d_Keys_containsOneOf_7 (by decide) (fun c_7 => ?_) (fun c_7 => ?_)
    · exact absurd c_7 (nI_ge (by omega) (by omega))
    · refine rv_iconst (v := nI 0) d_Keys_containsOneOf_10 (by decide) ?_
      refine rv_istore_n (lv' := [(3, .int (nI 0)), (2, .int (nI i)), (0, .ref k), (1, .ref k2)]) d_Keys_containsOneOf_11 rfl (by decide) rfl ?_
      refine rv_lv [0, 1, 2, 3] rfl (c_Keys_containsOneOf_i (i := i) hk hw hk2 hw2 hi0 hn hi2 hn2 (by omega) n2 0 (Nat.zero_add _) (fun h => ?_) (fun h j1 => ?_))
      · exact ⟨_, rfl, by rw [lp_any_t (P := fun i => lp_any (fun j => decide (g i = g2 j) && !(lp_any (fun w => !decide (f (i * 4 + w) = f2 (j * 4 + w))) 4 0)) n2 0) h]; rfl, rfl⟩
      · refine rv_iinc (k := 1) (v := nI (i + 1)) (lv' := [(2, .int (nI (i + 1))), (3, .int (nI j1)), (0, .ref k), (1, .ref k2)]) d_Keys_containsOneOf_53 rfl (nI_1 _) (by decide) rfl ?_
        refine rv_goto (tgt := 2) d_Keys_containsOneOf_56 (by decide) ?_
        rw [lp_any_f (P := fun i => lp_any (fun j => decide (g i = g2 j) && !(lp_any (fun w => !decide (f (i * 4 + w) = f2 (j * 4 + w))) 4 0)) n2 0) h]
        exact rv_lv [0, 2, 3] rfl (ih (i + 1) (by omega))
set_option maxHeartbeats 4000000 in
set_option maxRecDepth 100000 in
theorem c_Keys_containsOneOf {l : Launch} {D : va_G} {ca : Nat → ClassId} {hp : hp_T} {d : Nat} {k w i0 n k2 w2 i2 n2 : Nat} {f f2 : Nat → Int64} {g g2 : Nat → Int32} (hk : hp k = some (.inr (1, [.ref w, .ref i0, .int (nI n)]))) (hw : hp w = some (.inl (ca 1, 32, .inr (.inl f)))) (hk2 : hp k2 = some (.inr (1, [.ref w2, .ref i2, .int (nI n2)]))) (hw2 : hp w2 = some (.inl (ca 1, 32, .inr (.inl f2)))) (hi0 : hp i0 = some (.inl (ca 0, 8, .inl g))) (hn : n ≤ 8) (hi2 : hp i2 = some (.inl (ca 0, 8, .inl g2))) (hn2 : n2 ≤ 8) : ma_V l D ca ma_T M_Keys_containsOneOf (d + 1) 0 0 hp (ma_qi (ma_eq (bI (lp_any (fun i => lp_any (fun j => decide (g i = g2 j) && !(lp_any (fun w => !decide (f (i * 4 + w) = f2 (j * 4 + w))) 4 0)) n2 0) n 0)) hp)) 0 (lv_args 0 [.ref k, .ref k2]) [] := by
  change ma_V l D ca ma_T M_Keys_containsOneOf (d + 1) 0 0 hp (ma_qi (ma_eq (bI (lp_any (fun i => lp_any (fun j => decide (g i = g2 j) && !(lp_any (fun w => !decide (f (i * 4 + w) = f2 (j * 4 + w))) 4 0)) n2 0) n 0)) hp)) 0 [(0, .ref k), (1, .ref k2)] []
  refine rv_iconst (v := nI 0) d_Keys_containsOneOf_0 (by decide) ?_
  refine rv_istore_n (lv' := [(2, .int (nI 0)), (0, .ref k), (1, .ref k2)]) d_Keys_containsOneOf_1 rfl (by decide) rfl ?_
  exact c_Keys_containsOneOf_l hk hw hk2 hw2 hi0 hn hi2 hn2 n 0 (Nat.zero_add _)
theorem ck_bears {l : Launch} {D : va_G} {ca : Nat → ClassId} {hp : hp_T} {d : Nat} {k w i : Nat} {v : kv_T} (h : kx_At ca hp k w i v) {b : Nat} {m0 : nm_T} (hb : hp b = some (.inr (0, nm_F m0))) : ma_V l D ca ma_T M_Keys_bears (d + 1) 0 0 hp (ma_qi (ma_eq (bI (kv_bears v m0)) hp)) 0 (lv_args 0 [.ref k, .ref b]) [] := c_Keys_bears h.1 h.2.1 h.2.2.1 h.2.2.2 hb
theorem ck_has {l : Launch} {D : va_G} {ca : Nat → ClassId} {hp : hp_T} {d : Nat} {k w i : Nat} {v : kv_T} (h : kx_At ca hp k w i v) {b : Nat} {m0 : nm_T} (hb : hp b = some (.inr (0, nm_F m0))) {x : Int32} : ma_V l D ca ma_T M_Keys_contains (d + 1) 0 0 hp (ma_qi (ma_eq (bI (kv_has v m0 x)) hp)) 0 (lv_args 0 [.ref k, .ref b, .int x]) [] := c_Keys_contains h.1 h.2.1 h.2.2.1 h.2.2.2 hb
theorem ck_miss {l : Launch} {D : va_G} {ca : Nat → ClassId} {hp : hp_T} {d : Nat} {k w i : Nat} {v : kv_T} (h : kx_At ca hp k w i v) {b : Nat} {m0 : nm_T} (hb : hp b = some (.inr (0, nm_F m0))) {x : Int32} : ma_V l D ca ma_T M_Keys_misses (d + 1) 0 0 hp (ma_qi (ma_eq (bI (kv_miss v m0 x)) hp)) 0 (lv_args 0 [.ref k, .ref b, .int x]) [] := c_Keys_misses h.1 h.2.1 h.2.2.1 h.2.2.2 hb
theorem ck_meet {l : Launch} {D : va_G} {ca : Nat → ClassId} {hp : hp_T} {d : Nat} {k w i : Nat} {v : kv_T} (h : kx_At ca hp k w i v) {k2 w2 i2 : Nat} {u : kv_T} (h2 : kx_At ca hp k2 w2 i2 u) : ma_V l D ca ma_T M_Keys_containsOneOf (d + 1) 0 0 hp (ma_qi (ma_eq (bI (kv_meet v u)) hp)) 0 (lv_args 0 [.ref k, .ref k2]) [] := c_Keys_containsOneOf h.1 h.2.1 h2.1 h2.2.1 h.2.2.1 h.2.2.2 h2.2.2.1 h2.2.2.2
end
section
def wl_Pool_find : List Cond := [.fieldLink "PoolDesk$Pool" 18 "PoolDesk$Pool" "present" "J", .static y_Desk_has, .fieldLink "PoolDesk$Pool" 11 "PoolDesk$Pool" "places" "[LPoolDesk$Transaction;", .fieldLink "PoolDesk$Pool" 26 "PoolDesk$Transaction" "ownName" "LPoolDesk$Name;", .methodLink "PoolDesk$Pool" 30 y_Name_same, .instanceMethod y_Name_same, .selects "PoolDesk$Name" y_Name_same y_Name_same]
theorem wi_Pool_find : ∀ w ∈ wl_Pool_find, w ∈ ma_tbl := by decide +kernel
def wl_Pool_findSpender : List Cond := [.fieldLink "PoolDesk$Pool" 18 "PoolDesk$Pool" "present" "J", .static y_Desk_has, .fieldLink "PoolDesk$Pool" 11 "PoolDesk$Pool" "places" "[LPoolDesk$Transaction;", .fieldLink "PoolDesk$Pool" 36 "PoolDesk$Transaction" "keys" "LPoolDesk$Keys;", .methodLink "PoolDesk$Pool" 40 y_Keys_contains, .instanceMethod y_Keys_contains, .selects "PoolDesk$Keys" y_Keys_contains y_Keys_contains]
theorem wi_Pool_findSpender : ∀ w ∈ wl_Pool_findSpender, w ∈ ma_tbl := by decide +kernel
def wl_Pool_isSpent : List Cond := [.fieldLink "PoolDesk$Pool" 18 "PoolDesk$Pool" "present" "J", .static y_Desk_has, .fieldLink "PoolDesk$Pool" 11 "PoolDesk$Pool" "places" "[LPoolDesk$Transaction;", .fieldLink "PoolDesk$Pool" 36 "PoolDesk$Transaction" "keys" "LPoolDesk$Keys;", .methodLink "PoolDesk$Pool" 68 y_Keys_containsOneOf, .instanceMethod y_Keys_containsOneOf, .selects "PoolDesk$Keys" y_Keys_containsOneOf y_Keys_containsOneOf]
theorem wi_Pool_isSpent : ∀ w ∈ wl_Pool_isSpent, w ∈ ma_tbl := by decide +kernel
def wl_Pool_missesOutput : List Cond := [.fieldLink "PoolDesk$Pool" 18 "PoolDesk$Pool" "present" "J", .static y_Desk_has, .fieldLink "PoolDesk$Pool" 11 "PoolDesk$Pool" "places" "[LPoolDesk$Transaction;", .fieldLink "PoolDesk$Pool" 26 "PoolDesk$Transaction" "ownName" "LPoolDesk$Name;", .fieldLink "PoolDesk$Pool" 71 "PoolDesk$Transaction" "outputs" "I", .methodLink "PoolDesk$Pool" 75 y_Keys_misses, .instanceMethod y_Keys_misses, .selects "PoolDesk$Keys" y_Keys_misses y_Keys_misses, .fieldLink "PoolDesk$Pool" 36 "PoolDesk$Transaction" "keys" "LPoolDesk$Keys;"]
theorem wi_Pool_missesOutput : ∀ w ∈ wl_Pool_missesOutput, w ∈ ma_tbl := by decide +kernel
def wl_Pool_spendersOf : List Cond := [.fieldLink "PoolDesk$Pool" 18 "PoolDesk$Pool" "present" "J", .static y_Desk_has, .fieldLink "PoolDesk$Pool" 11 "PoolDesk$Pool" "places" "[LPoolDesk$Transaction;", .fieldLink "PoolDesk$Pool" 36 "PoolDesk$Transaction" "keys" "LPoolDesk$Keys;", .methodLink "PoolDesk$Pool" 78 y_Keys_bears, .instanceMethod y_Keys_bears, .selects "PoolDesk$Keys" y_Keys_bears y_Keys_bears, .static y_Desk_bit]
theorem wi_Pool_spendersOf : ∀ w ∈ wl_Pool_spendersOf, w ∈ ma_tbl := by decide +kernel
def wl_Pool_named : List Cond := [.fieldLink "PoolDesk$Pool" 18 "PoolDesk$Pool" "present" "J", .static y_Desk_has, .fieldLink "PoolDesk$Pool" 11 "PoolDesk$Pool" "places" "[LPoolDesk$Transaction;", .fieldLink "PoolDesk$Pool" 26 "PoolDesk$Transaction" "ownName" "LPoolDesk$Name;", .methodLink "PoolDesk$Pool" 78 y_Keys_bears, .instanceMethod y_Keys_bears, .selects "PoolDesk$Keys" y_Keys_bears y_Keys_bears, .static y_Desk_bit]
theorem wi_Pool_named : ∀ w ∈ wl_Pool_named, w ∈ ma_tbl := by decide +kernel
def wl_Pool_sumOfFees : List Cond := [.static y_Desk_has, .fieldLink "PoolDesk$Pool" 11 "PoolDesk$Pool" "places" "[LPoolDesk$Transaction;", .fieldLink "PoolDesk$Pool" 129 "PoolDesk$Transaction" "fee" "J"]
theorem wi_Pool_sumOfFees : ∀ w ∈ wl_Pool_sumOfFees, w ∈ ma_tbl := by decide +kernel
def wl_Pool_sumOfSizes : List Cond := [.static y_Desk_has, .fieldLink "PoolDesk$Pool" 11 "PoolDesk$Pool" "places" "[LPoolDesk$Transaction;", .fieldLink "PoolDesk$Pool" 132 "PoolDesk$Transaction" "size" "I"]
theorem wi_Pool_sumOfSizes : ∀ w ∈ wl_Pool_sumOfSizes, w ∈ ma_tbl := by decide +kernel
def wl_Pool_sumOfKeys : List Cond := [.fieldLink "PoolDesk$Pool" 18 "PoolDesk$Pool" "present" "J", .static y_Desk_has, .fieldLink "PoolDesk$Pool" 11 "PoolDesk$Pool" "places" "[LPoolDesk$Transaction;", .fieldLink "PoolDesk$Pool" 36 "PoolDesk$Transaction" "keys" "LPoolDesk$Keys;", .fieldLink "PoolDesk$Pool" 135 "PoolDesk$Keys" "held" "I"]
theorem wi_Pool_sumOfKeys : ∀ w ∈ wl_Pool_sumOfKeys, w ∈ ma_tbl := by decide +kernel
set_option maxHeartbeats 4000000 in
set_option maxRecDepth 100000 in
theorem c_Pool_find_l {l : Launch} {D : va_G} {ca : Nat → ClassId} {hp : hp_T} {d : Nat} {po : Nat} {L : po_L} {S : po_S} (hS : po_At ca hp po L S) {b : Nat} {m0 : nm_T} (hb : hp b = some (.inr (0, nm_F m0))) : ∀ (m i : Nat), i + m = 41 → ma_V l D ca ma_T M_Pool_find (d + 2) 0 0 hp (ma_qi (ma_eq (lp_find (fun p => bz_t S.1 p && decide ((S.2.2 p).1 = m0)) m i) hp)) 2 [(2, .int (nI i)), (0, .ref po), (1, .ref b)] [] := by
  obtain ⟨f, hf, hfp⟩ := hS.2.1
  intro m
  induction m with
  | zero =>
    intro i hi
    refine rv_iload_n d_Pool_find_2 rfl 0 rfl ?_
    refine rv_bipush (v := nI 41) d_Pool_find_3 (by decide) ?_
    refine rv_icmp_ge (tgt := 43) d_Pool_find_5 (by decide) (fun c_5 => ?_) (fun c_5 => ?_)
    · refine rv_iconst (v := (-1)) d_Pool_find_43 (by decide) ?_
      exact rv_ireturn ⟨_, rfl, rfl, rfl⟩ d_Pool_find_44 rfl rfl
    · exact absurd (nI_le (by omega) (by omega)) c_5
  | succ m ih =>
    intro i hi
    refine rv_iload_n d_Pool_find_2 rfl 0 rfl ?_
    refine rv_bipush (v := nI 41) d_Pool_find_3 (by decide) ?_
    refine rv_icmp_ge (tgt := 43) d_Pool_find_5 (by decide) (fun c_5 => ?_) (fun c_5 => ?_)
    · exact absurd c_5 (nI_ge (by omega) (by omega))
    · refine rv_aload_n d_Pool_find_8 rfl 1 rfl ?_
      refine rv_get ka_Pool hS.1 rfl 1 (by decide) (wi_Pool_find _ (List.mem_of_getElem? (i := 0) rfl)) rfl d_Pool_find_9 ?_
      refine rv_iload_n d_Pool_find_12 rfl 0 rfl ?_
      refine rv_callSN (kc' := 0) (ks' := 0) (kc1 := 0) (ks1 := 0) (As := [.long S.1, .int (nI i)]) (rest := []) (c_Desk_has (by omega)) ok_Desk_has (host := "PoolDesk") (List.mem_of_getElem? (i := 6) rfl) (wi_Pool_find _ (List.mem_of_getElem? (i := 1) rfl)) rfl rfl (Nat.le_of_ble_eq_true rfl) (Nat.le_of_ble_eq_true rfl) ⟨Nat.le_of_ble_eq_true rfl, Nat.le_of_ble_eq_true rfl⟩ d_Pool_find_13 (rv_kie ?_)
      refine rv_if_eq (tgt := 37) d_Pool_find_16 (by decide) (fun c_16 => ?_) (fun c_16 => ?_)
      · have e : (fun p => bz_t S.1 p && decide ((S.2.2 p).1 = m0)) i = false := by simp [bI_0.mp c_16]
        refine rv_iinc (k := 0) (v := nI (i + 1)) (lv' := [(2, .int (nI (i + 1))), (0, .ref po), (1, .ref b)]) d_Pool_find_37 rfl (nI_1 _) (by decide) rfl ?_
        refine rv_goto (tgt := 2) d_Pool_find_40 (by decide) ?_
        rw [lp_find_f e]
        exact rv_lv [0, 1, 2] rfl (ih (i + 1) (by omega))
      · refine rv_aload_n d_Pool_find_19 rfl 1 rfl ?_
        refine rv_get ka_Pool hS.1 rfl 0 (by decide) (wi_Pool_find _ (List.mem_of_getElem? (i := 2) rfl)) rfl d_Pool_find_20 ?_
        refine rv_iload_n d_Pool_find_23 rfl 0 rfl ?_
        refine rv_aald hf 2 rfl (by omega) (by decide) d_Pool_find_24 ?_
        refine rv_eqv (y := .ref (L.2.1 i)) ((by rw [hfp i (by omega)]; rfl)) ?_
        refine rv_get ka_Tx (hS.2.2 i (by omega)).1 rfl 0 (by decide) (wi_Pool_find _ (List.mem_of_getElem? (i := 3) rfl)) rfl d_Pool_find_25 ?_
        refine rv_aload_n d_Pool_find_28 rfl 2 rfl ?_
        refine rv_callV (kc' := 0) (ks' := 0) (kc1 := 0) (ks1 := 0) (As := [.ref b]) (rest := []) (hS.2.2 i (by omega)).2.1 rfl (c_Name_same (hS.2.2 i (by omega)).2.1 hb) ok_Name_same (wi_Pool_find _ (List.mem_of_getElem? (i := 4) rfl)) (wi_Pool_find _ (List.mem_of_getElem? (i := 5) rfl)) (wi_Pool_find _ (List.mem_of_getElem? (i := 6) rfl)) rfl rfl (Nat.le_of_ble_eq_true rfl) (Nat.le_of_ble_eq_true rfl) ⟨Nat.le_of_ble_eq_true rfl, Nat.le_of_ble_eq_true rfl⟩ d_Pool_find_29 (rv_kie ?_)
        refine rv_if_eq (tgt := 37) d_Pool_find_32 (by decide) (fun c_32 => ?_) (fun c_32 => ?_)
        · have e : (fun p => bz_t S.1 p && decide ((S.2.2 p).1 = m0)) i = false := by show (_ && _) = false; rw [bI_0.mp c_32, Bool.and_false]
          refine rv_iinc (k := 0) (v := nI (i + 1)) (lv' := [(2, .int (nI (i + 1))), (0, .ref po), (1, .ref b)]) d_Pool_find_37 rfl (nI_1 _) (by decide) rfl ?_
          refine rv_goto (tgt := 2) d_Pool_find_40 (by decide) ?_
          rw [lp_find_f e]
          exact rv_lv [0, 1, 2] rfl (ih (i + 1) (by omega))
        · have e : (fun p => bz_t S.1 p && decide ((S.2.2 p).1 = m0)) i = true := by show (_ && _) = true; rw [bI_n.mp c_16, bI_n.mp c_32]; rfl
          refine rv_iload_n d_Pool_find_35 rfl 0 rfl ?_
          rw [lp_find_t e]
          exact rv_ireturn ⟨_, rfl, rfl, rfl⟩ d_Pool_find_36 rfl rfl
set_option maxHeartbeats 4000000 in
set_option maxRecDepth 100000 in
theorem c_Pool_find {l : Launch} {D : va_G} {ca : Nat → ClassId} {hp : hp_T} {d : Nat} {po : Nat} {L : po_L} {S : po_S} (hS : po_At ca hp po L S) {b : Nat} {m0 : nm_T} (hb : hp b = some (.inr (0, nm_F m0))) : ma_V l D ca ma_T M_Pool_find (d + 2) 0 0 hp (ma_qi (ma_eq (cl_find S m0) hp)) 0 (lv_args 0 [.ref po, .ref b]) [] := by
  change ma_V l D ca ma_T M_Pool_find (d + 2) 0 0 hp (ma_qi (ma_eq (cl_find S m0) hp)) 0 [(0, .ref po), (1, .ref b)] []
  refine rv_iconst (v := nI 0) d_Pool_find_0 (by decide) ?_
  refine rv_istore_n (lv' := [(2, .int (nI 0)), (0, .ref po), (1, .ref b)]) d_Pool_find_1 rfl (by decide) rfl ?_
  exact c_Pool_find_l hS hb 41 0 (Nat.zero_add _)
set_option maxHeartbeats 4000000 in
set_option maxRecDepth 100000 in
theorem c_Pool_findSpender_l {l : Launch} {D : va_G} {ca : Nat → ClassId} {hp : hp_T} {d : Nat} {po : Nat} {L : po_L} {S : po_S} (hS : po_At ca hp po L S) {b : Nat} {m0 : nm_T} {x : Int32} (hb : hp b = some (.inr (0, nm_F m0))) : ∀ (m i : Nat), i + m = 41 → ma_V l D ca ma_T M_Pool_findSpender (d + 3) 0 0 hp (ma_qi (ma_eq (lp_find (fun p => bz_t S.1 p && kv_has (S.2.2 p).2.1 m0 x) m i) hp)) 2 [(3, .int (nI i)), (0, .ref po), (1, .ref b), (2, .int x)] [] := by
  obtain ⟨f, hf, hfp⟩ := hS.2.1
  intro m
  induction m with
  | zero =>
    intro i hi
    refine rv_iload_n d_Pool_findSpender_2 rfl 0 rfl ?_
    refine rv_bipush (v := nI 41) d_Pool_findSpender_3 (by decide) ?_
    refine rv_icmp_ge (tgt := 44) d_Pool_findSpender_5 (by decide) (fun c_5 => ?_) (fun c_5 => ?_)
    · refine rv_iconst (v := (-1)) d_Pool_findSpender_44 (by decide) ?_
      exact rv_ireturn ⟨_, rfl, rfl, rfl⟩ d_Pool_findSpender_45 rfl rfl
    · exact absurd (nI_le (by omega) (by omega)) c_5
  | succ m ih =>
    intro i hi
    refine rv_iload_n d_Pool_findSpender_2 rfl 0 rfl ?_
    refine rv_bipush (v := nI 41) d_Pool_findSpender_3 (by decide) ?_
    refine rv_icmp_ge (tgt := 44) d_Pool_findSpender_5 (by decide) (fun c_5 => ?_) (fun c_5 => ?_)
    · exact absurd c_5 (nI_ge (by omega) (by omega))
    · refine rv_aload_n d_Pool_findSpender_8 rfl 1 rfl ?_
      refine rv_get ka_Pool hS.1 rfl 1 (by decide) (wi_Pool_findSpender _ (List.mem_of_getElem? (i := 0) rfl)) rfl d_Pool_findSpender_9 ?_
      refine rv_iload_n d_Pool_findSpender_12 rfl 0 rfl ?_
      refine rv_callSN (kc' := 0) (ks' := 0) (kc1 := 0) (ks1 := 0) (As := [.long S.1, .int (nI i)]) (rest := []) (c_Desk_has (by omega)) ok_Desk_has (host := "PoolDesk") (List.mem_of_getElem? (i := 6) rfl) (wi_Pool_findSpender _ (List.mem_of_getElem? (i := 1) rfl)) rfl rfl (Nat.le_of_ble_eq_true rfl) (Nat.le_of_ble_eq_true rfl) ⟨Nat.le_of_ble_eq_true rfl, Nat.le_of_ble_eq_true rfl⟩ d_Pool_findSpender_13 (rv_kie ?_)
      refine rv_if_eq (tgt := 38) d_Pool_findSpender_16 (by decide) (fun c_16 => ?_) (fun c_16 => ?_)
      · have e : (fun p => bz_t S.1 p && kv_has (S.2.2 p).2.1 m0 x) i = false := by show (_ && _) = false; rw [bI_0.mp c_16, Bool.false_and]
        refine rv_iinc (k := 0) (v := nI (i + 1)) (lv' := [(3, .int (nI (i + 1))), (0, .ref po), (1, .ref b), (2, .int x)]) d_Pool_findSpender_38 rfl (nI_1 _) (by decide) rfl ?_
        refine rv_goto (tgt := 2) d_Pool_findSpender_41 (by decide) ?_
        rw [lp_find_f e]
        exact rv_lv [0, 1, 2, 3] rfl (ih (i + 1) (by omega))
      · refine rv_aload_n d_Pool_findSpender_19 rfl 1 rfl ?_
        refine rv_get ka_Pool hS.1 rfl 0 (by decide) (wi_Pool_findSpender _ (List.mem_of_getElem? (i := 2) rfl)) rfl d_Pool_findSpender_20 ?_
        refine rv_iload_n d_Pool_findSpender_23 rfl 0 rfl ?_
        refine rv_aald hf 2 rfl (by omega) (by decide) d_Pool_findSpender_24 ?_
        refine rv_eqv (y := .ref (L.2.1 i)) ((by rw [hfp i (by omega)]; rfl)) ?_
        refine rv_get ka_Tx (hS.2.2 i (by omega)).1 rfl 1 (by decide) (wi_Pool_findSpender _ (List.mem_of_getElem? (i := 3) rfl)) rfl d_Pool_findSpender_25 ?_
        refine rv_aload_n d_Pool_findSpender_28 rfl 2 rfl ?_
        refine rv_iload_n d_Pool_findSpender_29 rfl 3 rfl ?_
        refine rv_callV (kc' := 0) (ks' := 0) (kc1 := 0) (ks1 := 0) (As := [.ref b, .int x]) (rest := []) (hS.2.2 i (by omega)).2.2.1 rfl (ck_has (hS.2.2 i (by omega)).2.2 hb) ok_Keys_contains (wi_Pool_findSpender _ (List.mem_of_getElem? (i := 4) rfl)) (wi_Pool_findSpender _ (List.mem_of_getElem? (i := 5) rfl)) (wi_Pool_findSpender _ (List.mem_of_getElem? (i := 6) rfl)) rfl rfl (Nat.le_of_ble_eq_true rfl) (Nat.le_of_ble_eq_true rfl) ⟨Nat.le_of_ble_eq_true rfl, Nat.le_of_ble_eq_true rfl⟩ d_Pool_findSpender_30 (rv_kie ?_)
        refine rv_if_eq (tgt := 38) d_Pool_findSpender_33 (by decide) (fun c_33 => ?_) (fun c_33 => ?_)
        · have e : (fun p => bz_t S.1 p && kv_has (S.2.2 p).2.1 m0 x) i = false := by show (_ && _) = false; rw [bI_0.mp c_33, Bool.and_false]
          refine rv_iinc (k := 0) (v := nI (i + 1)) (lv' := [(3, .int (nI (i + 1))), (0, .ref po), (1, .ref b), (2, .int x)]) d_Pool_findSpender_38 rfl (nI_1 _) (by decide) rfl ?_
          refine rv_goto (tgt := 2) d_Pool_findSpender_41 (by decide) ?_
          rw [lp_find_f e]
          exact rv_lv [0, 1, 2, 3] rfl (ih (i + 1) (by omega))
        · have e : (fun p => bz_t S.1 p && kv_has (S.2.2 p).2.1 m0 x) i = true := by show (_ && _) = true; rw [bI_n.mp c_16, bI_n.mp c_33]; rfl
          refine rv_iload_n d_Pool_findSpender_36 rfl 0 rfl ?_
          rw [lp_find_t e]
          exact rv_ireturn ⟨_, rfl, rfl, rfl⟩ d_Pool_findSpender_37 rfl rfl
set_option maxHeartbeats 4000000 in
set_option maxRecDepth 100000 in
theorem c_Pool_findSpender {l : Launch} {D : va_G} {ca : Nat → ClassId} {hp : hp_T} {d : Nat} {po : Nat} {L : po_L} {S : po_S} (hS : po_At ca hp po L S) {b : Nat} {m0 : nm_T} {x : Int32} (hb : hp b = some (.inr (0, nm_F m0))) : ma_V l D ca ma_T M_Pool_findSpender (d + 3) 0 0 hp (ma_qi (ma_eq (cl_spender S m0 x) hp)) 0 (lv_args 0 [.ref po, .ref b, .int x]) [] := by
  change ma_V l D ca ma_T M_Pool_findSpender (d + 3) 0 0 hp (ma_qi (ma_eq (cl_spender S m0 x) hp)) 0 [(0, .ref po), (1, .ref b), (2, .int x)] []
  refine rv_iconst (v := nI 0) d_Pool_findSpender_0 (by decide) ?_
  refine rv_istore_n (lv' := [(3, .int (nI 0)), (0, .ref po), (1, .ref b), (2, .int x)]) d_Pool_findSpender_1 rfl (by decide) rfl ?_
  exact c_Pool_findSpender_l hS hb 41 0 (Nat.zero_add _)
set_option maxHeartbeats 4000000 in
set_option maxRecDepth 100000 in
theorem c_Pool_isSpent_l {l : Launch} {D : va_G} {ca : Nat → ClassId} {hp : hp_T} {d : Nat} {po : Nat} {L : po_L} {S : po_S} (hS : po_At ca hp po L S) {k w i0 : Nat} {v : kv_T} (hk : kx_At ca hp k w i0 v) : ∀ (m i : Nat), i + m = 41 → ma_V l D ca ma_T M_Pool_isSpent (d + 3) 0 0 hp (ma_qi (ma_eq (bI (lp_any (fun p => bz_t S.1 p && kv_meet (S.2.2 p).2.1 v) m i)) hp)) 2 [(2, .int (nI i)), (0, .ref po), (1, .ref k)] [] := by
  obtain ⟨f, hf, hfp⟩ := hS.2.1
  intro m
  induction m with
  | zero =>
    intro i hi
    refine rv_iload_n d_Pool_isSpent_2 rfl 0 rfl ?_
    refine rv_bipush (v := nI 41) d_Pool_isSpent_3 (by decide) ?_
    refine rv_icmp_ge (tgt := 43) d_Pool_isSpent_5 (by decide) (fun c_5 => ?_) (fun c_5 => ?_)
    · refine rv_iconst (v := nI 0) d_Pool_isSpent_43 (by decide) ?_
      exact rv_ireturn ⟨_, rfl, rfl, rfl⟩ d_Pool_isSpent_44 rfl (bI_nar false)
    · exact absurd (nI_le (by omega) (by omega)) c_5
  | succ m ih =>
    intro i hi
    refine rv_iload_n d_Pool_isSpent_2 rfl 0 rfl ?_
    refine rv_bipush (v := nI 41) d_Pool_isSpent_3 (by decide) ?_
    refine rv_icmp_ge (tgt := 43) d_Pool_isSpent_5 (by decide) (fun c_5 => ?_) (fun c_5 => ?_)
    · exact absurd c_5 (nI_ge (by omega) (by omega))
    · refine rv_aload_n d_Pool_isSpent_8 rfl 1 rfl ?_
      refine rv_get ka_Pool hS.1 rfl 1 (by decide) (wi_Pool_isSpent _ (List.mem_of_getElem? (i := 0) rfl)) rfl d_Pool_isSpent_9 ?_
      refine rv_iload_n d_Pool_isSpent_12 rfl 0 rfl ?_
      refine rv_callSN (kc' := 0) (ks' := 0) (kc1 := 0) (ks1 := 0) (As := [.long S.1, .int (nI i)]) (rest := []) (c_Desk_has (by omega)) ok_Desk_has (host := "PoolDesk") (List.mem_of_getElem? (i := 6) rfl) (wi_Pool_isSpent _ (List.mem_of_getElem? (i := 1) rfl)) rfl rfl (Nat.le_of_ble_eq_true rfl) (Nat.le_of_ble_eq_true rfl) ⟨Nat.le_of_ble_eq_true rfl, Nat.le_of_ble_eq_true rfl⟩ d_Pool_isSpent_13 (rv_kie ?_)
      refine rv_if_eq (tgt := 37) d_Pool_isSpent_16 (by decide) (fun c_16 => ?_) (fun c_16 => ?_)
      · have e : (fun p => bz_t S.1 p && kv_meet (S.2.2 p).2.1 v) i = false := by show (_ && _) = false; rw [bI_0.mp c_16, Bool.false_and]
        refine rv_iinc (k := 0) (v := nI (i + 1)) (lv' := [(2, .int (nI (i + 1))), (0, .ref po), (1, .ref k)]) d_Pool_isSpent_37 rfl (nI_1 _) (by decide) rfl ?_
        refine rv_goto (tgt := 2) d_Pool_isSpent_40 (by decide) ?_
        rw [lp_any_f e]
        exact rv_lv [0, 1, 2] rfl (ih (i + 1) (by omega))
      · refine rv_aload_n d_Pool_isSpent_19 rfl 1 rfl ?_
        refine rv_get ka_Pool hS.1 rfl 0 (by decide) (wi_Pool_isSpent _ (List.mem_of_getElem? (i := 2) rfl)) rfl d_Pool_isSpent_20 ?_
        refine rv_iload_n d_Pool_isSpent_23 rfl 0 rfl ?_
        refine rv_aald hf 2 rfl (by omega) (by decide) d_Pool_isSpent_24 ?_
        refine rv_eqv (y := .ref (L.2.1 i)) ((by rw [hfp i (by omega)]; rfl)) ?_
        refine rv_get ka_Tx (hS.2.2 i (by omega)).1 rfl 1 (by decide) (wi_Pool_isSpent _ (List.mem_of_getElem? (i := 3) rfl)) rfl d_Pool_isSpent_25 ?_
        refine rv_aload_n d_Pool_isSpent_28 rfl 2 rfl ?_
        refine rv_callV (kc' := 0) (ks' := 0) (kc1 := 0) (ks1 := 0) (As := [.ref k]) (rest := []) (hS.2.2 i (by omega)).2.2.1 rfl (ck_meet (hS.2.2 i (by omega)).2.2 hk) ok_Keys_containsOneOf (wi_Pool_isSpent _ (List.mem_of_getElem? (i := 4) rfl)) (wi_Pool_isSpent _ (List.mem_of_getElem? (i := 5) rfl)) (wi_Pool_isSpent _ (List.mem_of_getElem? (i := 6) rfl)) rfl rfl (Nat.le_of_ble_eq_true rfl) (Nat.le_of_ble_eq_true rfl) ⟨Nat.le_of_ble_eq_true rfl, Nat.le_of_ble_eq_true rfl⟩ d_Pool_isSpent_29 (rv_kie ?_)
        refine rv_if_eq (tgt := 37) d_Pool_isSpent_32 (by decide) (fun c_32 => ?_) (fun c_32 => ?_)
        · have e : (fun p => bz_t S.1 p && kv_meet (S.2.2 p).2.1 v) i = false := by show (_ && _) = false; rw [bI_0.mp c_32, Bool.and_false]
          refine rv_iinc (k := 0) (v := nI (i + 1)) (lv' := [(2, .int (nI (i + 1))), (0, .ref po), (1, .ref k)]) d_Pool_isSpent_37 rfl (nI_1 _) (by decide) rfl ?_
          refine rv_goto (tgt := 2) d_Pool_isSpent_40 (by decide) ?_
          rw [lp_any_f e]
          exact rv_lv [0, 1, 2] rfl (ih (i + 1) (by omega))
        · have e : (fun p => bz_t S.1 p && kv_meet (S.2.2 p).2.1 v) i = true := by show (_ && _) = true; rw [bI_n.mp c_16, bI_n.mp c_32]; rfl
          refine rv_iconst (v := nI 1) d_Pool_isSpent_35 (by decide) ?_
          rw [lp_any_t e]
          exact rv_ireturn ⟨_, rfl, rfl, rfl⟩ d_Pool_isSpent_36 rfl (bI_nar true)
set_option maxHeartbeats 4000000 in
set_option maxRecDepth 100000 in
theorem c_Pool_isSpent {l : Launch} {D : va_G} {ca : Nat → ClassId} {hp : hp_T} {d : Nat} {po : Nat} {L : po_L} {S : po_S} (hS : po_At ca hp po L S) {k w i0 : Nat} {v : kv_T} (hk : kx_At ca hp k w i0 v) : ma_V l D ca ma_T M_Pool_isSpent (d + 3) 0 0 hp (ma_qi (ma_eq (bI (cl_spent S v)) hp)) 0 (lv_args 0 [.ref po, .ref k]) [] := by
  change ma_V l D ca ma_T M_Pool_isSpent (d + 3) 0 0 hp (ma_qi (ma_eq (bI (cl_spent S v)) hp)) 0 [(0, .ref po), (1, .ref k)] []
  refine rv_iconst (v := nI 0) d_Pool_isSpent_0 (by decide) ?_
  refine rv_istore_n (lv' := [(2, .int (nI 0)), (0, .ref po), (1, .ref k)]) d_Pool_isSpent_1 rfl (by decide) rfl ?_
  exact c_Pool_isSpent_l hS hk 41 0 (Nat.zero_add _)
set_option maxHeartbeats 4000000 in
set_option maxRecDepth 100000 in
theorem c_Pool_missesOutput_l {l : Launch} {D : va_G} {ca : Nat → ClassId} {hp : hp_T} {d : Nat} {po : Nat} {L : po_L} {S : po_S} (hS : po_At ca hp po L S) {b : Nat} {m0 : nm_T} {x : Int32} (hb : hp b = some (.inr (0, nm_F m0))) {k w i0 : Nat} {v : kv_T} (hk : kx_At ca hp k w i0 v) : ∀ (m i : Nat), i + m = 41 → ma_V l D ca ma_T M_Pool_missesOutput (d + 3) 0 0 hp (ma_qi (ma_eq (bI (lp_any (fun p => bz_t S.1 p && (kv_miss v (S.2.2 p).1 (S.2.2 p).2.2.2.2.1 || kv_miss (S.2.2 p).2.1 m0 x)) m i)) hp)) 3 [(4, .int (nI i)), (0, .ref po), (1, .ref b), (2, .ref k), (3, .int x)] [] := by
  obtain ⟨f, hf, hfp⟩ := hS.2.1
  intro m
  induction m with
  | zero =>
    intro i hi
    refine rv_iload d_Pool_missesOutput_3 0 rfl ?_
    refine rv_bipush (v := nI 41) d_Pool_missesOutput_5 (by decide) ?_
    refine rv_icmp_ge (tgt := 69) d_Pool_missesOutput_7 (by decide) (fun c_7 => ?_) (fun c_7 => ?_)
    · refine rv_iconst (v := nI 0) d_Pool_missesOutput_69 (by decide) ?_
      exact rv_ireturn ⟨_, rfl, rfl, rfl⟩ d_Pool_missesOutput_70 rfl (bI_nar false)
    · exact absurd (nI_le (by omega) (by omega)) c_7
  | succ m ih =>
    intro i hi
    refine rv_iload d_Pool_missesOutput_3 0 rfl ?_
    refine rv_bipush (v := nI 41) d_Pool_missesOutput_5 (by decide) ?_
    refine rv_icmp_ge (tgt := 69) d_Pool_missesOutput_7 (by decide) (fun c_7 => ?_) (fun c_7 => ?_)
    · exact absurd c_7 (nI_ge (by omega) (by omega))
    · refine rv_aload_n d_Pool_missesOutput_10 rfl 1 rfl ?_
      refine rv_get ka_Pool hS.1 rfl 1 (by decide) (wi_Pool_missesOutput _ (List.mem_of_getElem? (i := 0) rfl)) rfl d_Pool_missesOutput_11 ?_
      refine rv_iload d_Pool_missesOutput_14 0 rfl ?_
      refine rv_callSN (kc' := 0) (ks' := 0) (kc1 := 0) (ks1 := 0) (As := [.long S.1, .int (nI i)]) (rest := []) (c_Desk_has (by omega)) ok_Desk_has (host := "PoolDesk") (List.mem_of_getElem? (i := 6) rfl) (wi_Pool_missesOutput _ (List.mem_of_getElem? (i := 1) rfl)) rfl rfl (Nat.le_of_ble_eq_true rfl) (Nat.le_of_ble_eq_true rfl) ⟨Nat.le_of_ble_eq_true rfl, Nat.le_of_ble_eq_true rfl⟩ d_Pool_missesOutput_16 (rv_kie ?_)
      refine rv_if_eq (tgt := 63) d_Pool_missesOutput_19 (by decide) (fun c_19 => ?_) (fun c_19 => ?_)
      · have e : (fun p => bz_t S.1 p && (kv_miss v (S.2.2 p).1 (S.2.2 p).2.2.2.2.1 || kv_miss (S.2.2 p).2.1 m0 x)) i = false := by show (_ && _) = false; rw [bI_0.mp c_19, Bool.false_and]
        refine rv_iinc (k := 0) (v := nI (i + 1)) (lv' := [(4, .int (nI (i + 1))), (0, .ref po), (1, .ref b), (2, .ref k), (3, .int x)]) d_Pool_missesOutput_63 rfl (nI_1 _) (by decide) rfl ?_
        refine rv_goto (tgt := 3) d_Pool_missesOutput_66 (by decide) ?_
        rw [lp_any_f e]
        exact rv_lv [0, 1, 2, 3, 4] rfl (ih (i + 1) (by omega))
      · refine rv_aload_n d_Pool_missesOutput_22 rfl 1 rfl ?_
        refine rv_get ka_Pool hS.1 rfl 0 (by decide) (wi_Pool_missesOutput _ (List.mem_of_getElem? (i := 2) rfl)) rfl d_Pool_missesOutput_23 ?_
        refine rv_iload d_Pool_missesOutput_26 0 rfl ?_
        refine rv_aald hf 2 rfl (by omega) (by decide) d_Pool_missesOutput_28 ?_
        refine rv_eqv (y := .ref (L.2.1 i)) ((by rw [hfp i (by omega)]; rfl)) ?_
        refine rv_astore (lv' := [(5, .ref (L.2.1 i)), (4, .int (nI i)), (0, .ref po), (1, .ref b), (2, .ref k), (3, .int x)]) d_Pool_missesOutput_29 (by decide) rfl ?_
        refine rv_aload_n d_Pool_missesOutput_31 rfl 4 rfl ?_
        refine rv_aload d_Pool_missesOutput_32 0 rfl ?_
        refine rv_get ka_Tx (hS.2.2 i (by omega)).1 rfl 0 (by decide) (wi_Pool_missesOutput _ (List.mem_of_getElem? (i := 3) rfl)) rfl d_Pool_missesOutput_34 ?_
        refine rv_aload d_Pool_missesOutput_37 0 rfl ?_
        refine rv_get ka_Tx (hS.2.2 i (by omega)).1 rfl 4 (by decide) (wi_Pool_missesOutput _ (List.mem_of_getElem? (i := 4) rfl)) rfl d_Pool_missesOutput_39 ?_
        refine rv_callV (kc' := 0) (ks' := 0) (kc1 := 0) (ks1 := 0) (As := [.ref (L.2.2.1 i), .int ((S.2.2 i).2.2.2.2.1)]) (rest := []) hk.1 rfl (ck_miss hk (hS.2.2 i (by omega)).2.1) ok_Keys_misses (wi_Pool_missesOutput _ (List.mem_of_getElem? (i := 5) rfl)) (wi_Pool_missesOutput _ (List.mem_of_getElem? (i := 6) rfl)) (wi_Pool_missesOutput _ (List.mem_of_getElem? (i := 7) rfl)) rfl rfl (Nat.le_of_ble_eq_true rfl) (Nat.le_of_ble_eq_true rfl) ⟨Nat.le_of_ble_eq_true rfl, Nat.le_of_ble_eq_true rfl⟩ d_Pool_missesOutput_42 (rv_kie ?_)
        refine rv_if_ne (tgt := 61) d_Pool_missesOutput_45 (by decide) (fun c_45 => ?_) (fun c_45 => ?_)
        · have e : (fun p => bz_t S.1 p && (kv_miss v (S.2.2 p).1 (S.2.2 p).2.2.2.2.1 || kv_miss (S.2.2 p).2.1 m0 x)) i = true := by show (_ && (_ || _)) = true; rw [bI_n.mp c_19, bI_n.mp c_45]; rfl
          refine rv_iconst (v := nI 1) d_Pool_missesOutput_61 (by decide) ?_
          rw [lp_any_t e]
          exact rv_ireturn ⟨_, rfl, rfl, rfl⟩ d_Pool_missesOutput_62 rfl (bI_nar true)
        · refine rv_aload d_Pool_missesOutput_48 0 rfl ?_
          refine rv_get ka_Tx (hS.2.2 i (by omega)).1 rfl 1 (by decide) (wi_Pool_missesOutput _ (List.mem_of_getElem? (i := 8) rfl)) rfl d_Pool_missesOutput_50 ?_
          refine rv_aload_n d_Pool_missesOutput_53 rfl 3 rfl ?_
          refine rv_iload_n d_Pool_missesOutput_54 rfl 5 rfl ?_
          refine rv_callV (kc' := 0) (ks' := 0) (kc1 := 0) (ks1 := 0) (As := [.ref b, .int x]) (rest := []) (hS.2.2 i (by omega)).2.2.1 rfl (ck_miss (hS.2.2 i (by omega)).2.2 hb) ok_Keys_misses (wi_Pool_missesOutput _ (List.mem_of_getElem? (i := 5) rfl)) (wi_Pool_missesOutput _ (List.mem_of_getElem? (i := 6) rfl)) (wi_Pool_missesOutput _ (List.mem_of_getElem? (i := 7) rfl)) rfl rfl (Nat.le_of_ble_eq_true rfl) (Nat.le_of_ble_eq_true rfl) ⟨Nat.le_of_ble_eq_true rfl, Nat.le_of_ble_eq_true rfl⟩ d_Pool_missesOutput_55 (rv_kie ?_)
          refine rv_if_eq (tgt := 63) d_Pool_missesOutput_58 (by decide) (fun c_58 => ?_) (fun c_58 => ?_)
          · have e : (fun p => bz_t S.1 p && (kv_miss v (S.2.2 p).1 (S.2.2 p).2.2.2.2.1 || kv_miss (S.2.2 p).2.1 m0 x)) i = false := by show (_ && (_ || _)) = false; rw [bI_0.mp c_45, bI_0.mp c_58]; simp
            refine rv_iinc (k := 1) (v := nI (i + 1)) (lv' := [(4, .int (nI (i + 1))), (5, .ref (L.2.1 i)), (0, .ref po), (1, .ref b), (2, .ref k), (3, .int x)]) d_Pool_missesOutput_63 rfl (nI_1 _) (by decide) rfl ?_
            refine rv_goto (tgt := 3) d_Pool_missesOutput_66 (by decide) ?_
            rw [lp_any_f e]
            exact rv_lv [0, 2, 3, 4, 5] rfl (ih (i + 1) (by omega))
          · have e : (fun p => bz_t S.1 p && (kv_miss v (S.2.2 p).1 (S.2.2 p).2.2.2.2.1 || kv_miss (S.2.2 p).2.1 m0 x)) i = true := by show (_ && (_ || _)) = true; rw [bI_n.mp c_19, bI_n.mp c_58]; simp
            refine rv_iconst (v := nI 1) d_Pool_missesOutput_61 (by decide) ?_
            rw [lp_any_t e]
            exact rv_ireturn ⟨_, rfl, rfl, rfl⟩ d_Pool_missesOutput_62 rfl (bI_nar true)
set_option maxHeartbeats 4000000 in
set_option maxRecDepth 100000 in
theorem c_Pool_missesOutput {l : Launch} {D : va_G} {ca : Nat → ClassId} {hp : hp_T} {d : Nat} {po : Nat} {L : po_L} {S : po_S} (hS : po_At ca hp po L S) {b : Nat} {m0 : nm_T} {x : Int32} (hb : hp b = some (.inr (0, nm_F m0))) {k w i0 : Nat} {v : kv_T} (hk : kx_At ca hp k w i0 v) : ma_V l D ca ma_T M_Pool_missesOutput (d + 3) 0 0 hp (ma_qi (ma_eq (bI (cl_miss S m0 v x)) hp)) 0 (lv_args 0 [.ref po, .ref b, .ref k, .int x]) [] := by
  change ma_V l D ca ma_T M_Pool_missesOutput (d + 3) 0 0 hp (ma_qi (ma_eq (bI (cl_miss S m0 v x)) hp)) 0 [(0, .ref po), (1, .ref b), (2, .ref k), (3, .int x)] []
  refine rv_iconst (v := nI 0) d_Pool_missesOutput_0 (by decide) ?_
  refine rv_istore (lv' := [(4, .int (nI 0)), (0, .ref po), (1, .ref b), (2, .ref k), (3, .int x)]) d_Pool_missesOutput_1 (by decide) rfl ?_
  exact c_Pool_missesOutput_l hS hb hk 41 0 (Nat.zero_add _)
set_option maxHeartbeats 4000000 in
set_option maxRecDepth 100000 in
theorem c_Pool_spendersOf_l {l : Launch} {D : va_G} {ca : Nat → ClassId} {hp : hp_T} {d : Nat} {po : Nat} {L : po_L} {S : po_S} (hS : po_At ca hp po L S) {b : Nat} {m0 : nm_T} (hb : hp b = some (.inr (0, nm_F m0))) : ∀ (m i : Nat) (a : Int64), i + m = 41 → ma_V l D ca ma_T M_Pool_spendersOf (d + 3) 0 0 hp (ma_ql (ma_eq (lp_fold (fun p a => if (bz_t S.1 p && kv_bears (S.2.2 p).2.1 m0) = true then a ||| bz_b p else a) m i a) hp)) 5 [(4, .int (nI i)), (2, .long a), (0, .ref po), (1, .ref b)] [] := by
  obtain ⟨f, hf, hfp⟩ := hS.2.1
  intro m
  induction m with
  | zero =>
    intro i a hi
    refine rv_iload d_Pool_spendersOf_5 0 rfl ?_
    refine rv_bipush (v := nI 41) d_Pool_spendersOf_7 (by decide) ?_
    refine rv_icmp_ge (tgt := 55) d_Pool_spendersOf_9 (by decide) (fun c_9 => ?_) (fun c_9 => ?_)
    · refine rv_lload_n d_Pool_spendersOf_55 rfl 1 rfl ?_
      exact rv_lreturn ⟨_, rfl, rfl, rfl⟩ d_Pool_spendersOf_56 rfl
    · exact absurd (nI_le (by omega) (by omega)) c_9
  | succ m ih =>
    intro i a hi
    refine rv_iload d_Pool_spendersOf_5 0 rfl ?_
    refine rv_bipush (v := nI 41) d_Pool_spendersOf_7 (by decide) ?_
    refine rv_icmp_ge (tgt := 55) d_Pool_spendersOf_9 (by decide) (fun c_9 => ?_) (fun c_9 => ?_)
    · exact absurd c_9 (nI_ge (by omega) (by omega))
    · refine rv_aload_n d_Pool_spendersOf_12 rfl 2 rfl ?_
      refine rv_get ka_Pool hS.1 rfl 1 (by decide) (wi_Pool_spendersOf _ (List.mem_of_getElem? (i := 0) rfl)) rfl d_Pool_spendersOf_13 ?_
      refine rv_iload d_Pool_spendersOf_16 0 rfl ?_
      refine rv_callSN (kc' := 0) (ks' := 0) (kc1 := 0) (ks1 := 0) (As := [.long S.1, .int (nI i)]) (rest := []) (c_Desk_has (by omega)) ok_Desk_has (host := "PoolDesk") (List.mem_of_getElem? (i := 6) rfl) (wi_Pool_spendersOf _ (List.mem_of_getElem? (i := 1) rfl)) rfl rfl (Nat.le_of_ble_eq_true rfl) (Nat.le_of_ble_eq_true rfl) ⟨Nat.le_of_ble_eq_true rfl, Nat.le_of_ble_eq_true rfl⟩ d_Pool_spendersOf_18 (rv_kie ?_)
      refine rv_if_eq (tgt := 49) d_Pool_spendersOf_21 (by decide) (fun c_21 => ?_) (fun c_21 => ?_)
      · have e : (fun p a => if (bz_t S.1 p && kv_bears (S.2.2 p).2.1 m0) = true then a ||| bz_b p else a) i a = a := by simp [bI_0.mp c_21]
        refine rv_iinc (k := 0) (v := nI (i + 1)) (lv' := [(4, .int (nI (i + 1))), (2, .long a), (0, .ref po), (1, .ref b)]) d_Pool_spendersOf_49 rfl (nI_1 _) (by decide) rfl ?_
        refine rv_goto (tgt := 5) d_Pool_spendersOf_52 (by decide) ?_
        refine rv_post (Q' := ma_ql (ma_eq (lp_fold (fun p a => if (bz_t S.1 p && kv_bears (S.2.2 p).2.1 m0) = true then a ||| bz_b p else a) m (i + 1) (a)) hp)) (fun _ _ h => ?_) (rv_lv [0, 1, 2, 3] rfl (ih (i + 1) _ (by omega)))
        rw [← e] at h
        exact h
      · refine rv_aload_n d_Pool_spendersOf_24 rfl 2 rfl ?_
        refine rv_get ka_Pool hS.1 rfl 0 (by decide) (wi_Pool_spendersOf _ (List.mem_of_getElem? (i := 2) rfl)) rfl d_Pool_spendersOf_25 ?_
        refine rv_iload d_Pool_spendersOf_28 0 rfl ?_
        refine rv_aald hf 2 rfl (by omega) (by decide) d_Pool_spendersOf_30 ?_
        refine rv_eqv (y := .ref (L.2.1 i)) ((by rw [hfp i (by omega)]; rfl)) ?_
        refine rv_get ka_Tx (hS.2.2 i (by omega)).1 rfl 1 (by decide) (wi_Pool_spendersOf _ (List.mem_of_getElem? (i := 3) rfl)) rfl d_Pool_spendersOf_31 ?_
        refine rv_aload_n d_Pool_spendersOf_34 rfl 3 rfl ?_
        refine rv_callV (kc' := 0) (ks' := 0) (kc1 := 0) (ks1 := 0) (As := [.ref b]) (rest := []) (hS.2.2 i (by omega)).2.2.1 rfl (ck_bears (hS.2.2 i (by omega)).2.2 hb) ok_Keys_bears (wi_Pool_spendersOf _ (List.mem_of_getElem? (i := 4) rfl)) (wi_Pool_spendersOf _ (List.mem_of_getElem? (i := 5) rfl)) (wi_Pool_spendersOf _ (List.mem_of_getElem? (i := 6) rfl)) rfl rfl (Nat.le_of_ble_eq_true rfl) (Nat.le_of_ble_eq_true rfl) ⟨Nat.le_of_ble_eq_true rfl, Nat.le_of_ble_eq_true rfl⟩ d_Pool_spendersOf_35 (rv_kie ?_)
        refine rv_if_eq (tgt := 49) d_Pool_spendersOf_38 (by decide) (fun c_38 => ?_) (fun c_38 => ?_)
        · have e : (fun p a => if (bz_t S.1 p && kv_bears (S.2.2 p).2.1 m0) = true then a ||| bz_b p else a) i a = a := by simp [bI_0.mp c_38]
          refine rv_iinc (k := 0) (v := nI (i + 1)) (lv' := [(4, .int (nI (i + 1))), (2, .long a), (0, .ref po), (1, .ref b)]) d_Pool_spendersOf_49 rfl (nI_1 _) (by decide) rfl ?_
          refine rv_goto (tgt := 5) d_Pool_spendersOf_52 (by decide) ?_
          refine rv_post (Q' := ma_ql (ma_eq (lp_fold (fun p a => if (bz_t S.1 p && kv_bears (S.2.2 p).2.1 m0) = true then a ||| bz_b p else a) m (i + 1) (a)) hp)) (fun _ _ h => ?_) (rv_lv [0, 1, 2, 3] rfl (ih (i + 1) _ (by omega)))
          rw [← e] at h
          exact h
        · have e : (fun p a => if (bz_t S.1 p && kv_bears (S.2.2 p).2.1 m0) = true then a ||| bz_b p else a) i a = a ||| bz_b i := by simp [bI_n.mp c_21, bI_n.mp c_38]
          refine rv_lload_n d_Pool_spendersOf_41 rfl 1 rfl ?_
          refine rv_iload d_Pool_spendersOf_42 0 rfl ?_
          refine rv_callSN (kc' := 0) (ks' := 0) (kc1 := 0) (ks1 := 0) (As := [.int (nI i)]) (rest := [.long a]) (c_Desk_bit) ok_Desk_bit (host := "PoolDesk") (List.mem_of_getElem? (i := 7) rfl) (wi_Pool_spendersOf _ (List.mem_of_getElem? (i := 7) rfl)) rfl rfl (Nat.le_of_ble_eq_true rfl) (Nat.le_of_ble_eq_true rfl) ⟨Nat.le_of_ble_eq_true rfl, Nat.le_of_ble_eq_true rfl⟩ d_Pool_spendersOf_44 (rv_kle ?_)
          refine rv_lor d_Pool_spendersOf_47 ?_
          refine rv_lstore_n (lv' := [(2, .long (a ||| (bz_b i))), (4, .int (nI i)), (0, .ref po), (1, .ref b)]) d_Pool_spendersOf_48 rfl (by decide) rfl ?_
          refine rv_iinc (k := 1) (v := nI (i + 1)) (lv' := [(4, .int (nI (i + 1))), (2, .long (a ||| (bz_b i))), (0, .ref po), (1, .ref b)]) d_Pool_spendersOf_49 rfl (nI_1 _) (by decide) rfl ?_
          refine rv_goto (tgt := 5) d_Pool_spendersOf_52 (by decide) ?_
          refine rv_post (Q' := ma_ql (ma_eq (lp_fold (fun p a => if (bz_t S.1 p && kv_bears (S.2.2 p).2.1 m0) = true then a ||| bz_b p else a) m (i + 1) (a ||| (bz_b i))) hp)) (fun _ _ h => ?_) (rv_lv [0, 1, 2, 3] rfl (ih (i + 1) _ (by omega)))
          rw [← e] at h
          exact h
set_option maxHeartbeats 4000000 in
set_option maxRecDepth 100000 in
theorem c_Pool_spendersOf {l : Launch} {D : va_G} {ca : Nat → ClassId} {hp : hp_T} {d : Nat} {po : Nat} {L : po_L} {S : po_S} (hS : po_At ca hp po L S) {b : Nat} {m0 : nm_T} (hb : hp b = some (.inr (0, nm_F m0))) : ma_V l D ca ma_T M_Pool_spendersOf (d + 3) 0 0 hp (ma_ql (ma_eq (cl_spenders S m0) hp)) 0 (lv_args 0 [.ref po, .ref b]) [] := by
  change ma_V l D ca ma_T M_Pool_spendersOf (d + 3) 0 0 hp (ma_ql (ma_eq (cl_spenders S m0) hp)) 0 [(0, .ref po), (1, .ref b)] []
  refine rv_lconst (v := 0) d_Pool_spendersOf_0 (by decide) ?_
  refine rv_lstore_n (lv' := [(2, .long 0), (0, .ref po), (1, .ref b)]) d_Pool_spendersOf_1 rfl (by decide) rfl ?_
  refine rv_iconst (v := nI 0) d_Pool_spendersOf_2 (by decide) ?_
  refine rv_istore (lv' := [(4, .int (nI 0)), (2, .long 0), (0, .ref po), (1, .ref b)]) d_Pool_spendersOf_3 (by decide) rfl ?_
  exact rv_lv [0, 1, 2, 3] rfl (c_Pool_spendersOf_l hS hb 41 0 0 (Nat.zero_add _))
set_option maxHeartbeats 4000000 in
set_option maxRecDepth 100000 in
theorem c_Pool_named_l {l : Launch} {D : va_G} {ca : Nat → ClassId} {hp : hp_T} {d : Nat} {po : Nat} {L : po_L} {S : po_S} (hS : po_At ca hp po L S) {k w i0 : Nat} {v : kv_T} (hk : kx_At ca hp k w i0 v) : ∀ (m i : Nat) (a : Int64), i + m = 41 → ma_V l D ca ma_T M_Pool_named (d + 3) 0 0 hp (ma_ql (ma_eq (lp_fold (fun p a => if (bz_t S.1 p && kv_bears v (S.2.2 p).1) = true then a ||| bz_b p else a) m i a) hp)) 5 [(4, .int (nI i)), (2, .long a), (0, .ref po), (1, .ref k)] [] := by
  obtain ⟨f, hf, hfp⟩ := hS.2.1
  intro m
  induction m with
  | zero =>
    intro i a hi
    refine rv_iload d_Pool_named_5 0 rfl ?_
    refine rv_bipush (v := nI 41) d_Pool_named_7 (by decide) ?_
    refine rv_icmp_ge (tgt := 55) d_Pool_named_9 (by decide) (fun c_9 => ?_) (fun c_9 => ?_)
    · refine rv_lload_n d_Pool_named_55 rfl 1 rfl ?_
      exact rv_lreturn ⟨_, rfl, rfl, rfl⟩ d_Pool_named_56 rfl
    · exact absurd (nI_le (by omega) (by omega)) c_9
  | succ m ih =>
    intro i a hi
    refine rv_iload d_Pool_named_5 0 rfl ?_
    refine rv_bipush (v := nI 41) d_Pool_named_7 (by decide) ?_
    refine rv_icmp_ge (tgt := 55) d_Pool_named_9 (by decide) (fun c_9 => ?_) (fun c_9 => ?_)
    · exact absurd c_9 (nI_ge (by omega) (by omega))
    · refine rv_aload_n d_Pool_named_12 rfl 2 rfl ?_
      refine rv_get ka_Pool hS.1 rfl 1 (by decide) (wi_Pool_named _ (List.mem_of_getElem? (i := 0) rfl)) rfl d_Pool_named_13 ?_
      refine rv_iload d_Pool_named_16 0 rfl ?_
      refine rv_callSN (kc' := 0) (ks' := 0) (kc1 := 0) (ks1 := 0) (As := [.long S.1, .int (nI i)]) (rest := []) (c_Desk_has (by omega)) ok_Desk_has (host := "PoolDesk") (List.mem_of_getElem? (i := 6) rfl) (wi_Pool_named _ (List.mem_of_getElem? (i := 1) rfl)) rfl rfl (Nat.le_of_ble_eq_true rfl) (Nat.le_of_ble_eq_true rfl) ⟨Nat.le_of_ble_eq_true rfl, Nat.le_of_ble_eq_true rfl⟩ d_Pool_named_18 (rv_kie ?_)
      refine rv_if_eq (tgt := 49) d_Pool_named_21 (by decide) (fun c_21 => ?_) (fun c_21 => ?_)
      · have e : (fun p a => if (bz_t S.1 p && kv_bears v (S.2.2 p).1) = true then a ||| bz_b p else a) i a = a := by simp [bI_0.mp c_21]
        refine rv_iinc (k := 0) (v := nI (i + 1)) (lv' := [(4, .int (nI (i + 1))), (2, .long a), (0, .ref po), (1, .ref k)]) d_Pool_named_49 rfl (nI_1 _) (by decide) rfl ?_
        refine rv_goto (tgt := 5) d_Pool_named_52 (by decide) ?_
        refine rv_post (Q' := ma_ql (ma_eq (lp_fold (fun p a => if (bz_t S.1 p && kv_bears v (S.2.2 p).1) = true then a ||| bz_b p else a) m (i + 1) (a)) hp)) (fun _ _ h => ?_) (rv_lv [0, 1, 2, 3] rfl (ih (i + 1) _ (by omega)))
        rw [← e] at h
        exact h
      · refine rv_aload_n d_Pool_named_24 rfl 3 rfl ?_
        refine rv_aload_n d_Pool_named_25 rfl 2 rfl ?_
        refine rv_get ka_Pool hS.1 rfl 0 (by decide) (wi_Pool_named _ (List.mem_of_getElem? (i := 2) rfl)) rfl d_Pool_named_26 ?_
        refine rv_iload d_Pool_named_29 0 rfl ?_
        refine rv_aald hf 2 rfl (by omega) (by decide) d_Pool_named_31 ?_
        refine rv_eqv (y := .ref (L.2.1 i)) ((by rw [hfp i (by omega)]; rfl)) ?_
        refine rv_get ka_Tx (hS.2.2 i (by omega)).1 rfl 0 (by decide) (wi_Pool_named _ (List.mem_of_getElem? (i := 3) rfl)) rfl d_Pool_named_32 ?_
        refine rv_callV (kc' := 0) (ks' := 0) (kc1 := 0) (ks1 := 0) (As := [.ref (L.2.2.1 i)]) (rest := []) hk.1 rfl (ck_bears hk (hS.2.2 i (by omega)).2.1) ok_Keys_bears (wi_Pool_named _ (List.mem_of_getElem? (i := 4) rfl)) (wi_Pool_named _ (List.mem_of_getElem? (i := 5) rfl)) (wi_Pool_named _ (List.mem_of_getElem? (i := 6) rfl)) rfl rfl (Nat.le_of_ble_eq_true rfl) (Nat.le_of_ble_eq_true rfl) ⟨Nat.le_of_ble_eq_true rfl, Nat.le_of_ble_eq_true rfl⟩ d_Pool_named_35 (rv_kie ?_)
        refine rv_if_eq (tgt := 49) d_Pool_named_38 (by decide) (fun c_38 => ?_) (fun c_38 => ?_)
        · have e : (fun p a => if (bz_t S.1 p && kv_bears v (S.2.2 p).1) = true then a ||| bz_b p else a) i a = a := by simp [bI_0.mp c_38]
          refine rv_iinc (k := 0) (v := nI (i + 1)) (lv' := [(4, .int (nI (i + 1))), (2, .long a), (0, .ref po), (1, .ref k)]) d_Pool_named_49 rfl (nI_1 _) (by decide) rfl ?_
          refine rv_goto (tgt := 5) d_Pool_named_52 (by decide) ?_
          refine rv_post (Q' := ma_ql (ma_eq (lp_fold (fun p a => if (bz_t S.1 p && kv_bears v (S.2.2 p).1) = true then a ||| bz_b p else a) m (i + 1) (a)) hp)) (fun _ _ h => ?_) (rv_lv [0, 1, 2, 3] rfl (ih (i + 1) _ (by omega)))
          rw [← e] at h
          exact h
        · have e : (fun p a => if (bz_t S.1 p && kv_bears v (S.2.2 p).1) = true then a ||| bz_b p else a) i a = a ||| bz_b i := by simp [bI_n.mp c_21, bI_n.mp c_38]
          refine rv_lload_n d_Pool_named_41 rfl 1 rfl ?_
          refine rv_iload d_Pool_named_42 0 rfl ?_
          refine rv_callSN (kc' := 0) (ks' := 0) (kc1 := 0) (ks1 := 0) (As := [.int (nI i)]) (rest := [.long a]) (c_Desk_bit) ok_Desk_bit (host := "PoolDesk") (List.mem_of_getElem? (i := 7) rfl) (wi_Pool_named _ (List.mem_of_getElem? (i := 7) rfl)) rfl rfl (Nat.le_of_ble_eq_true rfl) (Nat.le_of_ble_eq_true rfl) ⟨Nat.le_of_ble_eq_true rfl, Nat.le_of_ble_eq_true rfl⟩ d_Pool_named_44 (rv_kle ?_)
          refine rv_lor d_Pool_named_47 ?_
          refine rv_lstore_n (lv' := [(2, .long (a ||| (bz_b i))), (4, .int (nI i)), (0, .ref po), (1, .ref k)]) d_Pool_named_48 rfl (by decide) rfl ?_
          refine rv_iinc (k := 1) (v := nI (i + 1)) (lv' := [(4, .int (nI (i + 1))), (2, .long (a ||| (bz_b i))), (0, .ref po), (1, .ref k)]) d_Pool_named_49 rfl (nI_1 _) (by decide) rfl ?_
          refine rv_goto (tgt := 5) d_Pool_named_52 (by decide) ?_
          refine rv_post (Q' := ma_ql (ma_eq (lp_fold (fun p a => if (bz_t S.1 p && kv_bears v (S.2.2 p).1) = true then a ||| bz_b p else a) m (i + 1) (a ||| (bz_b i))) hp)) (fun _ _ h => ?_) (rv_lv [0, 1, 2, 3] rfl (ih (i + 1) _ (by omega)))
          rw [← e] at h
          exact h
set_option maxHeartbeats 4000000 in
set_option maxRecDepth 100000 in
theorem c_Pool_named {l : Launch} {D : va_G} {ca : Nat → ClassId} {hp : hp_T} {d : Nat} {po : Nat} {L : po_L} {S : po_S} (hS : po_At ca hp po L S) {k w i0 : Nat} {v : kv_T} (hk : kx_At ca hp k w i0 v) : ma_V l D ca ma_T M_Pool_named (d + 3) 0 0 hp (ma_ql (ma_eq (cl_named S v) hp)) 0 (lv_args 0 [.ref po, .ref k]) [] := by
  change ma_V l D ca ma_T M_Pool_named (d + 3) 0 0 hp (ma_ql (ma_eq (cl_named S v) hp)) 0 [(0, .ref po), (1, .ref k)] []
  refine rv_lconst (v := 0) d_Pool_named_0 (by decide) ?_
  refine rv_lstore_n (lv' := [(2, .long 0), (0, .ref po), (1, .ref k)]) d_Pool_named_1 rfl (by decide) rfl ?_
  refine rv_iconst (v := nI 0) d_Pool_named_2 (by decide) ?_
  refine rv_istore (lv' := [(4, .int (nI 0)), (2, .long 0), (0, .ref po), (1, .ref k)]) d_Pool_named_3 (by decide) rfl ?_
  exact rv_lv [0, 1, 2, 3] rfl (c_Pool_named_l hS hk 41 0 0 (Nat.zero_add _))
set_option maxHeartbeats 4000000 in
set_option maxRecDepth 100000 in
theorem c_Pool_sumOfFees_l {l : Launch} {D : va_G} {ca : Nat → ClassId} {hp : hp_T} {d : Nat} {po : Nat} {L : po_L} {S : po_S} (hS : po_At ca hp po L S) {x : Int64} : ∀ (m i : Nat) (a : Int64), i + m = 41 → ma_V l D ca ma_T M_Pool_sumOfFees (d + 2) 0 0 hp (ma_ql (ma_eq (lp_fold (fun p a => if bz_t x p = true then a + (S.2.2 p).2.2.1 else a) m i a) hp)) 5 [(5, .int (nI i)), (3, .long a), (0, .ref po), (1, .long x)] [] := by
  obtain ⟨f, hf, hfp⟩ := hS.2.1
  intro m
  induction m with
  | zero =>
    intro i a hi
    refine rv_iload d_Pool_sumOfFees_5 0 rfl ?_
    refine rv_bipush (v := nI 41) d_Pool_sumOfFees_7 (by decide) ?_
    refine rv_icmp_ge (tgt := 40) d_Pool_sumOfFees_9 (by decide) (fun c_9 => ?_) (fun c_9 => ?_)
    · refine rv_lload_n d_Pool_sumOfFees_40 rfl 1 rfl ?_
      exact rv_lreturn ⟨_, rfl, rfl, rfl⟩ d_Pool_sumOfFees_41 rfl
    · exact absurd (nI_le (by omega) (by omega)) c_9
  | succ m ih =>
    intro i a hi
    refine rv_iload d_Pool_sumOfFees_5 0 rfl ?_
    refine rv_bipush (v := nI 41) d_Pool_sumOfFees_7 (by decide) ?_
    refine rv_icmp_ge (tgt := 40) d_Pool_sumOfFees_9 (by decide) (fun c_9 => ?_) (fun c_9 => ?_)
    · exact absurd c_9 (nI_ge (by omega) (by omega))
    · refine rv_lload_n d_Pool_sumOfFees_12 rfl 3 rfl ?_
      refine rv_iload d_Pool_sumOfFees_13 0 rfl ?_
      refine rv_callSN (kc' := 0) (ks' := 0) (kc1 := 0) (ks1 := 0) (As := [.long x, .int (nI i)]) (rest := []) (c_Desk_has (by omega)) ok_Desk_has (host := "PoolDesk") (List.mem_of_getElem? (i := 6) rfl) (wi_Pool_sumOfFees _ (List.mem_of_getElem? (i := 0) rfl)) rfl rfl (Nat.le_of_ble_eq_true rfl) (Nat.le_of_ble_eq_true rfl) ⟨Nat.le_of_ble_eq_true rfl, Nat.le_of_ble_eq_true rfl⟩ d_Pool_sumOfFees_15 (rv_kie ?_)
      refine rv_if_eq (tgt := 34) d_Pool_sumOfFees_18 (by decide) (fun c_18 => ?_) (fun c_18 => ?_)
      · have e : (fun p a => if bz_t x p = true then a + (S.2.2 p).2.2.1 else a) i a = a := by simp [bI_0.mp c_18]
        refine rv_iinc (k := 0) (v := nI (i + 1)) (lv' := [(5, .int (nI (i + 1))), (3, .long a), (0, .ref po), (1, .long x)]) d_Pool_sumOfFees_34 rfl (nI_1 _) (by decide) rfl ?_
        refine rv_goto (tgt := 5) d_Pool_sumOfFees_37 (by decide) ?_
        refine rv_post (Q' := ma_ql (ma_eq (lp_fold (fun p a => if bz_t x p = true then a + (S.2.2 p).2.2.1 else a) m (i + 1) (a)) hp)) (fun _ _ h => ?_) (rv_lv [0, 1, 2, 3] rfl (ih (i + 1) _ (by omega)))
        rw [← e] at h
        exact h
      · have e : (fun p a => if bz_t x p = true then a + (S.2.2 p).2.2.1 else a) i a = a + (S.2.2 i).2.2.1 := by simp [bI_n.mp c_18]
        refine rv_lload_n d_Pool_sumOfFees_21 rfl 1 rfl ?_
        refine rv_aload_n d_Pool_sumOfFees_22 rfl 2 rfl ?_
        refine rv_get ka_Pool hS.1 rfl 0 (by decide) (wi_Pool_sumOfFees _ (List.mem_of_getElem? (i := 1) rfl)) rfl d_Pool_sumOfFees_23 ?_
        refine rv_iload d_Pool_sumOfFees_26 0 rfl ?_
        refine rv_aald hf 2 rfl (by omega) (by decide) d_Pool_sumOfFees_28 ?_
        refine rv_eqv (y := .ref (L.2.1 i)) ((by rw [hfp i (by omega)]; rfl)) ?_
        refine rv_get ka_Tx (hS.2.2 i (by omega)).1 rfl 2 (by decide) (wi_Pool_sumOfFees _ (List.mem_of_getElem? (i := 2) rfl)) rfl d_Pool_sumOfFees_29 ?_
        refine rv_ladd d_Pool_sumOfFees_32 ?_
        refine rv_lstore_n (lv' := [(3, .long (a + ((S.2.2 i).2.2.1))), (5, .int (nI i)), (0, .ref po), (1, .long x)]) d_Pool_sumOfFees_33 rfl (by decide) rfl ?_
        refine rv_iinc (k := 1) (v := nI (i + 1)) (lv' := [(5, .int (nI (i + 1))), (3, .long (a + ((S.2.2 i).2.2.1))), (0, .ref po), (1, .long x)]) d_Pool_sumOfFees_34 rfl (nI_1 _) (by decide) rfl ?_
        refine rv_goto (tgt := 5) d_Pool_sumOfFees_37 (by decide) ?_
        refine rv_post (Q' := ma_ql (ma_eq (lp_fold (fun p a => if bz_t x p = true then a + (S.2.2 p).2.2.1 else a) m (i + 1) (a + ((S.2.2 i).2.2.1))) hp)) (fun _ _ h => ?_) (rv_lv [0, 1, 2, 3] rfl (ih (i + 1) _ (by omega)))
        rw [← e] at h
        exact h
set_option maxHeartbeats 4000000 in
set_option maxRecDepth 100000 in
theorem c_Pool_sumOfFees {l : Launch} {D : va_G} {ca : Nat → ClassId} {hp : hp_T} {d : Nat} {po : Nat} {L : po_L} {S : po_S} (hS : po_At ca hp po L S) {x : Int64} : ma_V l D ca ma_T M_Pool_sumOfFees (d + 2) 0 0 hp (ma_ql (ma_eq (cl_fees S x) hp)) 0 (lv_args 0 [.ref po, .long x]) [] := by
  change ma_V l D ca ma_T M_Pool_sumOfFees (d + 2) 0 0 hp (ma_ql (ma_eq (cl_fees S x) hp)) 0 [(0, .ref po), (1, .long x)] []
  refine rv_lconst (v := 0) d_Pool_sumOfFees_0 (by decide) ?_
  refine rv_lstore_n (lv' := [(3, .long 0), (0, .ref po), (1, .long x)]) d_Pool_sumOfFees_1 rfl (by decide) rfl ?_
  refine rv_iconst (v := nI 0) d_Pool_sumOfFees_2 (by decide) ?_
  refine rv_istore (lv' := [(5, .int (nI 0)), (3, .long 0), (0, .ref po), (1, .long x)]) d_Pool_sumOfFees_3 (by decide) rfl ?_
  exact rv_lv [0, 1, 2, 3] rfl (c_Pool_sumOfFees_l hS  41 0 0 (Nat.zero_add _))
set_option maxHeartbeats 4000000 in
set_option maxRecDepth 100000 in
theorem c_Pool_sumOfSizes_l {l : Launch} {D : va_G} {ca : Nat → ClassId} {hp : hp_T} {d : Nat} {po : Nat} {L : po_L} {S : po_S} (hS : po_At ca hp po L S) {x : Int64} : ∀ (m i : Nat) (a : Int32), i + m = 41 → ma_V l D ca ma_T M_Pool_sumOfSizes (d + 2) 0 0 hp (ma_qi (ma_eq (lp_fold (fun p a => if bz_t x p = true then a + (S.2.2 p).2.2.2.1 else a) m i a) hp)) 5 [(4, .int (nI i)), (3, .int a), (0, .ref po), (1, .long x)] [] := by
  obtain ⟨f, hf, hfp⟩ := hS.2.1
  intro m
  induction m with
  | zero =>
    intro i a hi
    refine rv_iload d_Pool_sumOfSizes_5 0 rfl ?_
    refine rv_bipush (v := nI 41) d_Pool_sumOfSizes_7 (by decide) ?_
    refine rv_icmp_ge (tgt := 40) d_Pool_sumOfSizes_9 (by decide) (fun c_9 => ?_) (fun c_9 => ?_)
    · refine rv_iload_n d_Pool_sumOfSizes_40 rfl 1 rfl ?_
      exact rv_ireturn ⟨_, rfl, rfl, rfl⟩ d_Pool_sumOfSizes_41 rfl rfl
    · exact absurd (nI_le (by omega) (by omega)) c_9
  | succ m ih =>
    intro i a hi
    refine rv_iload d_Pool_sumOfSizes_5 0 rfl ?_
    refine rv_bipush (v := nI 41) d_Pool_sumOfSizes_7 (by decide) ?_
    refine rv_icmp_ge (tgt := 40) d_Pool_sumOfSizes_9 (by decide) (fun c_9 => ?_) (fun c_9 => ?_)
    · exact absurd c_9 (nI_ge (by omega) (by omega))
    · refine rv_lload_n d_Pool_sumOfSizes_12 rfl 3 rfl ?_
      refine rv_iload d_Pool_sumOfSizes_13 0 rfl ?_
      refine rv_callSN (kc' := 0) (ks' := 0) (kc1 := 0) (ks1 := 0) (As := [.long x, .int (nI i)]) (rest := []) (c_Desk_has (by omega)) ok_Desk_has (host := "PoolDesk") (List.mem_of_getElem? (i := 6) rfl) (wi_Pool_sumOfSizes _ (List.mem_of_getElem? (i := 0) rfl)) rfl rfl (Nat.le_of_ble_eq_true rfl) (Nat.le_of_ble_eq_true rfl) ⟨Nat.le_of_ble_eq_true rfl, Nat.le_of_ble_eq_true rfl⟩ d_Pool_sumOfSizes_15 (rv_kie ?_)
      refine rv_if_eq (tgt := 34) d_Pool_sumOfSizes_18 (by decide) (fun c_18 => ?_) (fun c_18 => ?_)
      · have e : (fun p a => if bz_t x p = true then a + (S.2.2 p).2.2.2.1 else a) i a = a := by simp [bI_0.mp c_18]
        refine rv_iinc (k := 0) (v := nI (i + 1)) (lv' := [(4, .int (nI (i + 1))), (3, .int a), (0, .ref po), (1, .long x)]) d_Pool_sumOfSizes_34 rfl (nI_1 _) (by decide) rfl ?_
        refine rv_goto (tgt := 5) d_Pool_sumOfSizes_37 (by decide) ?_
        refine rv_post (Q' := ma_qi (ma_eq (lp_fold (fun p a => if bz_t x p = true then a + (S.2.2 p).2.2.2.1 else a) m (i + 1) (a)) hp)) (fun _ _ h => ?_) (rv_lv [0, 1, 2, 3] rfl (ih (i + 1) _ (by omega)))
        rw [← e] at h
        exact h
      · have e : (fun p a => if bz_t x p = true then a + (S.2.2 p).2.2.2.1 else a) i a = a + (S.2.2 i).2.2.2.1 := by simp [bI_n.mp c_18]
        refine rv_iload_n d_Pool_sumOfSizes_21 rfl 1 rfl ?_
        refine rv_aload_n d_Pool_sumOfSizes_22 rfl 2 rfl ?_
        refine rv_get ka_Pool hS.1 rfl 0 (by decide) (wi_Pool_sumOfSizes _ (List.mem_of_getElem? (i := 1) rfl)) rfl d_Pool_sumOfSizes_23 ?_
        refine rv_iload d_Pool_sumOfSizes_26 0 rfl ?_
        refine rv_aald hf 2 rfl (by omega) (by decide) d_Pool_sumOfSizes_28 ?_
        refine rv_eqv (y := .ref (L.2.1 i)) ((by rw [hfp i (by omega)]; rfl)) ?_
        refine rv_get ka_Tx (hS.2.2 i (by omega)).1 rfl 3 (by decide) (wi_Pool_sumOfSizes _ (List.mem_of_getElem? (i := 2) rfl)) rfl d_Pool_sumOfSizes_29 ?_
        refine rv_iadd d_Pool_sumOfSizes_32 ?_
        refine rv_istore_n (lv' := [(3, .int (a + ((S.2.2 i).2.2.2.1))), (4, .int (nI i)), (0, .ref po), (1, .long x)]) d_Pool_sumOfSizes_33 rfl (by decide) rfl ?_
        refine rv_iinc (k := 1) (v := nI (i + 1)) (lv' := [(4, .int (nI (i + 1))), (3, .int (a + ((S.2.2 i).2.2.2.1))), (0, .ref po), (1, .long x)]) d_Pool_sumOfSizes_34 rfl (nI_1 _) (by decide) rfl ?_
        refine rv_goto (tgt := 5) d_Pool_sumOfSizes_37 (by decide) ?_
        refine rv_post (Q' := ma_qi (ma_eq (lp_fold (fun p a => if bz_t x p = true then a + (S.2.2 p).2.2.2.1 else a) m (i + 1) (a + ((S.2.2 i).2.2.2.1))) hp)) (fun _ _ h => ?_) (rv_lv [0, 1, 2, 3] rfl (ih (i + 1) _ (by omega)))
        rw [← e] at h
        exact h
set_option maxHeartbeats 4000000 in
set_option maxRecDepth 100000 in
theorem c_Pool_sumOfSizes {l : Launch} {D : va_G} {ca : Nat → ClassId} {hp : hp_T} {d : Nat} {po : Nat} {L : po_L} {S : po_S} (hS : po_At ca hp po L S) {x : Int64} : ma_V l D ca ma_T M_Pool_sumOfSizes (d + 2) 0 0 hp (ma_qi (ma_eq (cl_sizes S x) hp)) 0 (lv_args 0 [.ref po, .long x]) [] := by
  change ma_V l D ca ma_T M_Pool_sumOfSizes (d + 2) 0 0 hp (ma_qi (ma_eq (cl_sizes S x) hp)) 0 [(0, .ref po), (1, .long x)] []
  refine rv_iconst (v := nI 0) d_Pool_sumOfSizes_0 (by decide) ?_
  refine rv_istore_n (lv' := [(3, .int (nI 0)), (0, .ref po), (1, .long x)]) d_Pool_sumOfSizes_1 rfl (by decide) rfl ?_
  refine rv_iconst (v := nI 0) d_Pool_sumOfSizes_2 (by decide) ?_
  refine rv_istore (lv' := [(4, .int (nI 0)), (3, .int (nI 0)), (0, .ref po), (1, .long x)]) d_Pool_sumOfSizes_3 (by decide) rfl ?_
  exact rv_lv [0, 1, 2, 3] rfl (c_Pool_sumOfSizes_l hS  41 0 (nI 0) (Nat.zero_add _))
set_option maxHeartbeats 4000000 in
set_option maxRecDepth 100000 in
theorem c_Pool_sumOfKeys_l {l : Launch} {D : va_G} {ca : Nat → ClassId} {hp : hp_T} {d : Nat} {po : Nat} {L : po_L} {S : po_S} (hS : po_At ca hp po L S)  : ∀ (m i : Nat) (a : Int32), i + m = 41 → ma_V l D ca ma_T M_Pool_sumOfKeys (d + 2) 0 0 hp (ma_qi (ma_eq (lp_fold (fun p a => if bz_t S.1 p = true then a + nI (S.2.2 p).2.1.1 else a) m i a) hp)) 4 [(2, .int (nI i)), (1, .int a), (0, .ref po)] [] := by
  obtain ⟨f, hf, hfp⟩ := hS.2.1
  intro m
  induction m with
  | zero =>
    intro i a hi
    refine rv_iload_n d_Pool_sumOfKeys_4 rfl 0 rfl ?_
    refine rv_bipush (v := nI 41) d_Pool_sumOfKeys_5 (by decide) ?_
    refine rv_icmp_ge (tgt := 42) d_Pool_sumOfKeys_7 (by decide) (fun c_7 => ?_) (fun c_7 => ?_)
    · refine rv_iload_n d_Pool_sumOfKeys_42 rfl 1 rfl ?_
      exact rv_ireturn ⟨_, rfl, rfl, rfl⟩ d_Pool_sumOfKeys_43 rfl rfl
    · exact absurd (nI_le (by omega) (by omega)) c_7
  | succ m ih =>
    intro i a hi
    refine rv_iload_n d_Pool_sumOfKeys_4 rfl 0 rfl ?_
    refine rv_bipush (v := nI 41) d_Pool_sumOfKeys_5 (by decide) ?_
    refine rv_icmp_ge (tgt := 42) d_Pool_sumOfKeys_7 (by decide) (fun c_7 => ?_) (fun c_7 => ?_)
    · exact absurd c_7 (nI_ge (by omega) (by omega))
    · refine rv_aload_n d_Pool_sumOfKeys_10 rfl 2 rfl ?_
      refine rv_get ka_Pool hS.1 rfl 1 (by decide) (wi_Pool_sumOfKeys _ (List.mem_of_getElem? (i := 0) rfl)) rfl d_Pool_sumOfKeys_11 ?_
      refine rv_iload_n d_Pool_sumOfKeys_14 rfl 0 rfl ?_
      refine rv_callSN (kc' := 0) (ks' := 0) (kc1 := 0) (ks1 := 0) (As := [.long S.1, .int (nI i)]) (rest := []) (c_Desk_has (by omega)) ok_Desk_has (host := "PoolDesk") (List.mem_of_getElem? (i := 6) rfl) (wi_Pool_sumOfKeys _ (List.mem_of_getElem? (i := 1) rfl)) rfl rfl (Nat.le_of_ble_eq_true rfl) (Nat.le_of_ble_eq_true rfl) ⟨Nat.le_of_ble_eq_true rfl, Nat.le_of_ble_eq_true rfl⟩ d_Pool_sumOfKeys_15 (rv_kie ?_)
      refine rv_if_eq (tgt := 36) d_Pool_sumOfKeys_18 (by decide) (fun c_18 => ?_) (fun c_18 => ?_)
      · have e : (fun p a => if bz_t S.1 p = true then a + nI (S.2.2 p).2.1.1 else a) i a = a := by simp [bI_0.mp c_18]
        refine rv_iinc (k := 0) (v := nI (i + 1)) (lv' := [(2, .int (nI (i + 1))), (1, .int a), (0, .ref po)]) d_Pool_sumOfKeys_36 rfl (nI_1 _) (by decide) rfl ?_
        refine rv_goto (tgt := 4) d_Pool_sumOfKeys_39 (by decide) ?_
        refine rv_post (Q' := ma_qi (ma_eq (lp_fold (fun p a => if bz_t S.1 p = true then a + nI (S.2.2 p).2.1.1 else a) m (i + 1) (a)) hp)) (fun _ _ h => ?_) (rv_lv [0, 1, 2] rfl (ih (i + 1) _ (by omega)))
        rw [← e] at h
        exact h
      · have e : (fun p a => if bz_t S.1 p = true then a + nI (S.2.2 p).2.1.1 else a) i a = a + nI (S.2.2 i).2.1.1 := by simp [bI_n.mp c_18]
        refine rv_iload_n d_Pool_sumOfKeys_21 rfl 1 rfl ?_
        refine rv_aload_n d_Pool_sumOfKeys_22 rfl 2 rfl ?_
        refine rv_get ka_Pool hS.1 rfl 0 (by decide) (wi_Pool_sumOfKeys _ (List.mem_of_getElem? (i := 2) rfl)) rfl d_Pool_sumOfKeys_23 ?_
        refine rv_iload_n d_Pool_sumOfKeys_26 rfl 0 rfl ?_
        refine rv_aald hf 2 rfl (by omega) (by decide) d_Pool_sumOfKeys_27 ?_
        refine rv_eqv (y := .ref (L.2.1 i)) ((by rw [hfp i (by omega)]; rfl)) ?_
        refine rv_get ka_Tx (hS.2.2 i (by omega)).1 rfl 1 (by decide) (wi_Pool_sumOfKeys _ (List.mem_of_getElem? (i := 3) rfl)) rfl d_Pool_sumOfKeys_28 ?_
        refine rv_get ka_Keys (hS.2.2 i (by omega)).2.2.1 rfl 2 (by decide) (wi_Pool_sumOfKeys _ (List.mem_of_getElem? (i := 4) rfl)) rfl d_Pool_sumOfKeys_31 ?_
        refine rv_iadd d_Pool_sumOfKeys_34 ?_
        refine rv_istore_n (lv' := [(1, .int (a + (nI (S.2.2 i).2.1.1))), (2, .int (nI i)), (0, .ref po)]) d_Pool_sumOfKeys_35 rfl (by decide) rfl ?_
        refine rv_iinc (k := 1) (v := nI (i + 1)) (lv' := [(2, .int (nI (i + 1))), (1, .int (a + (nI (S.2.2 i).2.1.1))), (0, .ref po)]) d_Pool_sumOfKeys_36 rfl (nI_1 _) (by decide) rfl ?_
        refine rv_goto (tgt := 4) d_Pool_sumOfKeys_39 (by decide) ?_
        refine rv_post (Q' := ma_qi (ma_eq (lp_fold (fun p a => if bz_t S.1 p = true then a + nI (S.2.2 p).2.1.1 else a) m (i + 1) (a + (nI (S.2.2 i).2.1.1))) hp)) (fun _ _ h => ?_) (rv_lv [0, 1, 2] rfl (ih (i + 1) _ (by omega)))
        rw [← e] at h
        exact h
set_option maxHeartbeats 4000000 in
set_option maxRecDepth 100000 in
theorem c_Pool_sumOfKeys {l : Launch} {D : va_G} {ca : Nat → ClassId} {hp : hp_T} {d : Nat} {po : Nat} {L : po_L} {S : po_S} (hS : po_At ca hp po L S)  : ma_V l D ca ma_T M_Pool_sumOfKeys (d + 2) 0 0 hp (ma_qi (ma_eq (cl_keys S) hp)) 0 (lv_args 0 [.ref po]) [] := by
  change ma_V l D ca ma_T M_Pool_sumOfKeys (d + 2) 0 0 hp (ma_qi (ma_eq (cl_keys S) hp)) 0 [(0, .ref po)] []
  refine rv_iconst (v := nI 0) d_Pool_sumOfKeys_0 (by decide) ?_
  refine rv_istore_n (lv' := [(1, .int (nI 0)), (0, .ref po)]) d_Pool_sumOfKeys_1 rfl (by decide) rfl ?_
  refine rv_iconst (v := nI 0) d_Pool_sumOfKeys_2 (by decide) ?_
  refine rv_istore_n (lv' := [(2, .int (nI 0)), (1, .int (nI 0)), (0, .ref po)]) d_Pool_sumOfKeys_3 rfl (by decide) rfl ?_
  exact rv_lv [0, 1, 2] rfl (c_Pool_sumOfKeys_l hS  41 0 (nI 0) (Nat.zero_add _))
end
section
def wl_Desk_isTransaction : List Cond := [.constantLong "PoolDesk" 158 2100000000000000]
theorem wi_Desk_isTransaction : ∀ w ∈ wl_Desk_isTransaction, w ∈ ma_tbl := by decide +kernel
def wl_Desk_compareRates : List Cond := [.methodLink "PoolDesk" 178 y_Long_compare, .static y_Long_compare]
theorem wi_Desk_compareRates : ∀ w ∈ wl_Desk_compareRates, w ∈ ma_tbl := by decide +kernel
def wl_Desk_lowest : List Cond := [.methodLink "PoolDesk" 108 y_Long_bitCount, .static y_Long_bitCount]
theorem wi_Desk_lowest : ∀ w ∈ wl_Desk_lowest, w ∈ ma_tbl := by decide +kernel
def wl_Pool_freePlace : List Cond := [.fieldLink "PoolDesk$Pool" 18 "PoolDesk$Pool" "present" "J", .constantLong "PoolDesk$Pool" 46 (-1), .static y_Desk_lowest]
theorem wi_Pool_freePlace : ∀ w ∈ wl_Pool_freePlace, w ∈ ma_tbl := by decide +kernel
def wl_Pool_family : List Cond := [.static y_Desk_lowest, .fieldLink "PoolDesk$Pool" 11 "PoolDesk$Pool" "places" "[LPoolDesk$Transaction;", .fieldLink "PoolDesk$Pool" 120 "PoolDesk$Transaction" "children" "J", .constantLong "PoolDesk$Pool" 46 (-1), .static y_Desk_bit]
theorem wi_Pool_family : ∀ w ∈ wl_Pool_family, w ∈ ma_tbl := by decide +kernel
def wl_Pool_paysBetter : List Cond := [.fieldLink "PoolDesk$Pool" 129 "PoolDesk$Transaction" "fee" "J", .fieldLink "PoolDesk$Pool" 132 "PoolDesk$Transaction" "size" "I", .static y_Desk_compareRates, .fieldLink "PoolDesk$Pool" 126 "PoolDesk$Transaction" "coming" "I"]
theorem wi_Pool_paysBetter : ∀ w ∈ wl_Pool_paysBetter, w ∈ ma_tbl := by decide +kernel
def wl_Pool_bestPaying : List Cond := [.fieldLink "PoolDesk$Pool" 18 "PoolDesk$Pool" "present" "J", .constantLong "PoolDesk$Pool" 46 (-1), .static y_Desk_has, .fieldLink "PoolDesk$Pool" 11 "PoolDesk$Pool" "places" "[LPoolDesk$Transaction;", .fieldLink "PoolDesk$Pool" 117 "PoolDesk$Transaction" "parents" "J", .fieldLink "PoolDesk$Pool" 132 "PoolDesk$Transaction" "size" "I", .methodLink "PoolDesk$Pool" 148 y_Pool_paysBetter, .static y_Pool_paysBetter]
theorem wi_Pool_bestPaying : ∀ w ∈ wl_Pool_bestPaying, w ∈ ma_tbl := by decide +kernel
def wl_Pool_leastPaying : List Cond := [.fieldLink "PoolDesk$Pool" 18 "PoolDesk$Pool" "present" "J", .static y_Desk_has, .static y_Desk_bit, .methodLink "PoolDesk$Pool" 85 y_Pool_family, .instanceMethod y_Pool_family, .selects "PoolDesk$Pool" y_Pool_family y_Pool_family, .methodLink "PoolDesk$Pool" 138 y_Pool_sumOfFees, .instanceMethod y_Pool_sumOfFees, .selects "PoolDesk$Pool" y_Pool_sumOfFees y_Pool_sumOfFees, .methodLink "PoolDesk$Pool" 141 y_Pool_sumOfSizes, .instanceMethod y_Pool_sumOfSizes, .selects "PoolDesk$Pool" y_Pool_sumOfSizes y_Pool_sumOfSizes, .static y_Desk_compareRates, .fieldLink "PoolDesk$Pool" 11 "PoolDesk$Pool" "places" "[LPoolDesk$Transaction;", .fieldLink "PoolDesk$Pool" 126 "PoolDesk$Transaction" "coming" "I"]
theorem wi_Pool_leastPaying : ∀ w ∈ wl_Pool_leastPaying, w ∈ ma_tbl := by decide +kernel
def wl_Pool_hangsOnItself : List Cond := [.methodLink "PoolDesk$Pool" 78 y_Keys_bears, .instanceMethod y_Keys_bears, .selects "PoolDesk$Keys" y_Keys_bears y_Keys_bears, .methodLink "PoolDesk$Pool" 81 y_Pool_spendersOf, .instanceMethod y_Pool_spendersOf, .selects "PoolDesk$Pool" y_Pool_spendersOf y_Pool_spendersOf, .methodLink "PoolDesk$Pool" 85 y_Pool_family, .instanceMethod y_Pool_family, .selects "PoolDesk$Pool" y_Pool_family y_Pool_family, .methodLink "PoolDesk$Pool" 89 y_Pool_named, .instanceMethod y_Pool_named, .selects "PoolDesk$Pool" y_Pool_named y_Pool_named]
theorem wi_Pool_hangsOnItself : ∀ w ∈ wl_Pool_hangsOnItself, w ∈ ma_tbl := by decide +kernel
def wl_Pool_hindrance : List Cond := [.methodLink "PoolDesk$Pool" 52 y_Pool_find, .instanceMethod y_Pool_find, .selects "PoolDesk$Pool" y_Pool_find y_Pool_find, .methodLink "PoolDesk$Pool" 56 y_Pool_isSpent, .instanceMethod y_Pool_isSpent, .selects "PoolDesk$Pool" y_Pool_isSpent y_Pool_isSpent, .methodLink "PoolDesk$Pool" 60 y_Pool_missesOutput, .instanceMethod y_Pool_missesOutput, .selects "PoolDesk$Pool" y_Pool_missesOutput y_Pool_missesOutput, .methodLink "PoolDesk$Pool" 64 y_Pool_hangsOnItself, .instanceMethod y_Pool_hangsOnItself, .selects "PoolDesk$Pool" y_Pool_hangsOnItself y_Pool_hangsOnItself]
theorem wi_Pool_hindrance : ∀ w ∈ wl_Pool_hindrance, w ∈ ma_tbl := by decide +kernel
def wl_Row_word : List Cond := [.fieldLink "PoolDesk$Row" 15 "PoolDesk$Row" "length" "I", .fieldLink "PoolDesk$Row" 9 "PoolDesk$Row" "words" "[J"]
theorem wi_Row_word : ∀ w ∈ wl_Row_word, w ∈ ma_tbl := by decide +kernel
set_option maxHeartbeats 4000000 in
set_option maxRecDepth 100000 in
theorem c_Desk_isTransaction {l : Launch} {D : va_G} {ca : Nat → ClassId} {hp : hp_T} {d : Nat} {f : Int64} {z o : Int32} : ma_V l D ca ma_T M_Desk_isTransaction d 0 0 hp (ma_qi (ma_eq (bI (cl_isTx f z o)) hp)) 0 (lv_args 0 [.long f, .int z, .int o]) [] := by
  change ma_V l D ca ma_T M_Desk_isTransaction d 0 0 hp (ma_qi (ma_eq (bI (cl_isTx f z o)) hp)) 0 [(0, .long f), (2, .int z), (3, .int o)] []
  refine rv_lload_n d_Desk_isTransaction_0 rfl 0 rfl ?_
  refine rv_lconst (v := 0) d_Desk_isTransaction_1 (by decide) ?_
  refine rv_lcmp d_Desk_isTransaction_2 ?_
  refine rv_if_lt (tgt := 40) d_Desk_isTransaction_3 (by decide) (fun c_3 => ?_) (fun c_3 => ?_)
  · have e : cl_isTx f z o = false := by simp [cl_isTx, Int64.not_le.mpr ((lg_cmp_lt _ _).mp c_3)]
    refine rv_iconst (v := nI 0) d_Desk_isTransaction_40 (by decide) ?_
    refine rv_eqi (y := bI (cl_isTx f z o)) (by rw [e]; rfl) ?_
    exact rv_ireturn ⟨_, rfl, rfl, rfl⟩ d_Desk_isTransaction_41 rfl (bI_nar _)
  · have q0 := (lg_cmp_ge _ _).mp (Int32.not_lt.mp c_3)
    refine rv_lload_n d_Desk_isTransaction_6 rfl 0 rfl ?_
    refine rv_ldc2 (v := 2100000000000000) d_Desk_isTransaction_7 (wi_Desk_isTransaction _ (List.mem_of_getElem? (i := 0) rfl)) ?_
    refine rv_lcmp d_Desk_isTransaction_10 ?_
    refine rv_if_gt (tgt := 40) d_Desk_isTransaction_11 (by decide) (fun c_11 => ?_) (fun c_11 => ?_)
    · have e : cl_isTx f z o = false := by simp [cl_isTx, Int64.not_le.mpr ((lg_cmp_gt _ _).mp c_11)]
      refine rv_iconst (v := nI 0) d_Desk_isTransaction_40 (by decide) ?_
      refine rv_eqi (y := bI (cl_isTx f z o)) (by rw [e]; rfl) ?_
      exact rv_ireturn ⟨_, rfl, rfl, rfl⟩ d_Desk_isTransaction_41 rfl (bI_nar _)
    · have q1 := (lg_cmp_le _ _).mp (Int32.not_lt.mp c_11)
      refine rv_iload_n d_Desk_isTransaction_14 rfl 1 rfl ?_
      refine rv_iconst (v := nI 1) d_Desk_isTransaction_15 (by decide) ?_
      refine rv_icmp_lt (tgt := 40) d_Desk_isTransaction_16 (by decide) (fun c_16 => ?_) (fun c_16 => ?_)
      · have e : cl_isTx f z o = false := by simp [cl_isTx, Int32.not_le.mpr c_16]
        refine rv_iconst (v := nI 0) d_Desk_isTransaction_40 (by decide) ?_
        refine rv_eqi (y := bI (cl_isTx f z o)) (by rw [e]; rfl) ?_
        exact rv_ireturn ⟨_, rfl, rfl, rfl⟩ d_Desk_isTransaction_41 rfl (bI_nar _)
      · have q2 := Int32.not_lt.mp c_16
        refine rv_iload_n d_Desk_isTransaction_19 rfl 1 rfl ?_
        refine rv_sipush (v := nI 2000) d_Desk_isTransaction_20 (by decide) ?_
        refine rv_icmp_gt (tgt := 40) d_Desk_isTransaction_23 (by decide) (fun c_23 => ?_) (fun c_23 => ?_)
        · have e : cl_isTx f z o = false := by simp [cl_isTx, Int32.not_le.mpr c_23]
          refine rv_iconst (v := nI 0) d_Desk_isTransaction_40 (by decide) ?_
          refine rv_eqi (y := bI (cl_isTx f z o)) (by rw [e]; rfl) ?_
          exact rv_ireturn ⟨_, rfl, rfl, rfl⟩ d_Desk_isTransaction_41 rfl (bI_nar _)
        · have q3 := Int32.not_lt.mp c_23
          refine rv_iload_n d_Desk_isTransaction_26 rfl 2 rfl ?_
          refine rv_if_lt (tgt := 40) d_Desk_isTransaction_27 (by decide) (fun c_27 => ?_) (fun c_27 => ?_)
          · have e : cl_isTx f z o = false := by simp [cl_isTx, Int32.not_le.mpr c_27]
            refine rv_iconst (v := nI 0) d_Desk_isTransaction_40 (by decide) ?_
            refine rv_eqi (y := bI (cl_isTx f z o)) (by rw [e]; rfl) ?_
            exact rv_ireturn ⟨_, rfl, rfl, rfl⟩ d_Desk_isTransaction_41 rfl (bI_nar _)
          · have q4 := Int32.not_lt.mp c_27
            refine rv_iload_n d_Desk_isTransaction_30 rfl 2 rfl ?_
            refine rv_bipush (v := nI 8) d_Desk_isTransaction_31 (by decide) ?_
            refine rv_icmp_gt (tgt := 40) d_Desk_isTransaction_33 (by decide) (fun c_33 => ?_) (fun c_33 => ?_)
            · have e : cl_isTx f z o = false := by simp [cl_isTx, Int32.not_le.mpr c_33]
              refine rv_iconst (v := nI 0) d_Desk_isTransaction_40 (by decide) ?_
              refine rv_eqi (y := bI (cl_isTx f z o)) (by rw [e]; rfl) ?_
              exact rv_ireturn ⟨_, rfl, rfl, rfl⟩ d_Desk_isTransaction_41 rfl (bI_nar _)
            · have e : cl_isTx f z o = true := by simp [cl_isTx, q0, q1, q2, q3, q4, Int32.not_lt.mp c_33]
              refine rv_iconst (v := nI 1) d_Desk_isTransaction_36 (by decide) ?_
              refine rv_goto (tgt := 41) d_Desk_isTransaction_37 (by decide) ?_
              refine rv_eqi (y := bI (cl_isTx f z o)) (by rw [e]; rfl) ?_
              exact rv_ireturn ⟨_, rfl, rfl, rfl⟩ d_Desk_isTransaction_41 rfl (bI_nar _)
set_option maxHeartbeats 4000000 in
set_option maxRecDepth 100000 in
theorem c_Desk_compareRates {l : Launch} {D : va_G} {ca : Nat → ClassId} {hp : hp_T} {d : Nat} {a b c q : Int64} : ma_V l D ca ma_T M_Desk_compareRates (d + 1) 0 0 hp (ma_qi (ma_eq (cl_cmp a b c q) hp)) 0 (lv_args 0 [.long a, .long b, .long c, .long q]) [] := by
  change ma_V l D ca ma_T M_Desk_compareRates (d + 1) 0 0 hp (ma_qi (ma_eq (cl_cmp a b c q) hp)) 0 [(0, .long a), (2, .long b), (4, .long c), (6, .long q)] []
  refine rv_lload_n d_Desk_compareRates_0 rfl 1 rfl ?_
  refine rv_lconst (v := 1) d_Desk_compareRates_1 (by decide) ?_
  refine rv_lcmp d_Desk_compareRates_2 ?_
  refine rv_if_lt (tgt := 13) d_Desk_compareRates_3 (by decide) (fun c_3 => ?_) (fun c_3 => ?_)
  · have q1 := (lg_cmp_lt _ _).mp c_3
    have e : cl_cmp a b c q = nI 0 := by unfold cl_cmp; rw [if_pos q1]
    refine rv_iconst (v := nI 0) d_Desk_compareRates_13 (by decide) ?_
    exact rv_ireturn ⟨_, rfl, e.symm, rfl⟩ d_Desk_compareRates_14 rfl rfl
  · have q1 : ¬ b < 1 := Int64.not_lt.mpr ((lg_cmp_ge _ _).mp (Int32.not_lt.mp c_3))
    have z1 : ¬ b = 0 := fun z => by subst z; exact q1 (by decide)
    refine rv_lload d_Desk_compareRates_6 3 rfl ?_
    refine rv_lconst (v := 1) d_Desk_compareRates_8 (by decide) ?_
    refine rv_lcmp d_Desk_compareRates_9 ?_
    refine rv_if_ge (tgt := 15) d_Desk_compareRates_10 (by decide) (fun c_10 => ?_) (fun c_10 => ?_)
    · have q2 : ¬ q < 1 := Int64.not_lt.mpr ((lg_cmp_ge _ _).mp c_10)
      have z2 : ¬ q = 0 := fun z => by subst z; exact q2 (by decide)
      refine rv_lload_n d_Desk_compareRates_15 rfl 0 rfl ?_
      refine rv_lload_n d_Desk_compareRates_16 rfl 1 rfl ?_
      refine rv_ldiv d_Desk_compareRates_17 z1 ?_
      refine rv_lload d_Desk_compareRates_18 2 rfl ?_
      refine rv_lload d_Desk_compareRates_20 3 rfl ?_
      refine rv_ldiv d_Desk_compareRates_22 z2 ?_
      refine rv_callS (kc' := 0) (ks' := 0) (kc1 := 0) (ks1 := 0) (As := [.long (a / b), .long (c / q)]) (rest := []) (c_Long_compare) ok_Long_compare (wi_Desk_compareRates _ (List.mem_of_getElem? (i := 0) rfl)) (wi_Desk_compareRates _ (List.mem_of_getElem? (i := 1) rfl)) rfl rfl (Nat.le_of_ble_eq_true rfl) (Nat.le_of_ble_eq_true rfl) ⟨Nat.le_of_ble_eq_true rfl, Nat.le_of_ble_eq_true rfl⟩ d_Desk_compareRates_23 (rv_kie ?_)
      refine rv_istore (lv' := [(8, .int (lg_cmp (a / b) (c / q))), (0, .long a), (2, .long b), (4, .long c), (6, .long q)]) d_Desk_compareRates_26 (by decide) rfl ?_
      refine rv_iload d_Desk_compareRates_28 0 rfl ?_
      refine rv_if_eq (tgt := 36) d_Desk_compareRates_30 (by decide) (fun c_30 => ?_) (fun c_30 => ?_)
      · have e : cl_cmp a b c q = lg_cmp ((a - a / b * b) * q) ((c - c / q * q) * b) := by unfold cl_cmp; rw [if_neg q1, if_neg q2, if_pos c_30]
        refine rv_lload_n d_Desk_compareRates_36 rfl 1 rfl ?_
        refine rv_lload_n d_Desk_compareRates_37 rfl 2 rfl ?_
        refine rv_lrem d_Desk_compareRates_38 z1 ?_
        refine rv_lload d_Desk_compareRates_39 4 rfl ?_
        refine rv_lmul d_Desk_compareRates_41 ?_
        refine rv_lload d_Desk_compareRates_42 3 rfl ?_
        refine rv_lload d_Desk_compareRates_44 4 rfl ?_
        refine rv_lrem d_Desk_compareRates_46 z2 ?_
        refine rv_lload_n d_Desk_compareRates_47 rfl 2 rfl ?_
        refine rv_lmul d_Desk_compareRates_48 ?_
        refine rv_callS (kc' := 0) (ks' := 0) (kc1 := 0) (ks1 := 0) (As := [.long ((a - a / b * b) * q), .long ((c - c / q * q) * b)]) (rest := []) (c_Long_compare) ok_Long_compare (wi_Desk_compareRates _ (List.mem_of_getElem? (i := 0) rfl)) (wi_Desk_compareRates _ (List.mem_of_getElem? (i := 1) rfl)) rfl rfl (Nat.le_of_ble_eq_true rfl) (Nat.le_of_ble_eq_true rfl) ⟨Nat.le_of_ble_eq_true rfl, Nat.le_of_ble_eq_true rfl⟩ d_Desk_compareRates_49 (rv_kie ?_)
        exact rv_ireturn ⟨_, rfl, e.symm, rfl⟩ d_Desk_compareRates_52 rfl rfl
      · have e : cl_cmp a b c q = lg_cmp (a / b) (c / q) := by unfold cl_cmp; rw [if_neg q1, if_neg q2, if_neg c_30]
        refine rv_iload d_Desk_compareRates_33 0 rfl ?_
        exact rv_ireturn ⟨_, rfl, e.symm, rfl⟩ d_Desk_compareRates_35 rfl rfl
    · have q2 : q < 1 := Int64.not_le.mp (fun z => c_10 ((lg_cmp_ge _ _).mpr z))
      have e : cl_cmp a b c q = nI 0 := by unfold cl_cmp; rw [if_neg q1, if_pos q2]
      refine rv_iconst (v := nI 0) d_Desk_compareRates_13 (by decide) ?_
      exact rv_ireturn ⟨_, rfl, e.symm, rfl⟩ d_Desk_compareRates_14 rfl rfl
set_option maxHeartbeats 4000000 in
set_option maxRecDepth 100000 in
theorem c_Desk_lowest {l : Launch} {D : va_G} {ca : Nat → ClassId} {hp : hp_T} {d : Nat} {x : Int64} : ma_V l D ca ma_T M_Desk_lowest (d + 1) 0 0 hp (ma_qi (ma_eq (nI (bz_low x)) hp)) 0 (lv_args 0 [.long x]) [] := by
  change ma_V l D ca ma_T M_Desk_lowest (d + 1) 0 0 hp (ma_qi (ma_eq (nI (bz_low x)) hp)) 0 [(0, .long x)] []
  refine rv_lload_n d_Desk_lowest_0 rfl 0 rfl ?_
  refine rv_lload_n d_Desk_lowest_1 rfl 0 rfl ?_
  refine rv_lneg d_Desk_lowest_2 ?_
  refine rv_land d_Desk_lowest_3 ?_
  refine rv_lconst (v := 1) d_Desk_lowest_4 (by decide) ?_
  refine rv_lsub d_Desk_lowest_5 ?_
  refine rv_callS (kc' := 0) (ks' := 0) (kc1 := 0) (ks1 := 0) (As := [.long ((x &&& (-x)) - 1)]) (rest := []) (c_Long_bitCount) ok_Long_bitCount (wi_Desk_lowest _ (List.mem_of_getElem? (i := 0) rfl)) (wi_Desk_lowest _ (List.mem_of_getElem? (i := 1) rfl)) rfl rfl (Nat.le_of_ble_eq_true rfl) (Nat.le_of_ble_eq_true rfl) ⟨Nat.le_of_ble_eq_true rfl, Nat.le_of_ble_eq_true rfl⟩ d_Desk_lowest_6 (rv_kie ?_)
  exact rv_ireturn ⟨_, rfl, rfl, rfl⟩ d_Desk_lowest_9 rfl rfl
set_option maxHeartbeats 4000000 in
set_option maxRecDepth 100000 in
theorem c_Pool_freePlace {l : Launch} {D : va_G} {ca : Nat → ClassId} {hp : hp_T} {d : Nat} {po : Nat} {L : po_L} {S : po_S} (hS : po_At ca hp po L S) : ma_V l D ca ma_T M_Pool_freePlace (d + 2) 0 0 hp (ma_qi (ma_eq (cl_free S) hp)) 0 (lv_args 0 [.ref po]) [] := by
  change ma_V l D ca ma_T M_Pool_freePlace (d + 2) 0 0 hp (ma_qi (ma_eq (cl_free S) hp)) 0 [(0, .ref po)] []
  have hb := bz_low_le (S.1 ^^^ (-1))
  refine rv_aload_n d_Pool_freePlace_0 rfl 0 rfl ?_
  refine rv_get ka_Pool hS.1 rfl 1 (by decide) (wi_Pool_freePlace _ (List.mem_of_getElem? (i := 0) rfl)) rfl d_Pool_freePlace_1 ?_
  refine rv_ldc2 (v := (-1)) d_Pool_freePlace_4 (wi_Pool_freePlace _ (List.mem_of_getElem? (i := 1) rfl)) ?_
  refine rv_lxor d_Pool_freePlace_7 ?_
  refine rv_callSN (kc' := 0) (ks' := 0) (kc1 := 0) (ks1 := 0) (As := [.long (S.1 ^^^ (-1))]) (rest := []) (c_Desk_lowest) ok_Desk_lowest (host := "PoolDesk") (List.mem_of_getElem? (i := 8) rfl) (wi_Pool_freePlace _ (List.mem_of_getElem? (i := 2) rfl)) rfl rfl (Nat.le_of_ble_eq_true rfl) (Nat.le_of_ble_eq_true rfl) ⟨Nat.le_of_ble_eq_true rfl, Nat.le_of_ble_eq_true rfl⟩ d_Pool_freePlace_8 (rv_kie ?_)
  refine rv_istore_n (lv' := [(1, .int (nI (bz_low (S.1 ^^^ (-1))))), (0, .ref po)]) d_Pool_freePlace_11 rfl (by decide) rfl ?_
  refine rv_iload_n d_Pool_freePlace_12 rfl 0 rfl ?_
  refine rv_bipush (v := nI 41) d_Pool_freePlace_13 (by decide) ?_
  refine rv_icmp_ge (tgt := 22) d_Pool_freePlace_15 (by decide) (fun c_15 => ?_) (fun c_15 => ?_)
  · have e : cl_free S = -1 := if_neg (fun z => nI_ge z (by decide) c_15)
    refine rv_iconst (v := (-1)) d_Pool_freePlace_22 (by decide) ?_
    exact rv_ireturn ⟨_, rfl, e.symm, rfl⟩ d_Pool_freePlace_23 rfl rfl
  · have e : cl_free S = nI (bz_low (S.1 ^^^ (-1))) := if_pos (Nat.not_le.mp (fun z => c_15 (nI_le z (by omega))))
    refine rv_iload_n d_Pool_freePlace_18 rfl 0 rfl ?_
    refine rv_goto (tgt := 23) d_Pool_freePlace_19 (by decide) ?_
    exact rv_ireturn ⟨_, rfl, e.symm, rfl⟩ d_Pool_freePlace_23 rfl rfl
set_option maxHeartbeats 4000000 in
set_option maxRecDepth 100000 in
theorem c_Pool_family_l {l : Launch} {D : va_G} {ca : Nat → ClassId} {hp : hp_T} {d : Nat} {po : Nat} {L : po_L} {S : po_S} (hS : po_At ca hp po L S) {x : Int64} : ∀ (m i : Nat) (a o : Int64), i + m = 41 → ma_V l D ca ma_T M_Pool_family (d + 2) 0 0 hp (ma_ql (ma_eq (cl_famL S m a o) hp)) 8 [(7, .int (nI i)), (5, .long o), (3, .long a), (0, .ref po), (1, .long x)] [] := by
  obtain ⟨f, hf, hfp⟩ := hS.2.1
  intro m
  induction m with
  | zero =>
    intro i a o hi
    refine rv_iload d_Pool_family_8 0 rfl ?_
    refine rv_bipush (v := nI 41) d_Pool_family_10 (by decide) ?_
    refine rv_icmp_ge (tgt := 78) d_Pool_family_12 (by decide) (fun c_12 => ?_) (fun c_12 => ?_)
    · refine rv_lload_n d_Pool_family_78 rfl 2 rfl ?_
      exact rv_lreturn ⟨_, rfl, rfl, rfl⟩ d_Pool_family_79 rfl
    · exact absurd (nI_le (by omega) (by omega)) c_12
  | succ m ih =>
    intro i a o hi
    have hb := bz_low_le o
    refine rv_iload d_Pool_family_8 0 rfl ?_
    refine rv_bipush (v := nI 41) d_Pool_family_10 (by decide) ?_
    refine rv_icmp_ge (tgt := 78) d_Pool_family_12 (by decide) (fun c_12 => ?_) (fun c_12 => ?_)
    · exact absurd c_12 (nI_ge (by omega) (by omega))
    · refine rv_lload d_Pool_family_15 1 rfl ?_
      refine rv_callSN (kc' := 0) (ks' := 0) (kc1 := 0) (ks1 := 0) (As := [.long o]) (rest := []) (c_Desk_lowest) ok_Desk_lowest (host := "PoolDesk") (List.mem_of_getElem? (i := 8) rfl) (wi_Pool_family _ (List.mem_of_getElem? (i := 0) rfl)) rfl rfl (Nat.le_of_ble_eq_true rfl) (Nat.le_of_ble_eq_true rfl) ⟨Nat.le_of_ble_eq_true rfl, Nat.le_of_ble_eq_true rfl⟩ d_Pool_family_17 (rv_kie ?_)
      refine rv_istore (lv' := [(8, .int (nI (bz_low o))), (7, .int (nI i)), (5, .long o), (3, .long a), (0, .ref po), (1, .long x)]) d_Pool_family_20 (by decide) rfl ?_
      refine rv_iload d_Pool_family_22 0 rfl ?_
      refine rv_bipush (v := nI 41) d_Pool_family_24 (by decide) ?_
      refine rv_icmp_lt (tgt := 32) d_Pool_family_26 (by decide) (fun c_26 => ?_) (fun c_26 => ?_)
      · have hlt : bz_low o < 41 := (nI_ltI (by omega) (by decide)).mp c_26
        have e : cl_famL S (m + 1) a o = cl_famL S m (a ||| ((S.2.2 (bz_low o)).2.2.2.2.2.2.2 &&& (a ^^^ (-1)))) ((o &&& (bz_b (bz_low o) ^^^ (-1))) ||| ((S.2.2 (bz_low o)).2.2.2.2.2.2.2 &&& (a ^^^ (-1)))) := if_neg (Nat.not_le.mpr hlt)
        refine rv_aload_n d_Pool_family_32 rfl 4 rfl ?_
        refine rv_get ka_Pool hS.1 rfl 0 (by decide) (wi_Pool_family _ (List.mem_of_getElem? (i := 1) rfl)) rfl d_Pool_family_33 ?_
        refine rv_iload d_Pool_family_36 0 rfl ?_
        refine rv_aald hf 2 rfl hlt (by decide) d_Pool_family_38 ?_
        refine rv_eqv (y := .ref (L.2.1 (bz_low o))) ((by rw [hfp (bz_low o) hlt]; rfl)) ?_
        refine rv_get ka_Tx (hS.2.2 (bz_low o) hlt).1 rfl 7 (by decide) (wi_Pool_family _ (List.mem_of_getElem? (i := 2) rfl)) rfl d_Pool_family_39 ?_
        refine rv_lload_n d_Pool_family_42 rfl 3 rfl ?_
        refine rv_ldc2 (v := (-1)) d_Pool_family_43 (wi_Pool_family _ (List.mem_of_getElem? (i := 3) rfl)) ?_
        refine rv_lxor d_Pool_family_46 ?_
        refine rv_land d_Pool_family_47 ?_
        refine rv_lstore (lv' := [(9, .long (((S.2.2 (bz_low o)).2.2.2.2.2.2.2) &&& (a ^^^ (-1)))), (8, .int (nI (bz_low o))), (7, .int (nI i)), (5, .long o), (3, .long a), (0, .ref po), (1, .long x)]) d_Pool_family_48 (by decide) rfl ?_
        refine rv_lload_n d_Pool_family_50 rfl 4 rfl ?_
        refine rv_lload d_Pool_family_51 0 rfl ?_
        refine rv_lor d_Pool_family_53 ?_
        refine rv_lstore_n (lv' := [(3, .long (a ||| (((S.2.2 (bz_low o)).2.2.2.2.2.2.2) &&& (a ^^^ (-1))))), (9, .long (((S.2.2 (bz_low o)).2.2.2.2.2.2.2) &&& (a ^^^ (-1)))), (8, .int (nI (bz_low o))), (7, .int (nI i)), (5, .long o), (0, .ref po), (1, .long x)]) d_Pool_family_54 rfl (by decide) rfl ?_
        refine rv_lload d_Pool_family_55 4 rfl ?_
        refine rv_iload d_Pool_family_57 2 rfl ?_
        refine rv_callSN (kc' := 0) (ks' := 0) (kc1 := 0) (ks1 := 0) (As := [.int (nI (bz_low o))]) (rest := [.long o]) (c_Desk_bit) ok_Desk_bit (host := "PoolDesk") (List.mem_of_getElem? (i := 7) rfl) (wi_Pool_family _ (List.mem_of_getElem? (i := 4) rfl)) rfl rfl (Nat.le_of_ble_eq_true rfl) (Nat.le_of_ble_eq_true rfl) ⟨Nat.le_of_ble_eq_true rfl, Nat.le_of_ble_eq_true rfl⟩ d_Pool_family_59 (rv_kle ?_)
        refine rv_ldc2 (v := (-1)) d_Pool_family_62 (wi_Pool_family _ (List.mem_of_getElem? (i := 3) rfl)) ?_
        refine rv_lxor d_Pool_family_65 ?_
        refine rv_land d_Pool_family_66 ?_
        refine rv_lload d_Pool_family_67 1 rfl ?_
        refine rv_lor d_Pool_family_69 ?_
        refine rv_lstore (lv' := [(5, .long ((o &&& ((bz_b (bz_low o)) ^^^ (-1))) ||| (((S.2.2 (bz_low o)).2.2.2.2.2.2.2) &&& (a ^^^ (-1))))), (3, .long (a ||| (((S.2.2 (bz_low o)).2.2.2.2.2.2.2) &&& (a ^^^ (-1))))), (9, .long (((S.2.2 (bz_low o)).2.2.2.2.2.2.2) &&& (a ^^^ (-1)))), (8, .int (nI (bz_low o))), (7, .int (nI i)), (0, .ref po), (1, .long x)]) d_Pool_family_70 (by decide) rfl ?_
        refine rv_iinc (k := 4) (v := nI (i + 1)) (lv' := [(7, .int (nI (i + 1))), (5, .long ((o &&& ((bz_b (bz_low o)) ^^^ (-1))) ||| (((S.2.2 (bz_low o)).2.2.2.2.2.2.2) &&& (a ^^^ (-1))))), (3, .long (a ||| (((S.2.2 (bz_low o)).2.2.2.2.2.2.2) &&& (a ^^^ (-1))))), (9, .long (((S.2.2 (bz_low o)).2.2.2.2.2.2.2) &&& (a ^^^ (-1)))), (8, .int (nI (bz_low o))), (0, .ref po), (1, .long x)]) d_Pool_family_72 rfl (nI_1 _) (by decide) rfl ?_
        refine rv_goto (tgt := 8) d_Pool_family_75 (by decide) ?_
        rw [e]
        exact rv_lv [0, 1, 2, 5, 6] rfl (ih (i + 1) _ _ (by omega))
      · have e : cl_famL S (m + 1) a o = a := if_pos (Nat.not_lt.mp (fun z => c_26 (nI_lt z (by decide))))
        refine rv_goto (tgt := 78) d_Pool_family_29 (by decide) ?_
        refine rv_lload_n d_Pool_family_78 rfl 3 rfl ?_
        exact rv_lreturn ⟨_, rfl, e.symm, rfl⟩ d_Pool_family_79 rfl
set_option maxHeartbeats 4000000 in
set_option maxRecDepth 100000 in
theorem c_Pool_family {l : Launch} {D : va_G} {ca : Nat → ClassId} {hp : hp_T} {d : Nat} {po : Nat} {L : po_L} {S : po_S} (hS : po_At ca hp po L S) {x : Int64} : ma_V l D ca ma_T M_Pool_family (d + 2) 0 0 hp (ma_ql (ma_eq (cl_fam S x) hp)) 0 (lv_args 0 [.ref po, .long x]) [] := by
  change ma_V l D ca ma_T M_Pool_family (d + 2) 0 0 hp (ma_ql (ma_eq (cl_fam S x) hp)) 0 [(0, .ref po), (1, .long x)] []
  refine rv_lload_n d_Pool_family_0 rfl 1 rfl ?_
  refine rv_lstore_n (lv' := [(3, .long x), (0, .ref po), (1, .long x)]) d_Pool_family_1 rfl (by decide) rfl ?_
  refine rv_lload_n d_Pool_family_2 rfl 2 rfl ?_
  refine rv_lstore (lv' := [(5, .long x), (3, .long x), (0, .ref po), (1, .long x)]) d_Pool_family_3 (by decide) rfl ?_
  refine rv_iconst (v := nI 0) d_Pool_family_5 (by decide) ?_
  refine rv_istore (lv' := [(7, .int (nI 0)), (5, .long x), (3, .long x), (0, .ref po), (1, .long x)]) d_Pool_family_6 (by decide) rfl ?_
  exact rv_lv [0, 1, 2, 3, 4] rfl (c_Pool_family_l hS 41 0 x x (Nat.zero_add _))
set_option maxHeartbeats 4000000 in
set_option maxRecDepth 100000 in
theorem c_Pool_paysBetter {l : Launch} {D : va_G} {ca : Nat → ClassId} {hp : hp_T} {d : Nat} {t1 t2 p q : Nat} {L : po_L} {t u : tx_T} (h1 : hp t1 = some (.inr (2, tx_F L p t))) (h2 : hp t2 = some (.inr (2, tx_F L q u))) : ma_V l D ca ma_T M_Pool_paysBetter (d + 2) 0 0 hp (ma_qi (ma_eq (bI (cl_better t u)) hp)) 0 (lv_args 0 [.ref t1, .ref t2]) [] := by
  change ma_V l D ca ma_T M_Pool_paysBetter (d + 2) 0 0 hp (ma_qi (ma_eq (bI (cl_better t u)) hp)) 0 [(0, .ref t1), (1, .ref t2)] []
  refine rv_aload_n d_Pool_paysBetter_0 rfl 0 rfl ?_
  refine rv_get ka_Tx h1 rfl 2 (by decide) (wi_Pool_paysBetter _ (List.mem_of_getElem? (i := 0) rfl)) rfl d_Pool_paysBetter_1 ?_
  refine rv_aload_n d_Pool_paysBetter_4 rfl 0 rfl ?_
  refine rv_get ka_Tx h1 rfl 3 (by decide) (wi_Pool_paysBetter _ (List.mem_of_getElem? (i := 1) rfl)) rfl d_Pool_paysBetter_5 ?_
  refine rv_i2l d_Pool_paysBetter_8 ?_
  refine rv_aload_n d_Pool_paysBetter_9 rfl 1 rfl ?_
  refine rv_get ka_Tx h2 rfl 2 (by decide) (wi_Pool_paysBetter _ (List.mem_of_getElem? (i := 0) rfl)) rfl d_Pool_paysBetter_10 ?_
  refine rv_aload_n d_Pool_paysBetter_13 rfl 1 rfl ?_
  refine rv_get ka_Tx h2 rfl 3 (by decide) (wi_Pool_paysBetter _ (List.mem_of_getElem? (i := 1) rfl)) rfl d_Pool_paysBetter_14 ?_
  refine rv_i2l d_Pool_paysBetter_17 ?_
  refine rv_callSN (kc' := 0) (ks' := 0) (kc1 := 0) (ks1 := 0) (As := [.long t.2.2.1, .long t.2.2.2.1.toInt64, .long u.2.2.1, .long u.2.2.2.1.toInt64]) (rest := []) (c_Desk_compareRates) ok_Desk_compareRates (host := "PoolDesk") (List.mem_of_getElem? (i := 9) rfl) (wi_Pool_paysBetter _ (List.mem_of_getElem? (i := 2) rfl)) rfl rfl (Nat.le_of_ble_eq_true rfl) (Nat.le_of_ble_eq_true rfl) ⟨Nat.le_of_ble_eq_true rfl, Nat.le_of_ble_eq_true rfl⟩ d_Pool_paysBetter_18 (rv_kie ?_)
  refine rv_istore_n (lv' := [(2, .int (cl_cmp t.2.2.1 t.2.2.2.1.toInt64 u.2.2.1 u.2.2.2.1.toInt64)), (0, .ref t1), (1, .ref t2)]) d_Pool_paysBetter_21 rfl (by decide) rfl ?_
  refine rv_iload_n d_Pool_paysBetter_22 rfl 0 rfl ?_
  refine rv_if_gt (tgt := 41) d_Pool_paysBetter_23 (by decide) (fun c_23 => ?_) (fun c_23 => ?_)
  · have e : cl_better t u = true := by simp [cl_better, c_23]
    refine rv_iconst (v := nI 1) d_Pool_paysBetter_41 (by decide) ?_
    refine rv_goto (tgt := 46) d_Pool_paysBetter_42 (by decide) ?_
    refine rv_eqi (y := bI (cl_better t u)) (by rw [e]; rfl) ?_
    exact rv_ireturn ⟨_, rfl, rfl, rfl⟩ d_Pool_paysBetter_46 rfl (bI_nar _)
  · refine rv_iload_n d_Pool_paysBetter_26 rfl 0 rfl ?_
    refine rv_if_ne (tgt := 45) d_Pool_paysBetter_27 (by decide) (fun c_27 => ?_) (fun c_27 => ?_)
    · have e : cl_better t u = false := by simp [cl_better, c_23, c_27]
      refine rv_iconst (v := nI 0) d_Pool_paysBetter_45 (by decide) ?_
      refine rv_eqi (y := bI (cl_better t u)) (by rw [e]; rfl) ?_
      exact rv_ireturn ⟨_, rfl, rfl, rfl⟩ d_Pool_paysBetter_46 rfl (bI_nar _)
    · refine rv_aload_n d_Pool_paysBetter_30 rfl 1 rfl ?_
      refine rv_get ka_Tx h1 rfl 5 (by decide) (wi_Pool_paysBetter _ (List.mem_of_getElem? (i := 3) rfl)) rfl d_Pool_paysBetter_31 ?_
      refine rv_aload_n d_Pool_paysBetter_34 rfl 2 rfl ?_
      refine rv_get ka_Tx h2 rfl 5 (by decide) (wi_Pool_paysBetter _ (List.mem_of_getElem? (i := 3) rfl)) rfl d_Pool_paysBetter_35 ?_
      refine rv_icmp_ge (tgt := 45) d_Pool_paysBetter_38 (by decide) (fun c_38 => ?_) (fun c_38 => ?_)
      · have e : cl_better t u = false := by simp [cl_better, c_23, Int32.not_lt.mpr c_38]
        refine rv_iconst (v := nI 0) d_Pool_paysBetter_45 (by decide) ?_
        refine rv_eqi (y := bI (cl_better t u)) (by rw [e]; rfl) ?_
        exact rv_ireturn ⟨_, rfl, rfl, rfl⟩ d_Pool_paysBetter_46 rfl (bI_nar _)
      · have e : cl_better t u = true := by simp [cl_better, c_27, Int32.not_le.mp c_38]
        refine rv_iconst (v := nI 1) d_Pool_paysBetter_41 (by decide) ?_
        refine rv_goto (tgt := 46) d_Pool_paysBetter_42 (by decide) ?_
        refine rv_eqi (y := bI (cl_better t u)) (by rw [e]; rfl) ?_
        exact rv_ireturn ⟨_, rfl, rfl, rfl⟩ d_Pool_paysBetter_46 rfl (bI_nar _)
set_option maxHeartbeats 4000000 in
set_option maxRecDepth 100000 in
theorem c_Pool_bestPaying_l {l : Launch} {D : va_G} {ca : Nat → ClassId} {hp : hp_T} {d : Nat} {po : Nat} {L : po_L} {S : po_S} (hS : po_At ca hp po L S) {dn : Int64} {rm : Int32} : ∀ (m i : Nat) (acc : Option Nat), (∀ b, acc = some b → b < 41) → i + m = 41 → ma_V l D ca ma_T M_Pool_bestPaying (d + 3) 0 0 hp (ma_qi (ma_eq (ob_i (lp_fold (cl_bestF S dn rm) m i acc)) hp)) 6 [(5, .int (nI i)), (4, .int (ob_i acc)), (0, .ref po), (1, .long dn), (3, .int rm)] [] := by
  obtain ⟨f, hf, hfp⟩ := hS.2.1
  intro m
  induction m with
  | zero =>
    intro i acc hacc hi
    refine rv_iload d_Pool_bestPaying_6 0 rfl ?_
    refine rv_bipush (v := nI 41) d_Pool_bestPaying_8 (by decide) ?_
    refine rv_icmp_ge (tgt := 111) d_Pool_bestPaying_10 (by decide) (fun c_10 => ?_) (fun c_10 => ?_)
    · refine rv_iload d_Pool_bestPaying_111 1 rfl ?_
      exact rv_ireturn ⟨_, rfl, rfl, rfl⟩ d_Pool_bestPaying_113 rfl rfl
    · exact absurd (nI_le (by omega) (by omega)) c_10
  | succ m ih =>
    intro i acc hacc hi
    cases acc with
    | none =>
      change ma_V l D ca ma_T M_Pool_bestPaying (d + 3) 0 0 hp (ma_qi (ma_eq (ob_i (lp_fold (cl_bestF S dn rm) (m + 1) i (none))) hp)) 6 [(5, .int (nI i)), (4, .int (-1)), (0, .ref po), (1, .long dn), (3, .int rm)] []
      refine rv_iload d_Pool_bestPaying_6 0 rfl ?_
      refine rv_bipush (v := nI 41) d_Pool_bestPaying_8 (by decide) ?_
      refine rv_icmp_ge (tgt := 111) d_Pool_bestPaying_10 (by decide) (fun c_10 => ?_) (fun c_10 => ?_)
      · exact absurd c_10 (nI_ge (by omega) (by omega))
      · refine rv_aload_n d_Pool_bestPaying_13 rfl 2 rfl ?_
        refine rv_get ka_Pool hS.1 rfl 1 (by decide) (wi_Pool_bestPaying _ (List.mem_of_getElem? (i := 0) rfl)) rfl d_Pool_bestPaying_14 ?_
        refine rv_lload_n d_Pool_bestPaying_17 rfl 3 rfl ?_
        refine rv_ldc2 (v := (-1)) d_Pool_bestPaying_18 (wi_Pool_bestPaying _ (List.mem_of_getElem? (i := 1) rfl)) ?_
        refine rv_lxor d_Pool_bestPaying_21 ?_
        refine rv_land d_Pool_bestPaying_22 ?_
        refine rv_iload d_Pool_bestPaying_23 0 rfl ?_
        refine rv_callSN (kc' := 0) (ks' := 0) (kc1 := 0) (ks1 := 0) (As := [.long (S.1 &&& (dn ^^^ (-1))), .int (nI i)]) (rest := []) (c_Desk_has (by omega)) ok_Desk_has (host := "PoolDesk") (List.mem_of_getElem? (i := 6) rfl) (wi_Pool_bestPaying _ (List.mem_of_getElem? (i := 2) rfl)) rfl rfl (Nat.le_of_ble_eq_true rfl) (Nat.le_of_ble_eq_true rfl) ⟨Nat.le_of_ble_eq_true rfl, Nat.le_of_ble_eq_true rfl⟩ d_Pool_bestPaying_25 (rv_kie ?_)
        refine rv_if_ne (tgt := 34) d_Pool_bestPaying_28 (by decide) (fun c_28 => ?_) (fun c_28 => ?_)
        · have q0 := bI_n.mp c_28
          refine rv_aload_n d_Pool_bestPaying_34 rfl 2 rfl ?_
          refine rv_get ka_Pool hS.1 rfl 0 (by decide) (wi_Pool_bestPaying _ (List.mem_of_getElem? (i := 3) rfl)) rfl d_Pool_bestPaying_35 ?_
          refine rv_iload d_Pool_bestPaying_38 0 rfl ?_
          refine rv_aald hf 2 rfl (by omega) (by decide) d_Pool_bestPaying_40 ?_
          refine rv_eqv (y := .ref (L.2.1 i)) ((by rw [hfp i (by omega)]; rfl)) ?_
          refine rv_astore (lv' := [(6, .ref (L.2.1 i)), (5, .int (nI i)), (4, .int (-1)), (0, .ref po), (1, .long dn), (3, .int rm)]) d_Pool_bestPaying_41 (by decide) rfl ?_
          refine rv_aload d_Pool_bestPaying_43 0 rfl ?_
          refine rv_get ka_Tx (hS.2.2 i (by omega)).1 rfl 6 (by decide) (wi_Pool_bestPaying _ (List.mem_of_getElem? (i := 4) rfl)) rfl d_Pool_bestPaying_45 ?_
          refine rv_lload_n d_Pool_bestPaying_48 rfl 4 rfl ?_
          refine rv_ldc2 (v := (-1)) d_Pool_bestPaying_49 (wi_Pool_bestPaying _ (List.mem_of_getElem? (i := 1) rfl)) ?_
          refine rv_lxor d_Pool_bestPaying_52 ?_
          refine rv_land d_Pool_bestPaying_53 ?_
          refine rv_lconst (v := 0) d_Pool_bestPaying_54 (by decide) ?_
          refine rv_lcmp d_Pool_bestPaying_55 ?_
          refine rv_if_ne (tgt := 72) d_Pool_bestPaying_56 (by decide) (fun c_56 => ?_) (fun c_56 => ?_)
          · have e : cl_bestF S dn rm i (none) = none := if_neg (by show ¬ (_ && (_ && (_ && _))) = true; rw [decide_eq_false (fun z => c_56 (lc_0.mpr z)), Bool.false_and, Bool.and_false]; exact Bool.false_ne_true)
            refine rv_iconst (v := nI 0) d_Pool_bestPaying_72 (by decide) ?_
            refine rv_istore (lv' := [(7, .int (nI 0)), (6, .ref (L.2.1 i)), (5, .int (nI i)), (4, .int (-1)), (0, .ref po), (1, .long dn), (3, .int rm)]) d_Pool_bestPaying_73 (by decide) rfl ?_
            refine rv_iload d_Pool_bestPaying_75 0 rfl ?_
            refine rv_if_eq (tgt := 105) d_Pool_bestPaying_77 (by decide) (fun c_77 => ?_) (fun c_77 => ?_)
            · refine rv_iinc (k := 2) (v := nI (i + 1)) (lv' := [(5, .int (nI (i + 1))), (7, .int (nI 0)), (6, .ref (L.2.1 i)), (4, .int (-1)), (0, .ref po), (1, .long dn), (3, .int rm)]) d_Pool_bestPaying_105 rfl (nI_1 _) (by decide) rfl ?_
              refine rv_goto (tgt := 6) d_Pool_bestPaying_108 (by decide) ?_
              refine rv_post (Q' := ma_qi (ma_eq (ob_i (lp_fold (cl_bestF S dn rm) m (i + 1) (none))) hp)) (fun _ _ h => ?_) (rv_lv [0, 3, 4, 5, 6] rfl (ih (i + 1) (none) (fun b0 h0 => by cases h0) (by omega)))
              rw [← e] at h
              exact h
            · exact absurd (by decide) c_77
          · have q1 := lc_0.mp c_56
            refine rv_aload d_Pool_bestPaying_59 0 rfl ?_
            refine rv_get ka_Tx (hS.2.2 i (by omega)).1 rfl 3 (by decide) (wi_Pool_bestPaying _ (List.mem_of_getElem? (i := 5) rfl)) rfl d_Pool_bestPaying_61 ?_
            refine rv_iload_n d_Pool_bestPaying_64 rfl 5 rfl ?_
            refine rv_icmp_gt (tgt := 72) d_Pool_bestPaying_65 (by decide) (fun c_65 => ?_) (fun c_65 => ?_)
            · have e : cl_bestF S dn rm i (none) = none := if_neg (by show ¬ (_ && (_ && (_ && _))) = true; rw [decide_eq_false (Int32.not_le.mpr c_65), Bool.false_and, Bool.and_false, Bool.and_false]; exact Bool.false_ne_true)
              refine rv_iconst (v := nI 0) d_Pool_bestPaying_72 (by decide) ?_
              refine rv_istore (lv' := [(7, .int (nI 0)), (6, .ref (L.2.1 i)), (5, .int (nI i)), (4, .int (-1)), (0, .ref po), (1, .long dn), (3, .int rm)]) d_Pool_bestPaying_73 (by decide) rfl ?_
              refine rv_iload d_Pool_bestPaying_75 0 rfl ?_
              refine rv_if_eq (tgt := 105) d_Pool_bestPaying_77 (by decide) (fun c_77 => ?_) (fun c_77 => ?_)
              · refine rv_iinc (k := 2) (v := nI (i + 1)) (lv' := [(5, .int (nI (i + 1))), (7, .int (nI 0)), (6, .ref (L.2.1 i)), (4, .int (-1)), (0, .ref po), (1, .long dn), (3, .int rm)]) d_Pool_bestPaying_105 rfl (nI_1 _) (by decide) rfl ?_
                refine rv_goto (tgt := 6) d_Pool_bestPaying_108 (by decide) ?_
                refine rv_post (Q' := ma_qi (ma_eq (ob_i (lp_fold (cl_bestF S dn rm) m (i + 1) (none))) hp)) (fun _ _ h => ?_) (rv_lv [0, 3, 4, 5, 6] rfl (ih (i + 1) (none) (fun b0 h0 => by cases h0) (by omega)))
                rw [← e] at h
                exact h
              · exact absurd (by decide) c_77
            · have q2 := Int32.not_lt.mp c_65
              refine rv_iconst (v := nI 1) d_Pool_bestPaying_68 (by decide) ?_
              refine rv_goto (tgt := 73) d_Pool_bestPaying_69 (by decide) ?_
              refine rv_istore (lv' := [(7, .int (nI 1)), (6, .ref (L.2.1 i)), (5, .int (nI i)), (4, .int (-1)), (0, .ref po), (1, .long dn), (3, .int rm)]) d_Pool_bestPaying_73 (by decide) rfl ?_
              refine rv_iload d_Pool_bestPaying_75 0 rfl ?_
              refine rv_if_eq (tgt := 105) d_Pool_bestPaying_77 (by decide) (fun c_77 => ?_) (fun c_77 => ?_)
              · exact absurd c_77 (by decide)
              · refine rv_iload d_Pool_bestPaying_80 3 rfl ?_
                refine rv_iconst (v := (-1)) d_Pool_bestPaying_82 (by decide) ?_
                refine rv_icmp_eq (tgt := 101) d_Pool_bestPaying_83 (by decide) (fun c_83 => ?_) (fun c_83 => ?_)
                · have e : cl_bestF S dn rm i (none) = some i := if_pos (by show (_ && (_ && (_ && _))) = true; rw [q0, decide_eq_true q1, decide_eq_true q2]; rfl)
                  refine rv_iload d_Pool_bestPaying_101 2 rfl ?_
                  refine rv_istore (lv' := [(4, .int (nI i)), (7, .int (nI 1)), (6, .ref (L.2.1 i)), (5, .int (nI i)), (0, .ref po), (1, .long dn), (3, .int rm)]) d_Pool_bestPaying_103 (by decide) rfl ?_
                  refine rv_iinc (k := 3) (v := nI (i + 1)) (lv' := [(5, .int (nI (i + 1))), (4, .int (nI i)), (7, .int (nI 1)), (6, .ref (L.2.1 i)), (0, .ref po), (1, .long dn), (3, .int rm)]) d_Pool_bestPaying_105 rfl (nI_1 _) (by decide) rfl ?_
                  refine rv_goto (tgt := 6) d_Pool_bestPaying_108 (by decide) ?_
                  refine rv_post (Q' := ma_qi (ma_eq (ob_i (lp_fold (cl_bestF S dn rm) m (i + 1) (some i))) hp)) (fun _ _ h => ?_) (rv_lv [0, 1, 4, 5, 6] rfl (ih (i + 1) (some i) (fun b0 h0 => by cases h0; omega) (by omega)))
                  rw [← e] at h
                  exact h
                · exact absurd rfl c_83
        · have e : cl_bestF S dn rm i (none) = none := if_neg (by show ¬ (_ && (_ && (_ && _))) = true; rw [bI_0.mp c_28, Bool.false_and]; exact Bool.false_ne_true)
          refine rv_goto (tgt := 105) d_Pool_bestPaying_31 (by decide) ?_
          refine rv_iinc (k := 0) (v := nI (i + 1)) (lv' := [(5, .int (nI (i + 1))), (4, .int (-1)), (0, .ref po), (1, .long dn), (3, .int rm)]) d_Pool_bestPaying_105 rfl (nI_1 _) (by decide) rfl ?_
          refine rv_goto (tgt := 6) d_Pool_bestPaying_108 (by decide) ?_
          refine rv_post (Q' := ma_qi (ma_eq (ob_i (lp_fold (cl_bestF S dn rm) m (i + 1) (none))) hp)) (fun _ _ h => ?_) (rv_lv [0, 1, 2, 3, 4] rfl (ih (i + 1) (none) (fun b0 h0 => by cases h0) (by omega)))
          rw [← e] at h
          exact h
    | some b =>
      have hb : b < 41 := hacc b rfl
      change ma_V l D ca ma_T M_Pool_bestPaying (d + 3) 0 0 hp (ma_qi (ma_eq (ob_i (lp_fold (cl_bestF S dn rm) (m + 1) i (some b))) hp)) 6 [(5, .int (nI i)), (4, .int (nI b)), (0, .ref po), (1, .long dn), (3, .int rm)] []
      refine rv_iload d_Pool_bestPaying_6 0 rfl ?_
      refine rv_bipush (v := nI 41) d_Pool_bestPaying_8 (by decide) ?_
      refine rv_icmp_ge (tgt := 111) d_Pool_bestPaying_10 (by decide) (fun c_10 => ?_) (fun c_10 => ?_)
      · exact absurd c_10 (nI_ge (by omega) (by omega))
      · refine rv_aload_n d_Pool_bestPaying_13 rfl 2 rfl ?_
        refine rv_get ka_Pool hS.1 rfl 1 (by decide) (wi_Pool_bestPaying _ (List.mem_of_getElem? (i := 0) rfl)) rfl d_Pool_bestPaying_14 ?_
        refine rv_lload_n d_Pool_bestPaying_17 rfl 3 rfl ?_
        refine rv_ldc2 (v := (-1)) d_Pool_bestPaying_18 (wi_Pool_bestPaying _ (List.mem_of_getElem? (i := 1) rfl)) ?_
        refine rv_lxor d_Pool_bestPaying_21 ?_
        refine rv_land d_Pool_bestPaying_22 ?_
        refine rv_iload d_Pool_bestPaying_23 0 rfl ?_
        refine rv_callSN (kc' := 0) (ks' := 0) (kc1 := 0) (ks1 := 0) (As := [.long (S.1 &&& (dn ^^^ (-1))), .int (nI i)]) (rest := []) (c_Desk_has (by omega)) ok_Desk_has (host := "PoolDesk") (List.mem_of_getElem? (i := 6) rfl) (wi_Pool_bestPaying _ (List.mem_of_getElem? (i := 2) rfl)) rfl rfl (Nat.le_of_ble_eq_true rfl) (Nat.le_of_ble_eq_true rfl) ⟨Nat.le_of_ble_eq_true rfl, Nat.le_of_ble_eq_true rfl⟩ d_Pool_bestPaying_25 (rv_kie ?_)
        refine rv_if_ne (tgt := 34) d_Pool_bestPaying_28 (by decide) (fun c_28 => ?_) (fun c_28 => ?_)
        · have q0 := bI_n.mp c_28
          refine rv_aload_n d_Pool_bestPaying_34 rfl 2 rfl ?_
          refine rv_get ka_Pool hS.1 rfl 0 (by decide) (wi_Pool_bestPaying _ (List.mem_of_getElem? (i := 3) rfl)) rfl d_Pool_bestPaying_35 ?_
          refine rv_iload d_Pool_bestPaying_38 0 rfl ?_
          refine rv_aald hf 2 rfl (by omega) (by decide) d_Pool_bestPaying_40 ?_
          refine rv_eqv (y := .ref (L.2.1 i)) ((by rw [hfp i (by omega)]; rfl)) ?_
          refine rv_astore (lv' := [(6, .ref (L.2.1 i)), (5, .int (nI i)), (4, .int (nI b)), (0, .ref po), (1, .long dn), (3, .int rm)]) d_Pool_bestPaying_41 (by decide) rfl ?_
          refine rv_aload d_Pool_bestPaying_43 0 rfl ?_
          refine rv_get ka_Tx (hS.2.2 i (by omega)).1 rfl 6 (by decide) (wi_Pool_bestPaying _ (List.mem_of_getElem? (i := 4) rfl)) rfl d_Pool_bestPaying_45 ?_
          refine rv_lload_n d_Pool_bestPaying_48 rfl 4 rfl ?_
          refine rv_ldc2 (v := (-1)) d_Pool_bestPaying_49 (wi_Pool_bestPaying _ (List.mem_of_getElem? (i := 1) rfl)) ?_
          refine rv_lxor d_Pool_bestPaying_52 ?_
          refine rv_land d_Pool_bestPaying_53 ?_
          refine rv_lconst (v := 0) d_Pool_bestPaying_54 (by decide) ?_
          refine rv_lcmp d_Pool_bestPaying_55 ?_
          refine rv_if_ne (tgt := 72) d_Pool_bestPaying_56 (by decide) (fun c_56 => ?_) (fun c_56 => ?_)
          · have e : cl_bestF S dn rm i (some b) = some b := if_neg (by show ¬ (_ && (_ && (_ && _))) = true; rw [decide_eq_false (fun z => c_56 (lc_0.mpr z)), Bool.false_and, Bool.and_false]; exact Bool.false_ne_true)
            refine rv_iconst (v := nI 0) d_Pool_bestPaying_72 (by decide) ?_
            refine rv_istore (lv' := [(7, .int (nI 0)), (6, .ref (L.2.1 i)), (5, .int (nI i)), (4, .int (nI b)), (0, .ref po), (1, .long dn), (3, .int rm)]) d_Pool_bestPaying_73 (by decide) rfl ?_
            refine rv_iload d_Pool_bestPaying_75 0 rfl ?_
            refine rv_if_eq (tgt := 105) d_Pool_bestPaying_77 (by decide) (fun c_77 => ?_) (fun c_77 => ?_)
            · refine rv_iinc (k := 2) (v := nI (i + 1)) (lv' := [(5, .int (nI (i + 1))), (7, .int (nI 0)), (6, .ref (L.2.1 i)), (4, .int (nI b)), (0, .ref po), (1, .long dn), (3, .int rm)]) d_Pool_bestPaying_105 rfl (nI_1 _) (by decide) rfl ?_
              refine rv_goto (tgt := 6) d_Pool_bestPaying_108 (by decide) ?_
              refine rv_post (Q' := ma_qi (ma_eq (ob_i (lp_fold (cl_bestF S dn rm) m (i + 1) (some b))) hp)) (fun _ _ h => ?_) (rv_lv [0, 3, 4, 5, 6] rfl (ih (i + 1) (some b) (fun b0 h0 => by cases h0; exact hb) (by omega)))
              rw [← e] at h
              exact h
            · exact absurd (by decide) c_77
          · have q1 := lc_0.mp c_56
            refine rv_aload d_Pool_bestPaying_59 0 rfl ?_
            refine rv_get ka_Tx (hS.2.2 i (by omega)).1 rfl 3 (by decide) (wi_Pool_bestPaying _ (List.mem_of_getElem? (i := 5) rfl)) rfl d_Pool_bestPaying_61 ?_
            refine rv_iload_n d_Pool_bestPaying_64 rfl 5 rfl ?_
            refine rv_icmp_gt (tgt := 72) d_Pool_bestPaying_65 (by decide) (fun c_65 => ?_) (fun c_65 => ?_)
            · have e : cl_bestF S dn rm i (some b) = some b := if_neg (by show ¬ (_ && (_ && (_ && _))) = true; rw [decide_eq_false (Int32.not_le.mpr c_65), Bool.false_and, Bool.and_false, Bool.and_false]; exact Bool.false_ne_true)
              refine rv_iconst (v := nI 0) d_Pool_bestPaying_72 (by decide) ?_
              refine rv_istore (lv' := [(7, .int (nI 0)), (6, .ref (L.2.1 i)), (5, .int (nI i)), (4, .int (nI b)), (0, .ref po), (1, .long dn), (3, .int rm)]) d_Pool_bestPaying_73 (by decide) rfl ?_
              refine rv_iload d_Pool_bestPaying_75 0 rfl ?_
              refine rv_if_eq (tgt := 105) d_Pool_bestPaying_77 (by decide) (fun c_77 => ?_) (fun c_77 => ?_)
              · refine rv_iinc (k := 2) (v := nI (i + 1)) (lv' := [(5, .int (nI (i + 1))), (7, .int (nI 0)), (6, .ref (L.2.1 i)), (4, .int (nI b)), (0, .ref po), (1, .long dn), (3, .int rm)]) d_Pool_bestPaying_105 rfl (nI_1 _) (by decide) rfl ?_
                refine rv_goto (tgt := 6) d_Pool_bestPaying_108 (by decide) ?_
                refine rv_post (Q' := ma_qi (ma_eq (ob_i (lp_fold (cl_bestF S dn rm) m (i + 1) (some b))) hp)) (fun _ _ h => ?_) (rv_lv [0, 3, 4, 5, 6] rfl (ih (i + 1) (some b) (fun b0 h0 => by cases h0; exact hb) (by omega)))
                rw [← e] at h
                exact h
              · exact absurd (by decide) c_77
            · have q2 := Int32.not_lt.mp c_65
              refine rv_iconst (v := nI 1) d_Pool_bestPaying_68 (by decide) ?_
              refine rv_goto (tgt := 73) d_Pool_bestPaying_69 (by decide) ?_
              refine rv_istore (lv' := [(7, .int (nI 1)), (6, .ref (L.2.1 i)), (5, .int (nI i)), (4, .int (nI b)), (0, .ref po), (1, .long dn), (3, .int rm)]) d_Pool_bestPaying_73 (by decide) rfl ?_
              refine rv_iload d_Pool_bestPaying_75 0 rfl ?_
              refine rv_if_eq (tgt := 105) d_Pool_bestPaying_77 (by decide) (fun c_77 => ?_) (fun c_77 => ?_)
              · exact absurd c_77 (by decide)
              · refine rv_iload d_Pool_bestPaying_80 3 rfl ?_
                refine rv_iconst (v := (-1)) d_Pool_bestPaying_82 (by decide) ?_
                refine rv_icmp_eq (tgt := 101) d_Pool_bestPaying_83 (by decide) (fun c_83 => ?_) (fun c_83 => ?_)
                · exact absurd c_83 (nI_m1 (by omega))
                · refine rv_aload d_Pool_bestPaying_86 1 rfl ?_
                  refine rv_aload_n d_Pool_bestPaying_88 rfl 4 rfl ?_
                  refine rv_get ka_Pool hS.1 rfl 0 (by decide) (wi_Pool_bestPaying _ (List.mem_of_getElem? (i := 3) rfl)) rfl d_Pool_bestPaying_89 ?_
                  refine rv_iload d_Pool_bestPaying_92 3 rfl ?_
                  refine rv_aald hf 2 rfl (by omega) (by decide) d_Pool_bestPaying_94 ?_
                  refine rv_eqv (y := .ref (L.2.1 b)) ((by rw [hfp b (by omega)]; rfl)) ?_
                  refine rv_callS (kc' := 0) (ks' := 0) (kc1 := 0) (ks1 := 0) (As := [.ref (L.2.1 i), .ref (L.2.1 b)]) (rest := []) (c_Pool_paysBetter (hS.2.2 i (by omega)).1 (hS.2.2 b hb).1) ok_Pool_paysBetter (wi_Pool_bestPaying _ (List.mem_of_getElem? (i := 6) rfl)) (wi_Pool_bestPaying _ (List.mem_of_getElem? (i := 7) rfl)) rfl rfl (Nat.le_of_ble_eq_true rfl) (Nat.le_of_ble_eq_true rfl) ⟨Nat.le_of_ble_eq_true rfl, Nat.le_of_ble_eq_true rfl⟩ d_Pool_bestPaying_95 (rv_kie ?_)
                  refine rv_if_eq (tgt := 105) d_Pool_bestPaying_98 (by decide) (fun c_98 => ?_) (fun c_98 => ?_)
                  · have e : cl_bestF S dn rm i (some b) = some b := if_neg (by show ¬ (_ && (_ && (_ && _))) = true; rw [show cl_ob (fun b => cl_better (S.2.2 i) (S.2.2 b)) (some b) = false from bI_0.mp c_98, Bool.and_false, Bool.and_false, Bool.and_false]; exact Bool.false_ne_true)
                    refine rv_iinc (k := 2) (v := nI (i + 1)) (lv' := [(5, .int (nI (i + 1))), (7, .int (nI 1)), (6, .ref (L.2.1 i)), (4, .int (nI b)), (0, .ref po), (1, .long dn), (3, .int rm)]) d_Pool_bestPaying_105 rfl (nI_1 _) (by decide) rfl ?_
                    refine rv_goto (tgt := 6) d_Pool_bestPaying_108 (by decide) ?_
                    refine rv_post (Q' := ma_qi (ma_eq (ob_i (lp_fold (cl_bestF S dn rm) m (i + 1) (some b))) hp)) (fun _ _ h => ?_) (rv_lv [0, 3, 4, 5, 6] rfl (ih (i + 1) (some b) (fun b0 h0 => by cases h0; exact hb) (by omega)))
                    rw [← e] at h
                    exact h
                  · have e : cl_bestF S dn rm i (some b) = some i := if_pos (by show (_ && (_ && (_ && _))) = true; rw [q0, decide_eq_true q1, decide_eq_true q2, show cl_ob (fun b => cl_better (S.2.2 i) (S.2.2 b)) (some b) = true from bI_n.mp c_98]; rfl)
                    refine rv_iload d_Pool_bestPaying_101 2 rfl ?_
                    refine rv_istore (lv' := [(4, .int (nI i)), (7, .int (nI 1)), (6, .ref (L.2.1 i)), (5, .int (nI i)), (0, .ref po), (1, .long dn), (3, .int rm)]) d_Pool_bestPaying_103 (by decide) rfl ?_
                    refine rv_iinc (k := 3) (v := nI (i + 1)) (lv' := [(5, .int (nI (i + 1))), (4, .int (nI i)), (7, .int (nI 1)), (6, .ref (L.2.1 i)), (0, .ref po), (1, .long dn), (3, .int rm)]) d_Pool_bestPaying_105 rfl (nI_1 _) (by decide) rfl ?_
                    refine rv_goto (tgt := 6) d_Pool_bestPaying_108 (by decide) ?_
                    refine rv_post (Q' := ma_qi (ma_eq (ob_i (lp_fold (cl_bestF S dn rm) m (i + 1) (some i))) hp)) (fun _ _ h => ?_) (rv_lv [0, 1, 4, 5, 6] rfl (ih (i + 1) (some i) (fun b0 h0 => by cases h0; omega) (by omega)))
                    rw [← e] at h
                    exact h
        · have e : cl_bestF S dn rm i (some b) = some b := if_neg (by show ¬ (_ && (_ && (_ && _))) = true; rw [bI_0.mp c_28, Bool.false_and]; exact Bool.false_ne_true)
          refine rv_goto (tgt := 105) d_Pool_bestPaying_31 (by decide) ?_
          refine rv_iinc (k := 0) (v := nI (i + 1)) (lv' := [(5, .int (nI (i + 1))), (4, .int (nI b)), (0, .ref po), (1, .long dn), (3, .int rm)]) d_Pool_bestPaying_105 rfl (nI_1 _) (by decide) rfl ?_
          refine rv_goto (tgt := 6) d_Pool_bestPaying_108 (by decide) ?_
          refine rv_post (Q' := ma_qi (ma_eq (ob_i (lp_fold (cl_bestF S dn rm) m (i + 1) (some b))) hp)) (fun _ _ h => ?_) (rv_lv [0, 1, 2, 3, 4] rfl (ih (i + 1) (some b) (fun b0 h0 => by cases h0; exact hb) (by omega)))
          rw [← e] at h
          exact h
set_option maxHeartbeats 4000000 in
set_option maxRecDepth 100000 in
theorem c_Pool_bestPaying {l : Launch} {D : va_G} {ca : Nat → ClassId} {hp : hp_T} {d : Nat} {po : Nat} {L : po_L} {S : po_S} (hS : po_At ca hp po L S) {dn : Int64} {rm : Int32} : ma_V l D ca ma_T M_Pool_bestPaying (d + 3) 0 0 hp (ma_qi (ma_eq (ob_i (cl_best S dn rm)) hp)) 0 (lv_args 0 [.ref po, .long dn, .int rm]) [] := by
  change ma_V l D ca ma_T M_Pool_bestPaying (d + 3) 0 0 hp (ma_qi (ma_eq (ob_i (cl_best S dn rm)) hp)) 0 [(0, .ref po), (1, .long dn), (3, .int rm)] []
  refine rv_iconst (v := (-1)) d_Pool_bestPaying_0 (by decide) ?_
  refine rv_istore (lv' := [(4, .int (-1)), (0, .ref po), (1, .long dn), (3, .int rm)]) d_Pool_bestPaying_1 (by decide) rfl ?_
  refine rv_iconst (v := nI 0) d_Pool_bestPaying_3 (by decide) ?_
  refine rv_istore (lv' := [(5, .int (nI 0)), (4, .int (-1)), (0, .ref po), (1, .long dn), (3, .int rm)]) d_Pool_bestPaying_4 (by decide) rfl ?_
  exact c_Pool_bestPaying_l hS 41 0 none (fun b h => by cases h) (Nat.zero_add _)
def ll_c (S : po_S) (o : Option Nat) : Int32 := match o with
  | none => nI 0
  | some b => (S.2.2 b).2.2.2.2.2.1
def ll_f (S : po_S) (o : Option Nat) : Int64 := match o with
  | none => 0
  | some b => cl_ff S b
def ll_s (S : po_S) (o : Option Nat) : Int32 := match o with
  | none => nI 0
  | some b => cl_fs S b
set_option maxHeartbeats 4000000 in
set_option maxRecDepth 100000 in
theorem c_Pool_leastPaying_l {l : Launch} {D : va_G} {ca : Nat → ClassId} {hp : hp_T} {d : Nat} {po : Nat} {L : po_L} {S : po_S} (hS : po_At ca hp po L S) : ∀ (m i : Nat) (acc : Option Nat), (∀ b, acc = some b → b < 41) → i + m = 41 → ma_V l D ca ma_T M_Pool_leastPaying (d + 4) 0 0 hp (ma_qi (ma_eq (ob_i (lp_fold (cl_leastF S) m i acc)) hp)) 12 [(6, .int (nI i)), (5, .int (ll_s S acc)), (3, .long (ll_f S acc)), (2, .int (ll_c S acc)), (1, .int (ob_i acc)), (0, .ref po)] [] := by
  obtain ⟨f, hf, hfp⟩ := hS.2.1
  intro m
  induction m with
  | zero =>
    intro i acc hacc hi
    refine rv_iload d_Pool_leastPaying_12 0 rfl ?_
    refine rv_bipush (v := nI 41) d_Pool_leastPaying_14 (by decide) ?_
    refine rv_icmp_ge (tgt := 131) d_Pool_leastPaying_16 (by decide) (fun c_16 => ?_) (fun c_16 => ?_)
    · refine rv_iload_n d_Pool_leastPaying_131 rfl 4 rfl ?_
      exact rv_ireturn ⟨_, rfl, rfl, rfl⟩ d_Pool_leastPaying_132 rfl rfl
    · exact absurd (nI_le (by omega) (by omega)) c_16
  | succ m ih =>
    intro i acc hacc hi
    cases acc with
    | none =>
      change ma_V l D ca ma_T M_Pool_leastPaying (d + 4) 0 0 hp (ma_qi (ma_eq (ob_i (lp_fold (cl_leastF S) (m + 1) i (none))) hp)) 12 [(6, .int (nI i)), (5, .int (nI 0)), (3, .long 0), (2, .int (nI 0)), (1, .int (-1)), (0, .ref po)] []
      refine rv_iload d_Pool_leastPaying_12 0 rfl ?_
      refine rv_bipush (v := nI 41) d_Pool_leastPaying_14 (by decide) ?_
      refine rv_icmp_ge (tgt := 131) d_Pool_leastPaying_16 (by decide) (fun c_16 => ?_) (fun c_16 => ?_)
      · exact absurd c_16 (nI_ge (by omega) (by omega))
      · refine rv_aload_n d_Pool_leastPaying_19 rfl 5 rfl ?_
        refine rv_get ka_Pool hS.1 rfl 1 (by decide) (wi_Pool_leastPaying _ (List.mem_of_getElem? (i := 0) rfl)) rfl d_Pool_leastPaying_20 ?_
        refine rv_iload d_Pool_leastPaying_23 0 rfl ?_
        refine rv_callSN (kc' := 0) (ks' := 0) (kc1 := 0) (ks1 := 0) (As := [.long S.1, .int (nI i)]) (rest := []) (c_Desk_has (by omega)) ok_Desk_has (host := "PoolDesk") (List.mem_of_getElem? (i := 6) rfl) (wi_Pool_leastPaying _ (List.mem_of_getElem? (i := 1) rfl)) rfl rfl (Nat.le_of_ble_eq_true rfl) (Nat.le_of_ble_eq_true rfl) ⟨Nat.le_of_ble_eq_true rfl, Nat.le_of_ble_eq_true rfl⟩ d_Pool_leastPaying_25 (rv_kie ?_)
        refine rv_if_ne (tgt := 34) d_Pool_leastPaying_28 (by decide) (fun c_28 => ?_) (fun c_28 => ?_)
        · have q0 := bI_n.mp c_28
          refine rv_aload_n d_Pool_leastPaying_34 rfl 5 rfl ?_
          refine rv_iload d_Pool_leastPaying_35 0 rfl ?_
          refine rv_callSN (kc' := 0) (ks' := 0) (kc1 := 0) (ks1 := 0) (As := [.int (nI i)]) (rest := [.ref po]) (c_Desk_bit) ok_Desk_bit (host := "PoolDesk") (List.mem_of_getElem? (i := 7) rfl) (wi_Pool_leastPaying _ (List.mem_of_getElem? (i := 2) rfl)) rfl rfl (Nat.le_of_ble_eq_true rfl) (Nat.le_of_ble_eq_true rfl) ⟨Nat.le_of_ble_eq_true rfl, Nat.le_of_ble_eq_true rfl⟩ d_Pool_leastPaying_37 (rv_kle ?_)
          refine rv_callV (kc' := 0) (ks' := 0) (kc1 := 0) (ks1 := 0) (As := [.long (bz_b i)]) (rest := []) hS.1 rfl (c_Pool_family hS) ok_Pool_family (wi_Pool_leastPaying _ (List.mem_of_getElem? (i := 3) rfl)) (wi_Pool_leastPaying _ (List.mem_of_getElem? (i := 4) rfl)) (wi_Pool_leastPaying _ (List.mem_of_getElem? (i := 5) rfl)) rfl rfl (Nat.le_of_ble_eq_true rfl) (Nat.le_of_ble_eq_true rfl) ⟨Nat.le_of_ble_eq_true rfl, Nat.le_of_ble_eq_true rfl⟩ d_Pool_leastPaying_40 (rv_kle ?_)
          refine rv_lstore (lv' := [(7, .long (cl_fam S (bz_b i))), (6, .int (nI i)), (5, .int (nI 0)), (3, .long 0), (2, .int (nI 0)), (1, .int (-1)), (0, .ref po)]) d_Pool_leastPaying_43 (by decide) rfl ?_
          refine rv_aload_n d_Pool_leastPaying_45 rfl 6 rfl ?_
          refine rv_lload d_Pool_leastPaying_46 0 rfl ?_
          refine rv_callV (kc' := 0) (ks' := 0) (kc1 := 0) (ks1 := 0) (As := [.long (cl_fam S (bz_b i))]) (rest := []) hS.1 rfl (c_Pool_sumOfFees hS) ok_Pool_sumOfFees (wi_Pool_leastPaying _ (List.mem_of_getElem? (i := 6) rfl)) (wi_Pool_leastPaying _ (List.mem_of_getElem? (i := 7) rfl)) (wi_Pool_leastPaying _ (List.mem_of_getElem? (i := 8) rfl)) rfl rfl (Nat.le_of_ble_eq_true rfl) (Nat.le_of_ble_eq_true rfl) ⟨Nat.le_of_ble_eq_true rfl, Nat.le_of_ble_eq_true rfl⟩ d_Pool_leastPaying_48 (rv_kle ?_)
          refine rv_lstore (lv' := [(9, .long (cl_fees S (cl_fam S (bz_b i)))), (7, .long (cl_fam S (bz_b i))), (6, .int (nI i)), (5, .int (nI 0)), (3, .long 0), (2, .int (nI 0)), (1, .int (-1)), (0, .ref po)]) d_Pool_leastPaying_51 (by decide) rfl ?_
          refine rv_aload_n d_Pool_leastPaying_53 rfl 7 rfl ?_
          refine rv_lload d_Pool_leastPaying_54 1 rfl ?_
          refine rv_callV (kc' := 0) (ks' := 0) (kc1 := 0) (ks1 := 0) (As := [.long (cl_fam S (bz_b i))]) (rest := []) hS.1 rfl (c_Pool_sumOfSizes hS) ok_Pool_sumOfSizes (wi_Pool_leastPaying _ (List.mem_of_getElem? (i := 9) rfl)) (wi_Pool_leastPaying _ (List.mem_of_getElem? (i := 10) rfl)) (wi_Pool_leastPaying _ (List.mem_of_getElem? (i := 11) rfl)) rfl rfl (Nat.le_of_ble_eq_true rfl) (Nat.le_of_ble_eq_true rfl) ⟨Nat.le_of_ble_eq_true rfl, Nat.le_of_ble_eq_true rfl⟩ d_Pool_leastPaying_56 (rv_kie ?_)
          refine rv_istore (lv' := [(11, .int (cl_sizes S (cl_fam S (bz_b i)))), (9, .long (cl_fees S (cl_fam S (bz_b i)))), (7, .long (cl_fam S (bz_b i))), (6, .int (nI i)), (5, .int (nI 0)), (3, .long 0), (2, .int (nI 0)), (1, .int (-1)), (0, .ref po)]) d_Pool_leastPaying_59 (by decide) rfl ?_
          refine rv_lload d_Pool_leastPaying_61 1 rfl ?_
          refine rv_iload d_Pool_leastPaying_63 0 rfl ?_
          refine rv_i2l d_Pool_leastPaying_65 ?_
          refine rv_lload_n d_Pool_leastPaying_66 rfl 5 rfl ?_
          refine rv_iload d_Pool_leastPaying_67 4 rfl ?_
          refine rv_i2l d_Pool_leastPaying_69 ?_
          refine rv_callSN (kc' := 0) (ks' := 0) (kc1 := 0) (ks1 := 0) (As := [.long (cl_fees S (cl_fam S (bz_b i))), .long ((cl_sizes S (cl_fam S (bz_b i))).toInt64), .long 0, .long ((nI 0).toInt64)]) (rest := []) (c_Desk_compareRates) ok_Desk_compareRates (host := "PoolDesk") (List.mem_of_getElem? (i := 9) rfl) (wi_Pool_leastPaying _ (List.mem_of_getElem? (i := 12) rfl)) rfl rfl (Nat.le_of_ble_eq_true rfl) (Nat.le_of_ble_eq_true rfl) ⟨Nat.le_of_ble_eq_true rfl, Nat.le_of_ble_eq_true rfl⟩ d_Pool_leastPaying_70 (rv_kie ?_)
          refine rv_istore (lv' := [(12, .int (cl_cmp (cl_fees S (cl_fam S (bz_b i))) ((cl_sizes S (cl_fam S (bz_b i))).toInt64) 0 ((nI 0).toInt64))), (11, .int (cl_sizes S (cl_fam S (bz_b i)))), (9, .long (cl_fees S (cl_fam S (bz_b i)))), (7, .long (cl_fam S (bz_b i))), (6, .int (nI i)), (5, .int (nI 0)), (3, .long 0), (2, .int (nI 0)), (1, .int (-1)), (0, .ref po)]) d_Pool_leastPaying_73 (by decide) rfl ?_
          refine rv_iload_n d_Pool_leastPaying_75 rfl 8 rfl ?_
          refine rv_iconst (v := (-1)) d_Pool_leastPaying_76 (by decide) ?_
          refine rv_icmp_eq (tgt := 104) d_Pool_leastPaying_77 (by decide) (fun c_77 => ?_) (fun c_77 => ?_)
          · have e : cl_leastF S i (none) = some i := by simp [cl_leastF, cl_ob, q0]
            refine rv_iload d_Pool_leastPaying_104 4 rfl ?_
            refine rv_istore_n (lv' := [(1, .int (nI i)), (12, .int (cl_cmp (cl_fees S (cl_fam S (bz_b i))) ((cl_sizes S (cl_fam S (bz_b i))).toInt64) 0 ((nI 0).toInt64))), (11, .int (cl_sizes S (cl_fam S (bz_b i)))), (9, .long (cl_fees S (cl_fam S (bz_b i)))), (7, .long (cl_fam S (bz_b i))), (6, .int (nI i)), (5, .int (nI 0)), (3, .long 0), (2, .int (nI 0)), (0, .ref po)]) d_Pool_leastPaying_106 rfl (by decide) rfl ?_
            refine rv_aload_n d_Pool_leastPaying_107 rfl 9 rfl ?_
            refine rv_get ka_Pool hS.1 rfl 0 (by decide) (wi_Pool_leastPaying _ (List.mem_of_getElem? (i := 13) rfl)) rfl d_Pool_leastPaying_108 ?_
            refine rv_iload d_Pool_leastPaying_111 5 rfl ?_
            refine rv_aald hf 2 rfl (by omega) (by decide) d_Pool_leastPaying_113 ?_
            refine rv_eqv (y := .ref (L.2.1 i)) ((by rw [hfp i (by omega)]; rfl)) ?_
            refine rv_get ka_Tx (hS.2.2 i (by omega)).1 rfl 5 (by decide) (wi_Pool_leastPaying _ (List.mem_of_getElem? (i := 14) rfl)) rfl d_Pool_leastPaying_114 ?_
            refine rv_istore_n (lv' := [(2, .int ((S.2.2 i).2.2.2.2.2.1)), (1, .int (nI i)), (12, .int (cl_cmp (cl_fees S (cl_fam S (bz_b i))) ((cl_sizes S (cl_fam S (bz_b i))).toInt64) 0 ((nI 0).toInt64))), (11, .int (cl_sizes S (cl_fam S (bz_b i)))), (9, .long (cl_fees S (cl_fam S (bz_b i)))), (7, .long (cl_fam S (bz_b i))), (6, .int (nI i)), (5, .int (nI 0)), (3, .long 0), (0, .ref po)]) d_Pool_leastPaying_117 rfl (by decide) rfl ?_
            refine rv_lload d_Pool_leastPaying_118 4 rfl ?_
            refine rv_lstore_n (lv' := [(3, .long (cl_fees S (cl_fam S (bz_b i)))), (2, .int ((S.2.2 i).2.2.2.2.2.1)), (1, .int (nI i)), (12, .int (cl_cmp (cl_fees S (cl_fam S (bz_b i))) ((cl_sizes S (cl_fam S (bz_b i))).toInt64) 0 ((nI 0).toInt64))), (11, .int (cl_sizes S (cl_fam S (bz_b i)))), (9, .long (cl_fees S (cl_fam S (bz_b i)))), (7, .long (cl_fam S (bz_b i))), (6, .int (nI i)), (5, .int (nI 0)), (0, .ref po)]) d_Pool_leastPaying_120 rfl (by decide) rfl ?_
            refine rv_iload d_Pool_leastPaying_121 4 rfl ?_
            refine rv_istore (lv' := [(5, .int (cl_sizes S (cl_fam S (bz_b i)))), (3, .long (cl_fees S (cl_fam S (bz_b i)))), (2, .int ((S.2.2 i).2.2.2.2.2.1)), (1, .int (nI i)), (12, .int (cl_cmp (cl_fees S (cl_fam S (bz_b i))) ((cl_sizes S (cl_fam S (bz_b i))).toInt64) 0 ((nI 0).toInt64))), (11, .int (cl_sizes S (cl_fam S (bz_b i)))), (9, .long (cl_fees S (cl_fam S (bz_b i)))), (7, .long (cl_fam S (bz_b i))), (6, .int (nI i)), (0, .ref po)]) d_Pool_leastPaying_123 (by decide) rfl ?_
            refine rv_iinc (k := 8) (v := nI (i + 1)) (lv' := [(6, .int (nI (i + 1))), (5, .int (cl_sizes S (cl_fam S (bz_b i)))), (3, .long (cl_fees S (cl_fam S (bz_b i)))), (2, .int ((S.2.2 i).2.2.2.2.2.1)), (1, .int (nI i)), (12, .int (cl_cmp (cl_fees S (cl_fam S (bz_b i))) ((cl_sizes S (cl_fam S (bz_b i))).toInt64) 0 ((nI 0).toInt64))), (11, .int (cl_sizes S (cl_fam S (bz_b i)))), (9, .long (cl_fees S (cl_fam S (bz_b i)))), (7, .long (cl_fam S (bz_b i))), (0, .ref po)]) d_Pool_leastPaying_125 rfl (nI_1 _) (by decide) rfl ?_
            refine rv_goto (tgt := 12) d_Pool_leastPaying_128 (by decide) ?_
            refine rv_post (Q' := ma_qi (ma_eq (ob_i (lp_fold (cl_leastF S) m (i + 1) (some i))) hp)) (fun _ _ h => ?_) (rv_lv [0, 1, 2, 3, 4, 9] rfl (ih (i + 1) (some i) (fun b0 h0 => by cases h0; omega) (by omega)))
            rw [← e] at h
            exact h
          · exact absurd rfl c_77
        · have e : cl_leastF S i (none) = none := by simp [cl_leastF, cl_ob, bI_0.mp c_28]
          refine rv_goto (tgt := 125) d_Pool_leastPaying_31 (by decide) ?_
          refine rv_iinc (k := 0) (v := nI (i + 1)) (lv' := [(6, .int (nI (i + 1))), (5, .int (nI 0)), (3, .long 0), (2, .int (nI 0)), (1, .int (-1)), (0, .ref po)]) d_Pool_leastPaying_125 rfl (nI_1 _) (by decide) rfl ?_
          refine rv_goto (tgt := 12) d_Pool_leastPaying_128 (by decide) ?_
          refine rv_post (Q' := ma_qi (ma_eq (ob_i (lp_fold (cl_leastF S) m (i + 1) (none))) hp)) (fun _ _ h => ?_) (rv_lv [0, 1, 2, 3, 4, 5] rfl (ih (i + 1) (none) (fun b0 h0 => by cases h0) (by omega)))
          rw [← e] at h
          exact h
    | some b =>
      have hb : b < 41 := hacc b rfl
      change ma_V l D ca ma_T M_Pool_leastPaying (d + 4) 0 0 hp (ma_qi (ma_eq (ob_i (lp_fold (cl_leastF S) (m + 1) i (some b))) hp)) 12 [(6, .int (nI i)), (5, .int (cl_fs S b)), (3, .long (cl_ff S b)), (2, .int ((S.2.2 b).2.2.2.2.2.1)), (1, .int (nI b)), (0, .ref po)] []
      refine rv_iload d_Pool_leastPaying_12 0 rfl ?_
      refine rv_bipush (v := nI 41) d_Pool_leastPaying_14 (by decide) ?_
      refine rv_icmp_ge (tgt := 131) d_Pool_leastPaying_16 (by decide) (fun c_16 => ?_) (fun c_16 => ?_)
      · exact absurd c_16 (nI_ge (by omega) (by omega))
      · refine rv_aload_n d_Pool_leastPaying_19 rfl 5 rfl ?_
        refine rv_get ka_Pool hS.1 rfl 1 (by decide) (wi_Pool_leastPaying _ (List.mem_of_getElem? (i := 0) rfl)) rfl d_Pool_leastPaying_20 ?_
        refine rv_iload d_Pool_leastPaying_23 0 rfl ?_
        refine rv_callSN (kc' := 0) (ks' := 0) (kc1 := 0) (ks1 := 0) (As := [.long S.1, .int (nI i)]) (rest := []) (c_Desk_has (by omega)) ok_Desk_has (host := "PoolDesk") (List.mem_of_getElem? (i := 6) rfl) (wi_Pool_leastPaying _ (List.mem_of_getElem? (i := 1) rfl)) rfl rfl (Nat.le_of_ble_eq_true rfl) (Nat.le_of_ble_eq_true rfl) ⟨Nat.le_of_ble_eq_true rfl, Nat.le_of_ble_eq_true rfl⟩ d_Pool_leastPaying_25 (rv_kie ?_)
        refine rv_if_ne (tgt := 34) d_Pool_leastPaying_28 (by decide) (fun c_28 => ?_) (fun c_28 => ?_)
        · have q0 := bI_n.mp c_28
          refine rv_aload_n d_Pool_leastPaying_34 rfl 5 rfl ?_
          refine rv_iload d_Pool_leastPaying_35 0 rfl ?_
          refine rv_callSN (kc' := 0) (ks' := 0) (kc1 := 0) (ks1 := 0) (As := [.int (nI i)]) (rest := [.ref po]) (c_Desk_bit) ok_Desk_bit (host := "PoolDesk") (List.mem_of_getElem? (i := 7) rfl) (wi_Pool_leastPaying _ (List.mem_of_getElem? (i := 2) rfl)) rfl rfl (Nat.le_of_ble_eq_true rfl) (Nat.le_of_ble_eq_true rfl) ⟨Nat.le_of_ble_eq_true rfl, Nat.le_of_ble_eq_true rfl⟩ d_Pool_leastPaying_37 (rv_kle ?_)
          refine rv_callV (kc' := 0) (ks' := 0) (kc1 := 0) (ks1 := 0) (As := [.long (bz_b i)]) (rest := []) hS.1 rfl (c_Pool_family hS) ok_Pool_family (wi_Pool_leastPaying _ (List.mem_of_getElem? (i := 3) rfl)) (wi_Pool_leastPaying _ (List.mem_of_getElem? (i := 4) rfl)) (wi_Pool_leastPaying _ (List.mem_of_getElem? (i := 5) rfl)) rfl rfl (Nat.le_of_ble_eq_true rfl) (Nat.le_of_ble_eq_true rfl) ⟨Nat.le_of_ble_eq_true rfl, Nat.le_of_ble_eq_true rfl⟩ d_Pool_leastPaying_40 (rv_kle ?_)
          refine rv_lstore (lv' := [(7, .long (cl_fam S (bz_b i))), (6, .int (nI i)), (5, .int (cl_fs S b)), (3, .long (cl_ff S b)), (2, .int ((S.2.2 b).2.2.2.2.2.1)), (1, .int (nI b)), (0, .ref po)]) d_Pool_leastPaying_43 (by decide) rfl ?_
          refine rv_aload_n d_Pool_leastPaying_45 rfl 6 rfl ?_
          refine rv_lload d_Pool_leastPaying_46 0 rfl ?_
          refine rv_callV (kc' := 0) (ks' := 0) (kc1 := 0) (ks1 := 0) (As := [.long (cl_fam S (bz_b i))]) (rest := []) hS.1 rfl (c_Pool_sumOfFees hS) ok_Pool_sumOfFees (wi_Pool_leastPaying _ (List.mem_of_getElem? (i := 6) rfl)) (wi_Pool_leastPaying _ (List.mem_of_getElem? (i := 7) rfl)) (wi_Pool_leastPaying _ (List.mem_of_getElem? (i := 8) rfl)) rfl rfl (Nat.le_of_ble_eq_true rfl) (Nat.le_of_ble_eq_true rfl) ⟨Nat.le_of_ble_eq_true rfl, Nat.le_of_ble_eq_true rfl⟩ d_Pool_leastPaying_48 (rv_kle ?_)
          refine rv_lstore (lv' := [(9, .long (cl_fees S (cl_fam S (bz_b i)))), (7, .long (cl_fam S (bz_b i))), (6, .int (nI i)), (5, .int (cl_fs S b)), (3, .long (cl_ff S b)), (2, .int ((S.2.2 b).2.2.2.2.2.1)), (1, .int (nI b)), (0, .ref po)]) d_Pool_leastPaying_51 (by decide) rfl ?_
          refine rv_aload_n d_Pool_leastPaying_53 rfl 7 rfl ?_
          refine rv_lload d_Pool_leastPaying_54 1 rfl ?_
          refine rv_callV (kc' := 0) (ks' := 0) (kc1 := 0) (ks1 := 0) (As := [.long (cl_fam S (bz_b i))]) (rest := []) hS.1 rfl (c_Pool_sumOfSizes hS) ok_Pool_sumOfSizes (wi_Pool_leastPaying _ (List.mem_of_getElem? (i := 9) rfl)) (wi_Pool_leastPaying _ (List.mem_of_getElem? (i := 10) rfl)) (wi_Pool_leastPaying _ (List.mem_of_getElem? (i := 11) rfl)) rfl rfl (Nat.le_of_ble_eq_true rfl) (Nat.le_of_ble_eq_true rfl) ⟨Nat.le_of_ble_eq_true rfl, Nat.le_of_ble_eq_true rfl⟩ d_Pool_leastPaying_56 (rv_kie ?_)
          refine rv_istore (lv' := [(11, .int (cl_sizes S (cl_fam S (bz_b i)))), (9, .long (cl_fees S (cl_fam S (bz_b i)))), (7, .long (cl_fam S (bz_b i))), (6, .int (nI i)), (5, .int (cl_fs S b)), (3, .long (cl_ff S b)), (2, .int ((S.2.2 b).2.2.2.2.2.1)), (1, .int (nI b)), (0, .ref po)]) d_Pool_leastPaying_59 (by decide) rfl ?_
          refine rv_lload d_Pool_leastPaying_61 1 rfl ?_
          refine rv_iload d_Pool_leastPaying_63 0 rfl ?_
          refine rv_i2l d_Pool_leastPaying_65 ?_
          refine rv_lload_n d_Pool_leastPaying_66 rfl 5 rfl ?_
          refine rv_iload d_Pool_leastPaying_67 4 rfl ?_
          refine rv_i2l d_Pool_leastPaying_69 ?_
          refine rv_callSN (kc' := 0) (ks' := 0) (kc1 := 0) (ks1 := 0) (As := [.long (cl_fees S (cl_fam S (bz_b i))), .long ((cl_sizes S (cl_fam S (bz_b i))).toInt64), .long (cl_ff S b), .long ((cl_fs S b).toInt64)]) (rest := []) (c_Desk_compareRates) ok_Desk_compareRates (host := "PoolDesk") (List.mem_of_getElem? (i := 9) rfl) (wi_Pool_leastPaying _ (List.mem_of_getElem? (i := 12) rfl)) rfl rfl (Nat.le_of_ble_eq_true rfl) (Nat.le_of_ble_eq_true rfl) ⟨Nat.le_of_ble_eq_true rfl, Nat.le_of_ble_eq_true rfl⟩ d_Pool_leastPaying_70 (rv_kie ?_)
          refine rv_istore (lv' := [(12, .int (cl_cmp (cl_fees S (cl_fam S (bz_b i))) ((cl_sizes S (cl_fam S (bz_b i))).toInt64) (cl_ff S b) ((cl_fs S b).toInt64))), (11, .int (cl_sizes S (cl_fam S (bz_b i)))), (9, .long (cl_fees S (cl_fam S (bz_b i)))), (7, .long (cl_fam S (bz_b i))), (6, .int (nI i)), (5, .int (cl_fs S b)), (3, .long (cl_ff S b)), (2, .int ((S.2.2 b).2.2.2.2.2.1)), (1, .int (nI b)), (0, .ref po)]) d_Pool_leastPaying_73 (by decide) rfl ?_
          refine rv_iload_n d_Pool_leastPaying_75 rfl 8 rfl ?_
          refine rv_iconst (v := (-1)) d_Pool_leastPaying_76 (by decide) ?_
          refine rv_icmp_eq (tgt := 104) d_Pool_leastPaying_77 (by decide) (fun c_77 => ?_) (fun c_77 => ?_)
          · exact absurd c_77 (nI_m1 (by omega))
          · refine rv_iload d_Pool_leastPaying_80 0 rfl ?_
            refine rv_if_lt (tgt := 104) d_Pool_leastPaying_82 (by decide) (fun c_82 => ?_) (fun c_82 => ?_)
            · have r1 : cl_cmp (cl_ff S i) (cl_fs S i).toInt64 (cl_ff S b) (cl_fs S b).toInt64 < 0 := c_82
              have q1 : cl_less S i b = true := by simp only [cl_less, decide_eq_true r1, Bool.true_or]
              have e : cl_leastF S i (some b) = some i := by simp [cl_leastF, cl_ob, q0, q1]
              refine rv_iload d_Pool_leastPaying_104 4 rfl ?_
              refine rv_istore_n (lv' := [(1, .int (nI i)), (12, .int (cl_cmp (cl_fees S (cl_fam S (bz_b i))) ((cl_sizes S (cl_fam S (bz_b i))).toInt64) (cl_ff S b) ((cl_fs S b).toInt64))), (11, .int (cl_sizes S (cl_fam S (bz_b i)))), (9, .long (cl_fees S (cl_fam S (bz_b i)))), (7, .long (cl_fam S (bz_b i))), (6, .int (nI i)), (5, .int (cl_fs S b)), (3, .long (cl_ff S b)), (2, .int ((S.2.2 b).2.2.2.2.2.1)), (0, .ref po)]) d_Pool_leastPaying_106 rfl (by decide) rfl ?_
              refine rv_aload_n d_Pool_leastPaying_107 rfl 9 rfl ?_
              refine rv_get ka_Pool hS.1 rfl 0 (by decide) (wi_Pool_leastPaying _ (List.mem_of_getElem? (i := 13) rfl)) rfl d_Pool_leastPaying_108 ?_
              refine rv_iload d_Pool_leastPaying_111 5 rfl ?_
              refine rv_aald hf 2 rfl (by omega) (by decide) d_Pool_leastPaying_113 ?_
              refine rv_eqv (y := .ref (L.2.1 i)) ((by rw [hfp i (by omega)]; rfl)) ?_
              refine rv_get ka_Tx (hS.2.2 i (by omega)).1 rfl 5 (by decide) (wi_Pool_leastPaying _ (List.mem_of_getElem? (i := 14) rfl)) rfl d_Pool_leastPaying_114 ?_
              refine rv_istore_n (lv' := [(2, .int ((S.2.2 i).2.2.2.2.2.1)), (1, .int (nI i)), (12, .int (cl_cmp (cl_fees S (cl_fam S (bz_b i))) ((cl_sizes S (cl_fam S (bz_b i))).toInt64) (cl_ff S b) ((cl_fs S b).toInt64))), (11, .int (cl_sizes S (cl_fam S (bz_b i)))), (9, .long (cl_fees S (cl_fam S (bz_b i)))), (7, .long (cl_fam S (bz_b i))), (6, .int (nI i)), (5, .int (cl_fs S b)), (3, .long (cl_ff S b)), (0, .ref po)]) d_Pool_leastPaying_117 rfl (by decide) rfl ?_
              refine rv_lload d_Pool_leastPaying_118 4 rfl ?_
              refine rv_lstore_n (lv' := [(3, .long (cl_fees S (cl_fam S (bz_b i)))), (2, .int ((S.2.2 i).2.2.2.2.2.1)), (1, .int (nI i)), (12, .int (cl_cmp (cl_fees S (cl_fam S (bz_b i))) ((cl_sizes S (cl_fam S (bz_b i))).toInt64) (cl_ff S b) ((cl_fs S b).toInt64))), (11, .int (cl_sizes S (cl_fam S (bz_b i)))), (9, .long (cl_fees S (cl_fam S (bz_b i)))), (7, .long (cl_fam S (bz_b i))), (6, .int (nI i)), (5, .int (cl_fs S b)), (0, .ref po)]) d_Pool_leastPaying_120 rfl (by decide) rfl ?_
              refine rv_iload d_Pool_leastPaying_121 4 rfl ?_
              refine rv_istore (lv' := [(5, .int (cl_sizes S (cl_fam S (bz_b i)))), (3, .long (cl_fees S (cl_fam S (bz_b i)))), (2, .int ((S.2.2 i).2.2.2.2.2.1)), (1, .int (nI i)), (12, .int (cl_cmp (cl_fees S (cl_fam S (bz_b i))) ((cl_sizes S (cl_fam S (bz_b i))).toInt64) (cl_ff S b) ((cl_fs S b).toInt64))), (11, .int (cl_sizes S (cl_fam S (bz_b i)))), (9, .long (cl_fees S (cl_fam S (bz_b i)))), (7, .long (cl_fam S (bz_b i))), (6, .int (nI i)), (0, .ref po)]) d_Pool_leastPaying_123 (by decide) rfl ?_
              refine rv_iinc (k := 8) (v := nI (i + 1)) (lv' := [(6, .int (nI (i + 1))), (5, .int (cl_sizes S (cl_fam S (bz_b i)))), (3, .long (cl_fees S (cl_fam S (bz_b i)))), (2, .int ((S.2.2 i).2.2.2.2.2.1)), (1, .int (nI i)), (12, .int (cl_cmp (cl_fees S (cl_fam S (bz_b i))) ((cl_sizes S (cl_fam S (bz_b i))).toInt64) (cl_ff S b) ((cl_fs S b).toInt64))), (11, .int (cl_sizes S (cl_fam S (bz_b i)))), (9, .long (cl_fees S (cl_fam S (bz_b i)))), (7, .long (cl_fam S (bz_b i))), (0, .ref po)]) d_Pool_leastPaying_125 rfl (nI_1 _) (by decide) rfl ?_
              refine rv_goto (tgt := 12) d_Pool_leastPaying_128 (by decide) ?_
              refine rv_post (Q' := ma_qi (ma_eq (ob_i (lp_fold (cl_leastF S) m (i + 1) (some i))) hp)) (fun _ _ h => ?_) (rv_lv [0, 1, 2, 3, 4, 9] rfl (ih (i + 1) (some i) (fun b0 h0 => by cases h0; omega) (by omega)))
              rw [← e] at h
              exact h
            · refine rv_iload d_Pool_leastPaying_85 0 rfl ?_
              refine rv_if_ne (tgt := 125) d_Pool_leastPaying_87 (by decide) (fun c_87 => ?_) (fun c_87 => ?_)
              · have r1 : ¬ cl_cmp (cl_ff S i) (cl_fs S i).toInt64 (cl_ff S b) (cl_fs S b).toInt64 < 0 := c_82
                have r2 : ¬ cl_cmp (cl_ff S i) (cl_fs S i).toInt64 (cl_ff S b) (cl_fs S b).toInt64 = 0 := c_87
                have q1 : cl_less S i b = false := by simp only [cl_less, decide_eq_false r1, decide_eq_false r2, Bool.false_and, Bool.or_false]
                have e : cl_leastF S i (some b) = some b := by simp [cl_leastF, cl_ob, q1]
                refine rv_iinc (k := 4) (v := nI (i + 1)) (lv' := [(6, .int (nI (i + 1))), (12, .int (cl_cmp (cl_fees S (cl_fam S (bz_b i))) ((cl_sizes S (cl_fam S (bz_b i))).toInt64) (cl_ff S b) ((cl_fs S b).toInt64))), (11, .int (cl_sizes S (cl_fam S (bz_b i)))), (9, .long (cl_fees S (cl_fam S (bz_b i)))), (7, .long (cl_fam S (bz_b i))), (5, .int (cl_fs S b)), (3, .long (cl_ff S b)), (2, .int ((S.2.2 b).2.2.2.2.2.1)), (1, .int (nI b)), (0, .ref po)]) d_Pool_leastPaying_125 rfl (nI_1 _) (by decide) rfl ?_
                refine rv_goto (tgt := 12) d_Pool_leastPaying_128 (by decide) ?_
                refine rv_post (Q' := ma_qi (ma_eq (ob_i (lp_fold (cl_leastF S) m (i + 1) (some b))) hp)) (fun _ _ h => ?_) (rv_lv [0, 5, 6, 7, 8, 9] rfl (ih (i + 1) (some b) (fun b0 h0 => by cases h0; exact hb) (by omega)))
                rw [← e] at h
                exact h
              · refine rv_aload_n d_Pool_leastPaying_90 rfl 9 rfl ?_
                refine rv_get ka_Pool hS.1 rfl 0 (by decide) (wi_Pool_leastPaying _ (List.mem_of_getElem? (i := 13) rfl)) rfl d_Pool_leastPaying_91 ?_
                refine rv_iload d_Pool_leastPaying_94 4 rfl ?_
                refine rv_aald hf 2 rfl (by omega) (by decide) d_Pool_leastPaying_96 ?_
                refine rv_eqv (y := .ref (L.2.1 i)) ((by rw [hfp i (by omega)]; rfl)) ?_
                refine rv_get ka_Tx (hS.2.2 i (by omega)).1 rfl 5 (by decide) (wi_Pool_leastPaying _ (List.mem_of_getElem? (i := 14) rfl)) rfl d_Pool_leastPaying_97 ?_
                refine rv_iload_n d_Pool_leastPaying_100 rfl 7 rfl ?_
                refine rv_icmp_le (tgt := 125) d_Pool_leastPaying_101 (by decide) (fun c_101 => ?_) (fun c_101 => ?_)
                · have r1 : ¬ cl_cmp (cl_ff S i) (cl_fs S i).toInt64 (cl_ff S b) (cl_fs S b).toInt64 < 0 := c_82
                  have q1 : cl_less S i b = false := by simp only [cl_less, decide_eq_false r1, decide_eq_false (Int32.not_lt.mpr c_101), Bool.and_false, Bool.or_false]
                  have e : cl_leastF S i (some b) = some b := by simp [cl_leastF, cl_ob, q1]
                  refine rv_iinc (k := 4) (v := nI (i + 1)) (lv' := [(6, .int (nI (i + 1))), (12, .int (cl_cmp (cl_fees S (cl_fam S (bz_b i))) ((cl_sizes S (cl_fam S (bz_b i))).toInt64) (cl_ff S b) ((cl_fs S b).toInt64))), (11, .int (cl_sizes S (cl_fam S (bz_b i)))), (9, .long (cl_fees S (cl_fam S (bz_b i)))), (7, .long (cl_fam S (bz_b i))), (5, .int (cl_fs S b)), (3, .long (cl_ff S b)), (2, .int ((S.2.2 b).2.2.2.2.2.1)), (1, .int (nI b)), (0, .ref po)]) d_Pool_leastPaying_125 rfl (nI_1 _) (by decide) rfl ?_
                  refine rv_goto (tgt := 12) d_Pool_leastPaying_128 (by decide) ?_
                  refine rv_post (Q' := ma_qi (ma_eq (ob_i (lp_fold (cl_leastF S) m (i + 1) (some b))) hp)) (fun _ _ h => ?_) (rv_lv [0, 5, 6, 7, 8, 9] rfl (ih (i + 1) (some b) (fun b0 h0 => by cases h0; exact hb) (by omega)))
                  rw [← e] at h
                  exact h
                · have r2 : cl_cmp (cl_ff S i) (cl_fs S i).toInt64 (cl_ff S b) (cl_fs S b).toInt64 = 0 := c_87
                  have q1 : cl_less S i b = true := by simp only [cl_less, decide_eq_true r2, decide_eq_true (Int32.not_le.mp c_101), Bool.and_true, Bool.or_true]
                  have e : cl_leastF S i (some b) = some i := by simp [cl_leastF, cl_ob, q0, q1]
                  refine rv_iload d_Pool_leastPaying_104 4 rfl ?_
                  refine rv_istore_n (lv' := [(1, .int (nI i)), (12, .int (cl_cmp (cl_fees S (cl_fam S (bz_b i))) ((cl_sizes S (cl_fam S (bz_b i))).toInt64) (cl_ff S b) ((cl_fs S b).toInt64))), (11, .int (cl_sizes S (cl_fam S (bz_b i)))), (9, .long (cl_fees S (cl_fam S (bz_b i)))), (7, .long (cl_fam S (bz_b i))), (6, .int (nI i)), (5, .int (cl_fs S b)), (3, .long (cl_ff S b)), (2, .int ((S.2.2 b).2.2.2.2.2.1)), (0, .ref po)]) d_Pool_leastPaying_106 rfl (by decide) rfl ?_
                  refine rv_aload_n d_Pool_leastPaying_107 rfl 9 rfl ?_
                  refine rv_get ka_Pool hS.1 rfl 0 (by decide) (wi_Pool_leastPaying _ (List.mem_of_getElem? (i := 13) rfl)) rfl d_Pool_leastPaying_108 ?_
                  refine rv_iload d_Pool_leastPaying_111 5 rfl ?_
                  refine rv_aald hf 2 rfl (by omega) (by decide) d_Pool_leastPaying_113 ?_
                  refine rv_eqv (y := .ref (L.2.1 i)) ((by rw [hfp i (by omega)]; rfl)) ?_
                  refine rv_get ka_Tx (hS.2.2 i (by omega)).1 rfl 5 (by decide) (wi_Pool_leastPaying _ (List.mem_of_getElem? (i := 14) rfl)) rfl d_Pool_leastPaying_114 ?_
                  refine rv_istore_n (lv' := [(2, .int ((S.2.2 i).2.2.2.2.2.1)), (1, .int (nI i)), (12, .int (cl_cmp (cl_fees S (cl_fam S (bz_b i))) ((cl_sizes S (cl_fam S (bz_b i))).toInt64) (cl_ff S b) ((cl_fs S b).toInt64))), (11, .int (cl_sizes S (cl_fam S (bz_b i)))), (9, .long (cl_fees S (cl_fam S (bz_b i)))), (7, .long (cl_fam S (bz_b i))), (6, .int (nI i)), (5, .int (cl_fs S b)), (3, .long (cl_ff S b)), (0, .ref po)]) d_Pool_leastPaying_117 rfl (by decide) rfl ?_
                  refine rv_lload d_Pool_leastPaying_118 4 rfl ?_
                  refine rv_lstore_n (lv' := [(3, .long (cl_fees S (cl_fam S (bz_b i)))), (2, .int ((S.2.2 i).2.2.2.2.2.1)), (1, .int (nI i)), (12, .int (cl_cmp (cl_fees S (cl_fam S (bz_b i))) ((cl_sizes S (cl_fam S (bz_b i))).toInt64) (cl_ff S b) ((cl_fs S b).toInt64))), (11, .int (cl_sizes S (cl_fam S (bz_b i)))), (9, .long (cl_fees S (cl_fam S (bz_b i)))), (7, .long (cl_fam S (bz_b i))), (6, .int (nI i)), (5, .int (cl_fs S b)), (0, .ref po)]) d_Pool_leastPaying_120 rfl (by decide) rfl ?_
                  refine rv_iload d_Pool_leastPaying_121 4 rfl ?_
                  refine rv_istore (lv' := [(5, .int (cl_sizes S (cl_fam S (bz_b i)))), (3, .long (cl_fees S (cl_fam S (bz_b i)))), (2, .int ((S.2.2 i).2.2.2.2.2.1)), (1, .int (nI i)), (12, .int (cl_cmp (cl_fees S (cl_fam S (bz_b i))) ((cl_sizes S (cl_fam S (bz_b i))).toInt64) (cl_ff S b) ((cl_fs S b).toInt64))), (11, .int (cl_sizes S (cl_fam S (bz_b i)))), (9, .long (cl_fees S (cl_fam S (bz_b i)))), (7, .long (cl_fam S (bz_b i))), (6, .int (nI i)), (0, .ref po)]) d_Pool_leastPaying_123 (by decide) rfl ?_
                  refine rv_iinc (k := 8) (v := nI (i + 1)) (lv' := [(6, .int (nI (i + 1))), (5, .int (cl_sizes S (cl_fam S (bz_b i)))), (3, .long (cl_fees S (cl_fam S (bz_b i)))), (2, .int ((S.2.2 i).2.2.2.2.2.1)), (1, .int (nI i)), (12, .int (cl_cmp (cl_fees S (cl_fam S (bz_b i))) ((cl_sizes S (cl_fam S (bz_b i))).toInt64) (cl_ff S b) ((cl_fs S b).toInt64))), (11, .int (cl_sizes S (cl_fam S (bz_b i)))), (9, .long (cl_fees S (cl_fam S (bz_b i)))), (7, .long (cl_fam S (bz_b i))), (0, .ref po)]) d_Pool_leastPaying_125 rfl (nI_1 _) (by decide) rfl ?_
                  refine rv_goto (tgt := 12) d_Pool_leastPaying_128 (by decide) ?_
                  refine rv_post (Q' := ma_qi (ma_eq (ob_i (lp_fold (cl_leastF S) m (i + 1) (some i))) hp)) (fun _ _ h => ?_) (rv_lv [0, 1, 2, 3, 4, 9] rfl (ih (i + 1) (some i) (fun b0 h0 => by cases h0; omega) (by omega)))
                  rw [← e] at h
                  exact h
        · have e : cl_leastF S i (some b) = some b := by simp [cl_leastF, cl_ob, bI_0.mp c_28]
          refine rv_goto (tgt := 125) d_Pool_leastPaying_31 (by decide) ?_
          refine rv_iinc (k := 0) (v := nI (i + 1)) (lv' := [(6, .int (nI (i + 1))), (5, .int (cl_fs S b)), (3, .long (cl_ff S b)), (2, .int ((S.2.2 b).2.2.2.2.2.1)), (1, .int (nI b)), (0, .ref po)]) d_Pool_leastPaying_125 rfl (nI_1 _) (by decide) rfl ?_
          refine rv_goto (tgt := 12) d_Pool_leastPaying_128 (by decide) ?_
          refine rv_post (Q' := ma_qi (ma_eq (ob_i (lp_fold (cl_leastF S) m (i + 1) (some b))) hp)) (fun _ _ h => ?_) (rv_lv [0, 1, 2, 3, 4, 5] rfl (ih (i + 1) (some b) (fun b0 h0 => by cases h0; exact hb) (by omega)))
          rw [← e] at h
          exact h
set_option maxHeartbeats 4000000 in
set_option maxRecDepth 100000 in
theorem c_Pool_leastPaying {l : Launch} {D : va_G} {ca : Nat → ClassId} {hp : hp_T} {d : Nat} {po : Nat} {L : po_L} {S : po_S} (hS : po_At ca hp po L S) : ma_V l D ca ma_T M_Pool_leastPaying (d + 4) 0 0 hp (ma_qi (ma_eq (ob_i (cl_least S)) hp)) 0 (lv_args 0 [.ref po]) [] := by
  change ma_V l D ca ma_T M_Pool_leastPaying (d + 4) 0 0 hp (ma_qi (ma_eq (ob_i (cl_least S)) hp)) 0 [(0, .ref po)] []
  refine rv_iconst (v := (-1)) d_Pool_leastPaying_0 (by decide) ?_
  refine rv_istore_n (lv' := [(1, .int (-1)), (0, .ref po)]) d_Pool_leastPaying_1 rfl (by decide) rfl ?_
  refine rv_iconst (v := nI 0) d_Pool_leastPaying_2 (by decide) ?_
  refine rv_istore_n (lv' := [(2, .int (nI 0)), (1, .int (-1)), (0, .ref po)]) d_Pool_leastPaying_3 rfl (by decide) rfl ?_
  refine rv_lconst (v := 0) d_Pool_leastPaying_4 (by decide) ?_
  refine rv_lstore_n (lv' := [(3, .long 0), (2, .int (nI 0)), (1, .int (-1)), (0, .ref po)]) d_Pool_leastPaying_5 rfl (by decide) rfl ?_
  refine rv_iconst (v := nI 0) d_Pool_leastPaying_6 (by decide) ?_
  refine rv_istore (lv' := [(5, .int (nI 0)), (3, .long 0), (2, .int (nI 0)), (1, .int (-1)), (0, .ref po)]) d_Pool_leastPaying_7 (by decide) rfl ?_
  refine rv_iconst (v := nI 0) d_Pool_leastPaying_9 (by decide) ?_
  refine rv_istore (lv' := [(6, .int (nI 0)), (5, .int (nI 0)), (3, .long 0), (2, .int (nI 0)), (1, .int (-1)), (0, .ref po)]) d_Pool_leastPaying_10 (by decide) rfl ?_
  exact c_Pool_leastPaying_l hS 41 0 none (fun b h => by cases h) (Nat.zero_add _)
set_option maxHeartbeats 4000000 in
set_option maxRecDepth 100000 in
theorem c_Pool_hangsOnItself {l : Launch} {D : va_G} {ca : Nat → ClassId} {hp : hp_T} {d : Nat} {po : Nat} {L : po_L} {S : po_S} (hS : po_At ca hp po L S) {b : Nat} {m0 : nm_T} (hb : hp b = some (.inr (0, nm_F m0))) {k w i0 : Nat} {v : kv_T} (hk : kx_At ca hp k w i0 v) : ma_V l D ca ma_T M_Pool_hangsOnItself (d + 4) 0 0 hp (ma_qi (ma_eq (bI (cl_hang S m0 v)) hp)) 0 (lv_args 0 [.ref po, .ref b, .ref k]) [] := by
  change ma_V l D ca ma_T M_Pool_hangsOnItself (d + 4) 0 0 hp (ma_qi (ma_eq (bI (cl_hang S m0 v)) hp)) 0 [(0, .ref po), (1, .ref b), (2, .ref k)] []
  refine rv_aload_n d_Pool_hangsOnItself_0 rfl 2 rfl ?_
  refine rv_aload_n d_Pool_hangsOnItself_1 rfl 1 rfl ?_
  refine rv_callV (kc' := 0) (ks' := 0) (kc1 := 0) (ks1 := 0) (As := [.ref b]) (rest := []) hk.1 rfl (ck_bears hk hb) ok_Keys_bears (wi_Pool_hangsOnItself _ (List.mem_of_getElem? (i := 0) rfl)) (wi_Pool_hangsOnItself _ (List.mem_of_getElem? (i := 1) rfl)) (wi_Pool_hangsOnItself _ (List.mem_of_getElem? (i := 2) rfl)) rfl rfl (Nat.le_of_ble_eq_true rfl) (Nat.le_of_ble_eq_true rfl) ⟨Nat.le_of_ble_eq_true rfl, Nat.le_of_ble_eq_true rfl⟩ d_Pool_hangsOnItself_2 (rv_kie ?_)
  refine rv_if_ne (tgt := 28) d_Pool_hangsOnItself_5 (by decide) (fun c_5 => ?_) (fun c_5 => ?_)
  · have e : cl_hang S m0 v = true := by simp [cl_hang, bI_n.mp c_5]
    refine rv_iconst (v := nI 1) d_Pool_hangsOnItself_28 (by decide) ?_
    refine rv_goto (tgt := 33) d_Pool_hangsOnItself_29 (by decide) ?_
    refine rv_eqi (y := bI (cl_hang S m0 v)) (by rw [e]; rfl) ?_
    exact rv_ireturn ⟨_, rfl, rfl, rfl⟩ d_Pool_hangsOnItself_33 rfl (bI_nar _)
  · refine rv_aload_n d_Pool_hangsOnItself_8 rfl 0 rfl ?_
    refine rv_aload_n d_Pool_hangsOnItself_9 rfl 0 rfl ?_
    refine rv_aload_n d_Pool_hangsOnItself_10 rfl 1 rfl ?_
    refine rv_callV (kc' := 0) (ks' := 0) (kc1 := 0) (ks1 := 0) (As := [.ref b]) (rest := [.ref po]) hS.1 rfl (c_Pool_spendersOf hS hb) ok_Pool_spendersOf (wi_Pool_hangsOnItself _ (List.mem_of_getElem? (i := 3) rfl)) (wi_Pool_hangsOnItself _ (List.mem_of_getElem? (i := 4) rfl)) (wi_Pool_hangsOnItself _ (List.mem_of_getElem? (i := 5) rfl)) rfl rfl (Nat.le_of_ble_eq_true rfl) (Nat.le_of_ble_eq_true rfl) ⟨Nat.le_of_ble_eq_true rfl, Nat.le_of_ble_eq_true rfl⟩ d_Pool_hangsOnItself_11 (rv_kle ?_)
    refine rv_callV (kc' := 0) (ks' := 0) (kc1 := 0) (ks1 := 0) (As := [.long (cl_spenders S m0)]) (rest := []) hS.1 rfl (c_Pool_family hS) ok_Pool_family (wi_Pool_hangsOnItself _ (List.mem_of_getElem? (i := 6) rfl)) (wi_Pool_hangsOnItself _ (List.mem_of_getElem? (i := 7) rfl)) (wi_Pool_hangsOnItself _ (List.mem_of_getElem? (i := 8) rfl)) rfl rfl (Nat.le_of_ble_eq_true rfl) (Nat.le_of_ble_eq_true rfl) ⟨Nat.le_of_ble_eq_true rfl, Nat.le_of_ble_eq_true rfl⟩ d_Pool_hangsOnItself_14 (rv_kle ?_)
    refine rv_aload_n d_Pool_hangsOnItself_17 rfl 0 rfl ?_
    refine rv_aload_n d_Pool_hangsOnItself_18 rfl 2 rfl ?_
    refine rv_callV (kc' := 0) (ks' := 0) (kc1 := 0) (ks1 := 0) (As := [.ref k]) (rest := [.long (cl_fam S (cl_spenders S m0))]) hS.1 rfl (c_Pool_named hS hk) ok_Pool_named (wi_Pool_hangsOnItself _ (List.mem_of_getElem? (i := 9) rfl)) (wi_Pool_hangsOnItself _ (List.mem_of_getElem? (i := 10) rfl)) (wi_Pool_hangsOnItself _ (List.mem_of_getElem? (i := 11) rfl)) rfl rfl (Nat.le_of_ble_eq_true rfl) (Nat.le_of_ble_eq_true rfl) ⟨Nat.le_of_ble_eq_true rfl, Nat.le_of_ble_eq_true rfl⟩ d_Pool_hangsOnItself_19 (rv_kle ?_)
    refine rv_land d_Pool_hangsOnItself_22 ?_
    refine rv_lconst (v := 0) d_Pool_hangsOnItself_23 (by decide) ?_
    refine rv_lcmp d_Pool_hangsOnItself_24 ?_
    refine rv_if_eq (tgt := 32) d_Pool_hangsOnItself_25 (by decide) (fun c_25 => ?_) (fun c_25 => ?_)
    · have e : cl_hang S m0 v = false := by simp [cl_hang, bI_0.mp c_5, lc_0.mp c_25]
      refine rv_iconst (v := nI 0) d_Pool_hangsOnItself_32 (by decide) ?_
      refine rv_eqi (y := bI (cl_hang S m0 v)) (by rw [e]; rfl) ?_
      exact rv_ireturn ⟨_, rfl, rfl, rfl⟩ d_Pool_hangsOnItself_33 rfl (bI_nar _)
    · have e : cl_hang S m0 v = true := by unfold cl_hang; rw [decide_eq_false (fun z => c_25 (lc_0.mpr z))]; simp
      refine rv_iconst (v := nI 1) d_Pool_hangsOnItself_28 (by decide) ?_
      refine rv_goto (tgt := 33) d_Pool_hangsOnItself_29 (by decide) ?_
      refine rv_eqi (y := bI (cl_hang S m0 v)) (by rw [e]; rfl) ?_
      exact rv_ireturn ⟨_, rfl, rfl, rfl⟩ d_Pool_hangsOnItself_33 rfl (bI_nar _)
set_option maxHeartbeats 4000000 in
set_option maxRecDepth 100000 in
theorem c_Pool_hindrance {l : Launch} {D : va_G} {ca : Nat → ClassId} {hp : hp_T} {d : Nat} {po : Nat} {L : po_L} {S : po_S} (hS : po_At ca hp po L S) {b : Nat} {m0 : nm_T} (hb : hp b = some (.inr (0, nm_F m0))) {k w i0 : Nat} {v : kv_T} (hk : kx_At ca hp k w i0 v) {x : Int32} : ma_V l D ca ma_T M_Pool_hindrance (d + 5) 0 0 hp (ma_qi (ma_eq (cl_hind S m0 v x) hp)) 0 (lv_args 0 [.ref po, .ref b, .ref k, .int x]) [] := by
  change ma_V l D ca ma_T M_Pool_hindrance (d + 5) 0 0 hp (ma_qi (ma_eq (cl_hind S m0 v x) hp)) 0 [(0, .ref po), (1, .ref b), (2, .ref k), (3, .int x)] []
  refine rv_aload_n d_Pool_hindrance_0 rfl 0 rfl ?_
  refine rv_aload_n d_Pool_hindrance_1 rfl 1 rfl ?_
  refine rv_callV (kc' := 0) (ks' := 0) (kc1 := 0) (ks1 := 0) (As := [.ref b]) (rest := []) hS.1 rfl (c_Pool_find hS hb) ok_Pool_find (wi_Pool_hindrance _ (List.mem_of_getElem? (i := 0) rfl)) (wi_Pool_hindrance _ (List.mem_of_getElem? (i := 1) rfl)) (wi_Pool_hindrance _ (List.mem_of_getElem? (i := 2) rfl)) rfl rfl (Nat.le_of_ble_eq_true rfl) (Nat.le_of_ble_eq_true rfl) ⟨Nat.le_of_ble_eq_true rfl, Nat.le_of_ble_eq_true rfl⟩ d_Pool_hindrance_2 (rv_kie ?_)
  refine rv_iconst (v := (-1)) d_Pool_hindrance_5 (by decide) ?_
  refine rv_icmp_eq (tgt := 11) d_Pool_hindrance_6 (by decide) (fun c_6 => ?_) (fun c_6 => ?_)
  · refine rv_aload_n d_Pool_hindrance_11 rfl 0 rfl ?_
    refine rv_aload_n d_Pool_hindrance_12 rfl 2 rfl ?_
    refine rv_callV (kc' := 0) (ks' := 0) (kc1 := 0) (ks1 := 0) (As := [.ref k]) (rest := []) hS.1 rfl (c_Pool_isSpent hS hk) ok_Pool_isSpent (wi_Pool_hindrance _ (List.mem_of_getElem? (i := 3) rfl)) (wi_Pool_hindrance _ (List.mem_of_getElem? (i := 4) rfl)) (wi_Pool_hindrance _ (List.mem_of_getElem? (i := 5) rfl)) rfl rfl (Nat.le_of_ble_eq_true rfl) (Nat.le_of_ble_eq_true rfl) ⟨Nat.le_of_ble_eq_true rfl, Nat.le_of_ble_eq_true rfl⟩ d_Pool_hindrance_13 (rv_kie ?_)
    refine rv_if_eq (tgt := 21) d_Pool_hindrance_16 (by decide) (fun c_16 => ?_) (fun c_16 => ?_)
    · refine rv_aload_n d_Pool_hindrance_21 rfl 0 rfl ?_
      refine rv_aload_n d_Pool_hindrance_22 rfl 1 rfl ?_
      refine rv_aload_n d_Pool_hindrance_23 rfl 2 rfl ?_
      refine rv_iload_n d_Pool_hindrance_24 rfl 3 rfl ?_
      refine rv_callV (kc' := 0) (ks' := 0) (kc1 := 0) (ks1 := 0) (As := [.ref b, .ref k, .int x]) (rest := []) hS.1 rfl (c_Pool_missesOutput hS hb hk) ok_Pool_missesOutput (wi_Pool_hindrance _ (List.mem_of_getElem? (i := 6) rfl)) (wi_Pool_hindrance _ (List.mem_of_getElem? (i := 7) rfl)) (wi_Pool_hindrance _ (List.mem_of_getElem? (i := 8) rfl)) rfl rfl (Nat.le_of_ble_eq_true rfl) (Nat.le_of_ble_eq_true rfl) ⟨Nat.le_of_ble_eq_true rfl, Nat.le_of_ble_eq_true rfl⟩ d_Pool_hindrance_25 (rv_kie ?_)
      refine rv_if_eq (tgt := 33) d_Pool_hindrance_28 (by decide) (fun c_28 => ?_) (fun c_28 => ?_)
      · refine rv_aload_n d_Pool_hindrance_33 rfl 0 rfl ?_
        refine rv_aload_n d_Pool_hindrance_34 rfl 1 rfl ?_
        refine rv_aload_n d_Pool_hindrance_35 rfl 2 rfl ?_
        refine rv_callV (kc' := 0) (ks' := 0) (kc1 := 0) (ks1 := 0) (As := [.ref b, .ref k]) (rest := []) hS.1 rfl (c_Pool_hangsOnItself hS hb hk) ok_Pool_hangsOnItself (wi_Pool_hindrance _ (List.mem_of_getElem? (i := 9) rfl)) (wi_Pool_hindrance _ (List.mem_of_getElem? (i := 10) rfl)) (wi_Pool_hindrance _ (List.mem_of_getElem? (i := 11) rfl)) rfl rfl (Nat.le_of_ble_eq_true rfl) (Nat.le_of_ble_eq_true rfl) ⟨Nat.le_of_ble_eq_true rfl, Nat.le_of_ble_eq_true rfl⟩ d_Pool_hindrance_36 (rv_kie ?_)
        refine rv_if_eq (tgt := 46) d_Pool_hindrance_39 (by decide) (fun c_39 => ?_) (fun c_39 => ?_)
        · have e : cl_hind S m0 v x = nI 0 := by simp [cl_hind, c_6, bI_0.mp c_16, bI_0.mp c_28, bI_0.mp c_39]
          refine rv_iconst (v := nI 0) d_Pool_hindrance_46 (by decide) ?_
          exact rv_ireturn ⟨_, rfl, e.symm, rfl⟩ d_Pool_hindrance_47 rfl rfl
        · have e : cl_hind S m0 v x = nI 4 := by simp [cl_hind, c_6, bI_0.mp c_16, bI_0.mp c_28, bI_n.mp c_39]
          refine rv_iconst (v := nI 4) d_Pool_hindrance_42 (by decide) ?_
          refine rv_goto (tgt := 47) d_Pool_hindrance_43 (by decide) ?_
          exact rv_ireturn ⟨_, rfl, e.symm, rfl⟩ d_Pool_hindrance_47 rfl rfl
      · have e : cl_hind S m0 v x = nI 3 := by simp [cl_hind, c_6, bI_0.mp c_16, bI_n.mp c_28]
        refine rv_iconst (v := nI 3) d_Pool_hindrance_31 (by decide) ?_
        exact rv_ireturn ⟨_, rfl, e.symm, rfl⟩ d_Pool_hindrance_32 rfl rfl
    · have e : cl_hind S m0 v x = nI 2 := by simp [cl_hind, c_6, bI_n.mp c_16]
      refine rv_iconst (v := nI 2) d_Pool_hindrance_19 (by decide) ?_
      exact rv_ireturn ⟨_, rfl, e.symm, rfl⟩ d_Pool_hindrance_20 rfl rfl
  · have e : cl_hind S m0 v x = nI 1 := by simp [cl_hind, c_6]
    refine rv_iconst (v := nI 1) d_Pool_hindrance_9 (by decide) ?_
    exact rv_ireturn ⟨_, rfl, e.symm, rfl⟩ d_Pool_hindrance_10 rfl rfl
set_option maxHeartbeats 4000000 in
set_option maxRecDepth 100000 in
theorem c_Row_word {l : Launch} {D : va_G} {ca : Nat → ClassId} {hp : hp_T} {d : Nat} {r w n : Nat} {f : Nat → Int64} {x y : Int32} (hr : hp r = some (.inr (4, [.ref w, .int (nI n)]))) (hw : hp w = some (.inl (ca 1, 164, .inr (.inl f)))) (hn : n ≤ 41) : ma_V l D ca ma_T M_Row_word d 0 0 hp (ma_ql (ma_eq (rw_word n f x y) hp)) 0 (lv_args 0 [.ref r, .int x, .int y]) [] := by
  change ma_V l D ca ma_T M_Row_word d 0 0 hp (ma_ql (ma_eq (rw_word n f x y) hp)) 0 [(0, .ref r), (1, .int x), (2, .int y)] []
  refine rv_iload_n d_Row_word_0 rfl 1 rfl ?_
  refine rv_if_lt (tgt := 21) d_Row_word_1 (by decide) (fun c_1 => ?_) (fun c_1 => ?_)
  · have e : rw_word n f x y = 0 := if_pos (Or.inl c_1)
    refine rv_lconst (v := 0) d_Row_word_21 (by decide) ?_
    exact rv_lreturn ⟨_, rfl, e.symm, rfl⟩ d_Row_word_22 rfl
  · refine rv_iload_n d_Row_word_4 rfl 1 rfl ?_
    refine rv_aload_n d_Row_word_5 rfl 0 rfl ?_
    refine rv_get ka_Row hr rfl 1 (by decide) (wi_Row_word _ (List.mem_of_getElem? (i := 0) rfl)) rfl d_Row_word_6 ?_
    refine rv_icmp_ge (tgt := 21) d_Row_word_9 (by decide) (fun c_9 => ?_) (fun c_9 => ?_)
    · have e : rw_word n f x y = 0 := if_pos (Or.inr (Or.inl c_9))
      refine rv_lconst (v := 0) d_Row_word_21 (by decide) ?_
      exact rv_lreturn ⟨_, rfl, e.symm, rfl⟩ d_Row_word_22 rfl
    · refine rv_iload_n d_Row_word_12 rfl 2 rfl ?_
      refine rv_if_lt (tgt := 21) d_Row_word_13 (by decide) (fun c_13 => ?_) (fun c_13 => ?_)
      · have e : rw_word n f x y = 0 := if_pos (Or.inr (Or.inr (Or.inl c_13)))
        refine rv_lconst (v := 0) d_Row_word_21 (by decide) ?_
        exact rv_lreturn ⟨_, rfl, e.symm, rfl⟩ d_Row_word_22 rfl
      · refine rv_iload_n d_Row_word_16 rfl 2 rfl ?_
        refine rv_iconst (v := nI 4) d_Row_word_17 (by decide) ?_
        refine rv_icmp_lt (tgt := 23) d_Row_word_18 (by decide) (fun c_18 => ?_) (fun c_18 => ?_)
        · have e : rw_word n f x y = f (x.toNatClampNeg * 4 + y.toNatClampNeg) := if_neg (by rintro (z | z | z | z); exact c_1 z; exact c_9 z; exact c_13 z; exact absurd c_18 (Int32.not_lt.mpr z))
          obtain ⟨j, hj, rfl⟩ := ix_of (by omega) c_1 c_9
          obtain ⟨q, hq, rfl⟩ := ix_of (by decide) c_13 (Int32.not_le.mpr c_18)
          rw [nI_clamp (by omega), nI_clamp (by omega)] at e
          refine rv_aload_n d_Row_word_23 rfl 0 rfl ?_
          refine rv_get ka_Row hr rfl 0 (by decide) (wi_Row_word _ (List.mem_of_getElem? (i := 1) rfl)) rfl d_Row_word_24 ?_
          refine rv_iload_n d_Row_word_27 rfl 1 rfl ?_
          refine rv_iconst (v := nI 4) d_Row_word_28 (by decide) ?_
          refine rv_imul d_Row_word_29 ?_
          refine rv_eqi (pk_mul _ _) ?_
          refine rv_iload_n d_Row_word_30 rfl 2 rfl ?_
          refine rv_iadd d_Row_word_31 ?_
          refine rv_eqi (nI_add _ _) ?_
          refine rv_lald hw 1 rfl (by omega) (by decide) d_Row_word_32 ?_
          exact rv_lreturn ⟨_, rfl, e.symm, rfl⟩ d_Row_word_33 rfl
        · have e : rw_word n f x y = 0 := if_pos (Or.inr (Or.inr (Or.inr (Int32.not_lt.mp c_18))))
          refine rv_lconst (v := 0) d_Row_word_21 (by decide) ?_
          exact rv_lreturn ⟨_, rfl, e.symm, rfl⟩ d_Row_word_22 rfl
end
section
/-! Pictures behind a write: which facts stay. -/
section PoolPics
variable {ca : Nat → ClassId} {hp : hp_T} {po : Nat} {L : po_L} {S : po_S}
def po_ok (L : po_L) : Prop := (∀ p q, p < 41 → q < 41 → L.2.1 p = L.2.1 q → p = q) ∧ (∀ p q, p < 41 → q < 41 → L.2.2.1 p = L.2.2.1 q → p = q) ∧ (∀ p q, p < 41 → q < 41 → L.2.2.2.1 p = L.2.2.2.1 q → p = q) ∧ (∀ p q, p < 41 → q < 41 → L.2.2.2.2.1 p = L.2.2.2.2.1 q → p = q) ∧ (∀ p q, p < 41 → q < 41 → L.2.2.2.2.2 p = L.2.2.2.2.2 q → p = q)
/-- keys written whole -/
def kx_put (ca : Nat → ClassId) (hp : hp_T) (k w i : Nat) (v : kv_T) : hp_T := hp_up (hp_up (hp_up hp w (.inl (ca 1, 32, .inr (.inl v.2.1)))) i (.inl (ca 0, 8, .inl v.2.2))) k (.inr (1, [.ref w, .ref i, .int (nI v.1)]))
theorem kx_ne {k w i : Nat} {v : kv_T} (h : kx_At ca hp k w i v) : k ≠ w ∧ k ≠ i ∧ w ≠ i := ⟨hp_ne h.1 h.2.1 (fun q => by first | cases q | simp at q), hp_ne h.1 h.2.2.1 (fun q => by first | cases q | simp at q), hp_ne h.2.1 h.2.2.1 (fun q => by first | cases q | simp at q)⟩
theorem kx_put_at {k w i : Nat} {v u : kv_T} (h : kx_At ca hp k w i v) (hu : u.1 ≤ 8) : kx_At ca (kx_put ca hp k w i u) k w i u := by
  obtain ⟨n1, n2, n3⟩ := kx_ne h
  refine ⟨hp_us, ?_, ?_, hu⟩
  · unfold kx_put
    rw [hp_un n1.symm, hp_un n3, hp_us]
  · unfold kx_put
    rw [hp_un n2.symm, hp_us]
theorem kx_put_un {k w i b : Nat} {v : kv_T} (h1 : b ≠ k) (h2 : b ≠ w) (h3 : b ≠ i) : kx_put ca hp k w i v b = hp b := by
  unfold kx_put
  rw [hp_un h1, hp_un h3, hp_un h2]
theorem kx_congr {hp1 : hp_T} {k w i : Nat} {v : kv_T} (h : kx_At ca hp k w i v) (h1 : hp1 k = hp k) (h2 : hp1 w = hp w) (h3 : hp1 i = hp i) : kx_At ca hp1 k w i v := ⟨by rw [h1]; exact h.1, by rw [h2]; exact h.2.1, by rw [h3]; exact h.2.2.1, h.2.2.2⟩
theorem tx_congr {hp1 : hp_T} {p : Nat} {t : tx_T} (h : tx_At ca hp L p t) (h1 : hp1 (L.2.1 p) = hp (L.2.1 p)) (h2 : hp1 (L.2.2.1 p) = hp (L.2.2.1 p)) (h3 : hp1 (L.2.2.2.1 p) = hp (L.2.2.2.1 p)) (h4 : hp1 (L.2.2.2.2.1 p) = hp (L.2.2.2.2.1 p)) (h5 : hp1 (L.2.2.2.2.2 p) = hp (L.2.2.2.2.2 p)) : tx_At ca hp1 L p t := ⟨by rw [h1]; exact h.1, by rw [h2]; exact h.2.1, kx_congr h.2.2 h3 h4 h5⟩
theorem va_up_s {α : Type} {f : Nat → α} {k : Nat} {v : α} : va_up f k v k = v := by simp [va_up]
theorem va_up_n {α : Type} {f : Nat → α} {k j : Nat} {v : α} (h : j ≠ k) : va_up f k v j = f j := by simp [va_up, h]
/-- the pool's own cell is written -/
theorem po_setPo (h : po_At ca hp po L S) (x : Int64) (c : Int32) : po_At ca (hp_up hp po (.inr (3, [.ref L.1, .long x, .int c]))) po L (x, c, S.2.2) := by
  have k : ∀ {b : Nat} {y : va_E}, hp b = some y → (∀ fs, y ≠ .inr (3, fs)) → hp_up hp po (.inr (3, [.ref L.1, .long x, .int c])) b = hp b := fun hb hy => hp_un (hp_ne hb h.1 (hy _))
  obtain ⟨f, hf, hfp⟩ := h.2.1
  refine ⟨hp_us, ⟨f, by rw [k hf (fun fs q => by first | cases q | simp at q)]; exact hf, hfp⟩, fun q hq => ?_⟩
  have ht := h.2.2 q hq
  exact tx_congr ht (k ht.1 (fun fs q => by first | cases q | simp at q)) (k ht.2.1 (fun fs q => by first | cases q | simp at q)) (k ht.2.2.1 (fun fs q => by first | cases q | simp at q)) (k ht.2.2.2.1 (fun fs q => by first | cases q | simp at q)) (k ht.2.2.2.2.1 (fun fs q => by first | cases q | simp at q))
/-- a transaction's cell is written; its name and keys are others' cells -/
theorem po_setTx (h : po_At ca hp po L S) (hL : po_ok L) {p : Nat} (hp0 : p < 41) {t : tx_T} (ht1 : t.1 = (S.2.2 p).1) (ht2 : t.2.1 = (S.2.2 p).2.1) : po_At ca (hp_up hp (L.2.1 p) (.inr (2, tx_F L p t))) po L (S.1, S.2.1, va_up S.2.2 p t) := by
  have hx := (h.2.2 p hp0).1
  have k : ∀ {b : Nat} {y : va_E}, hp b = some y → (∀ fs, y ≠ .inr (2, fs)) → hp_up hp (L.2.1 p) (.inr (2, tx_F L p t)) b = hp b := fun hb hy => hp_un (hp_ne hb hx (hy _))
  obtain ⟨f, hf, hfp⟩ := h.2.1
  refine ⟨by rw [k h.1 (fun fs q => by first | cases q | simp at q)]; exact h.1, ⟨f, by rw [k hf (fun fs q => by first | cases q | simp at q)]; exact hf, hfp⟩, fun q hq => ?_⟩
  have ht := h.2.2 q hq
  have e2 := k ht.2.1 (fun fs q => by first | cases q | simp at q)
  have e3 := k ht.2.2.1 (fun fs q => by first | cases q | simp at q)
  have e4 := k ht.2.2.2.1 (fun fs q => by first | cases q | simp at q)
  have e5 := k ht.2.2.2.2.1 (fun fs q => by first | cases q | simp at q)
  by_cases e : q = p
  · subst e
    show tx_At ca _ L q (va_up S.2.2 q t q)
    rw [va_up_s]
    refine ⟨hp_us, by rw [e2, ht1]; exact ht.2.1, ?_⟩
    rw [ht2]
    exact kx_congr ht.2.2 e3 e4 e5
  · show tx_At ca _ L q (va_up S.2.2 p t q)
    rw [va_up_n e]
    exact tx_congr ht (hp_un (fun z => e (hL.1 q p hq hp0 z))) e2 e3 e4 e5
/-- a place's name is written -/
theorem po_setNm (h : po_At ca hp po L S) (hL : po_ok L) {p : Nat} (hp0 : p < 41) (m : nm_T) : po_At ca (hp_up hp (L.2.2.1 p) (.inr (0, nm_F m))) po L (S.1, S.2.1, va_up S.2.2 p (m, (S.2.2 p).2)) := by
  have hx := (h.2.2 p hp0).2.1
  have k : ∀ {b : Nat} {y : va_E}, hp b = some y → (∀ fs, y ≠ .inr (0, fs)) → hp_up hp (L.2.2.1 p) (.inr (0, nm_F m)) b = hp b := fun hb hy => hp_un (hp_ne hb hx (hy _))
  obtain ⟨f, hf, hfp⟩ := h.2.1
  refine ⟨by rw [k h.1 (fun fs q => by first | cases q | simp at q)]; exact h.1, ⟨f, by rw [k hf (fun fs q => by first | cases q | simp at q)]; exact hf, hfp⟩, fun q hq => ?_⟩
  have ht := h.2.2 q hq
  have e1 := k ht.1 (fun fs q => by first | cases q | simp at q)
  have e3 := k ht.2.2.1 (fun fs q => by first | cases q | simp at q)
  have e4 := k ht.2.2.2.1 (fun fs q => by first | cases q | simp at q)
  have e5 := k ht.2.2.2.2.1 (fun fs q => by first | cases q | simp at q)
  by_cases e : q = p
  · subst e
    show tx_At ca _ L q (va_up S.2.2 q _ q)
    rw [va_up_s]
    exact ⟨by rw [e1]; exact ht.1, hp_us, kx_congr ht.2.2 e3 e4 e5⟩
  · show tx_At ca _ L q (va_up S.2.2 p _ q)
    rw [va_up_n e]
    exact tx_congr ht e1 (hp_un (fun z => e (hL.2.1 q p hq hp0 z))) e3 e4 e5
/-- a place's keys are written -/
theorem po_setKs (h : po_At ca hp po L S) (hL : po_ok L) {p : Nat} (hp0 : p < 41) (v : kv_T) (hv : v.1 ≤ 8) : po_At ca (kx_put ca hp (L.2.2.2.1 p) (L.2.2.2.2.1 p) (L.2.2.2.2.2 p) v) po L (S.1, S.2.1, va_up S.2.2 p ((S.2.2 p).1, v, (S.2.2 p).2.2)) := by
  have hx := (h.2.2 p hp0).2.2
  have k : ∀ {b : Nat} {y : va_E}, hp b = some y → (∀ fs, y ≠ .inr (1, fs)) → (∀ n f, y ≠ .inl (ca 1, n, .inr (.inl f))) → (∀ n f, y ≠ .inl (ca 0, n, .inl f)) → kx_put ca hp (L.2.2.2.1 p) (L.2.2.2.2.1 p) (L.2.2.2.2.2 p) v b = hp b := fun hb h1 h2 h3 => kx_put_un (hp_ne hb hx.1 (h1 _)) (hp_ne hb hx.2.1 (h2 _ _)) (hp_ne hb hx.2.2.1 (h3 _ _))
  obtain ⟨f, hf, hfp⟩ := h.2.1
  refine ⟨by rw [k h.1 (fun fs q => by first | cases q | simp at q) (fun n f q => by first | cases q | simp at q) (fun n f q => by first | cases q | simp at q)]; exact h.1, ⟨f, by rw [k hf (fun fs q => by first | cases q | simp at q) (fun n f q => by first | cases q | simp at q) (fun n f q => by first | cases q | simp at q)]; exact hf, hfp⟩, fun q hq => ?_⟩
  have ht := h.2.2 q hq
  have e1 := k ht.1 (fun fs q => by first | cases q | simp at q) (fun n f q => by first | cases q | simp at q) (fun n f q => by first | cases q | simp at q)
  have e2 := k ht.2.1 (fun fs q => by first | cases q | simp at q) (fun n f q => by first | cases q | simp at q) (fun n f q => by first | cases q | simp at q)
  by_cases e : q = p
  · subst e
    show tx_At ca _ L q (va_up S.2.2 q _ q)
    rw [va_up_s]
    exact ⟨by rw [e1]; exact ht.1, by rw [e2]; exact ht.2.1, kx_put_at hx hv⟩
  · show tx_At ca _ L q (va_up S.2.2 p _ q)
    rw [va_up_n e]
    have g := ht.2.2
    have i1 : L.2.2.2.1 q ≠ L.2.2.2.1 p := fun z => e (hL.2.2.1 q p hq hp0 z)
    have i2 : L.2.2.2.2.1 q ≠ L.2.2.2.2.1 p := fun z => e (hL.2.2.2.1 q p hq hp0 z)
    have i3 : L.2.2.2.2.2 q ≠ L.2.2.2.2.2 p := fun z => e (hL.2.2.2.2 q p hq hp0 z)
    exact tx_congr ht e1 e2 (kx_put_un i1 (hp_ne g.1 hx.2.1 (fun q => by first | cases q | simp at q)) (hp_ne g.1 hx.2.2.1 (fun q => by first | cases q | simp at q))) (kx_put_un (hp_ne g.2.1 hx.1 (fun q => by first | cases q | simp at q)) i2 (hp_ne g.2.1 hx.2.2.1 (fun q => by first | cases q | simp at q))) (kx_put_un (hp_ne g.2.2.1 hx.1 (fun q => by first | cases q | simp at q)) (hp_ne g.2.2.1 hx.2.1 (fun q => by first | cases q | simp at q)) i3)
end PoolPics
section PoolPics2
variable {ca : Nat → ClassId} {hp : hp_T} {po : Nat} {L : po_L} {S : po_S}
theorem hp_uiu {k i : Nat} {x y z : va_E} : hp_up (hp_up (hp_up hp k x) i y) k z = hp_up (hp_up hp i y) k z := by
  funext b
  by_cases h : b = k
  · simp [hp_up, h]
  · by_cases g : b = i <;> simp [hp_up, h, g]
def kv_add (v : kv_T) (m : nm_T) (x : Int32) : kv_T := (v.1 + 1, kx_w v.2.1 (v.1 * 4) m, upd v.2.2 v.1 x)
def kv_may (v : kv_T) (m : nm_T) (x : Int32) : Bool := decide (v.1 < 8) && !kv_has v m x
def kv_cp (u v : kv_T) : kv_T := (u.1, va_cpy u.2.1 v.2.1 0 0 32, va_cpy u.2.2 v.2.2 0 0 8)
/-- the addresses of a pool -/
def po_fp (po : Nat) (L : po_L) (b : Nat) : Prop := b = po ∨ b = L.1 ∨ ∃ p, p < 41 ∧ (b = L.2.1 p ∨ b = L.2.2.1 p ∨ b = L.2.2.2.1 p ∨ b = L.2.2.2.2.1 p ∨ b = L.2.2.2.2.2 p)
theorem po_fp_po : po_fp po L po := Or.inl rfl
theorem po_fp_tx {p : Nat} (h : p < 41) : po_fp po L (L.2.1 p) := Or.inr (Or.inr ⟨p, h, Or.inl rfl⟩)
theorem po_fp_nm {p : Nat} (h : p < 41) : po_fp po L (L.2.2.1 p) := Or.inr (Or.inr ⟨p, h, Or.inr (Or.inl rfl)⟩)
theorem po_fp_ks {p : Nat} (h : p < 41) : po_fp po L (L.2.2.2.1 p) := Or.inr (Or.inr ⟨p, h, Or.inr (Or.inr (Or.inl rfl))⟩)
theorem po_fp_wk {p : Nat} (h : p < 41) : po_fp po L (L.2.2.2.2.1 p) := Or.inr (Or.inr ⟨p, h, Or.inr (Or.inr (Or.inr (Or.inl rfl)))⟩)
theorem po_fp_ik {p : Nat} (h : p < 41) : po_fp po L (L.2.2.2.2.2 p) := Or.inr (Or.inr ⟨p, h, Or.inr (Or.inr (Or.inr (Or.inr rfl)))⟩)
/-- the same outside of the pool -/
def po_out (po : Nat) (L : po_L) (hp hp1 : hp_T) : Prop := ∀ b, ¬ po_fp po L b → hp1 b = hp b
theorem po_out_rf : po_out po L hp hp := fun _ _ => rfl
theorem po_out_up {hp1 : hp_T} {a : Nat} {x : va_E} (h : po_out po L hp hp1) (ha : po_fp po L a) : po_out po L hp (hp_up hp1 a x) := fun b hb => by
  rw [hp_un (fun e => hb (by rw [e]; exact ha))]
  exact h b hb
theorem po_out_put {hp1 : hp_T} {k w i : Nat} {v : kv_T} (h : po_out po L hp hp1) (h1 : po_fp po L k) (h2 : po_fp po L w) (h3 : po_fp po L i) : po_out po L hp (kx_put ca hp1 k w i v) := po_out_up (po_out_up (po_out_up h h2) h3) h1
theorem va_up_up {α : Type} {f : Nat → α} {k : Nat} {u v : α} : va_up (va_up f k u) k v = va_up f k v := by
  funext j
  by_cases h : j = k <;> simp [va_up, h]
/-- behind remove -/
def tx_rm (g : Int64) (t : tx_T) : tx_T := (t.1, t.2.1, t.2.2.1, t.2.2.2.1, t.2.2.2.2.1, t.2.2.2.2.2.1, t.2.2.2.2.2.2.1 &&& (g ^^^ (-1)), t.2.2.2.2.2.2.2 &&& (g ^^^ (-1)))
def cl_rm (S : po_S) (g : Int64) : po_S := (S.1 &&& (g ^^^ (-1)), S.2.1, fun p => tx_rm g (S.2.2 p))
/-- remove, i places done -/
def cl_rmI (S : po_S) (g : Int64) (i : Nat) : po_S := (S.1 &&& (g ^^^ (-1)), S.2.1, fun p => if p < i then tx_rm g (S.2.2 p) else S.2.2 p)
theorem po_ext {S' : po_S} (h : po_At ca hp po L S) (h1 : S.1 = S'.1) (h2 : S.2.1 = S'.2.1) (h3 : ∀ p, p < 41 → S.2.2 p = S'.2.2 p) : po_At ca hp po L S' := ⟨by rw [← h1, ← h2]; exact h.1, h.2.1, fun p hp0 => by rw [← h3 p hp0]; exact h.2.2 p hp0⟩
/-- the links of a newcomer at place q with parents pa, children ch: place p behind the i-th step -/
def tx_ln (q : Nat) (pa ch : Int64) (p : Nat) (t : tx_T) : tx_T := (t.1, t.2.1, t.2.2.1, t.2.2.2.1, t.2.2.2.2.1, t.2.2.2.2.2.1, (if bz_t ch p = true then t.2.2.2.2.2.2.1 ||| bz_b q else t.2.2.2.2.2.2.1), (if bz_t pa p = true then t.2.2.2.2.2.2.2 ||| bz_b q else t.2.2.2.2.2.2.2))
def cl_lnI (S : po_S) (q : Nat) (pa ch : Int64) (i : Nat) : po_S := (S.1, S.2.1, fun p => if p < i then tx_ln q pa ch p (S.2.2 p) else S.2.2 p)
/-- the newcomer's place written: name, keys, links, coming -/
def cl_seat (S : po_S) (q : Nat) (m : nm_T) (v : kv_T) : po_S := (S.1 ||| bz_b q, S.2.1 + nI 1, va_up S.2.2 q (m, v, (S.2.2 q).2.2.1, (S.2.2 q).2.2.2.1, (S.2.2 q).2.2.2.2.1, S.2.1 + nI 1, 0, 0))
end PoolPics2
section Settle
/-- the stages of settle at place q, with the name m and the keys v -/
def cl_st2 (S : po_S) (q : Nat) (m : nm_T) (v : kv_T) : po_S := (S.1, S.2.1, va_up S.2.2 q (m, kv_cp v (S.2.2 q).2.1, (S.2.2 q).2.2))
def tx_pa (t : tx_T) (x : Int64) : tx_T := (t.1, t.2.1, t.2.2.1, t.2.2.2.1, t.2.2.2.2.1, t.2.2.2.2.2.1, x, t.2.2.2.2.2.2.2)
def tx_ch (t : tx_T) (x : Int64) : tx_T := (t.1, t.2.1, t.2.2.1, t.2.2.2.1, t.2.2.2.2.1, t.2.2.2.2.2.1, t.2.2.2.2.2.2.1, x)
def tx_co (t : tx_T) (x : Int32) : tx_T := (t.1, t.2.1, t.2.2.1, t.2.2.2.1, t.2.2.2.2.1, x, t.2.2.2.2.2.2.1, t.2.2.2.2.2.2.2)
def cl_setq (S : po_S) (q : Nat) (t : tx_T) : po_S := (S.1, S.2.1, va_up S.2.2 q t)
def cl_st3 (S : po_S) (q : Nat) (m : nm_T) (v : kv_T) : po_S := cl_setq (cl_st2 S q m v) q (tx_pa ((cl_st2 S q m v).2.2 q) (cl_named (cl_st2 S q m v) v))
def cl_st4 (S : po_S) (q : Nat) (m : nm_T) (v : kv_T) : po_S := cl_setq (cl_st3 S q m v) q (tx_ch ((cl_st3 S q m v).2.2 q) (cl_spenders (cl_st3 S q m v) m))
def cl_st5 (S : po_S) (q : Nat) (m : nm_T) (v : kv_T) : po_S := ((cl_st4 S q m v).1, (cl_st4 S q m v).2.1 + nI 1, (cl_st4 S q m v).2.2)
def cl_st6 (S : po_S) (q : Nat) (m : nm_T) (v : kv_T) : po_S := cl_setq (cl_st5 S q m v) q (tx_co ((cl_st5 S q m v).2.2 q) (cl_st5 S q m v).2.1)
def cl_st7 (S : po_S) (q : Nat) (m : nm_T) (v : kv_T) : po_S := ((cl_st6 S q m v).1 ||| bz_b q, (cl_st6 S q m v).2.1, (cl_st6 S q m v).2.2)
def cl_st (S : po_S) (q : Nat) (m : nm_T) (v : kv_T) : po_S := cl_lnI (cl_st7 S q m v) q (cl_named (cl_st2 S q m v) v) (cl_spenders (cl_st3 S q m v) m) 41
theorem lp_bits {P : Nat → Bool} : ∀ (m i : Nat) (a : Int64) (q : Nat), i + m ≤ 64 → bz_t (lp_fold (fun p a => if P p = true then a ||| bz_b p else a) m i a) q = (bz_t a q || (decide (i ≤ q ∧ q < i + m) && P q)) := by
  intro m
  induction m with
  | zero =>
    intro i a q _
    have : ¬ (i ≤ q ∧ q < i + 0) := by omega
    show bz_t a q = _
    rw [decide_eq_false this, Bool.false_and, Bool.or_false]
  | succ m ih =>
    intro i a q h
    show bz_t (lp_fold _ m (i + 1) (if P i = true then a ||| bz_b i else a)) q = _
    rw [ih (i + 1) _ q (by omega)]
    by_cases hP : P i = true
    · rw [if_pos hP, bz_or, bz_bit (by omega)]
      by_cases e : i = q
      · subst e
        simp [hP]
      · have h1 : decide (i + 1 ≤ q ∧ q < i + 1 + m) = decide (i ≤ q ∧ q < i + (m + 1)) := decide_eq_decide.mpr (by omega)
        rw [h1, decide_eq_false e, Bool.or_false]
    · rw [if_neg hP]
      by_cases e : i = q
      · subst e
        simp [bt_f hP]
      · have h1 : decide (i + 1 ≤ q ∧ q < i + 1 + m) = decide (i ≤ q ∧ q < i + (m + 1)) := decide_eq_decide.mpr (by omega)
        rw [h1]
theorem cl_named_bit (S : po_S) (v : kv_T) (q : Nat) : bz_t (cl_named S v) q = (decide (q < 41) && (bz_t S.1 q && kv_bears v (S.2.2 q).1)) := by
  unfold cl_named
  rw [lp_bits (P := fun p => bz_t S.1 p && kv_bears v (S.2.2 p).1) 41 0 0 q (by decide), bz_0, Bool.false_or]
  congr 1
  exact decide_eq_decide.mpr (by omega)
theorem cl_spenders_bit (S : po_S) (m : nm_T) (q : Nat) : bz_t (cl_spenders S m) q = (decide (q < 41) && (bz_t S.1 q && kv_bears (S.2.2 q).2.1 m)) := by
  unfold cl_spenders
  rw [lp_bits (P := fun p => bz_t S.1 p && kv_bears (S.2.2 p).2.1 m) 41 0 0 q (by decide), bz_0, Bool.false_or]
  congr 1
  exact decide_eq_decide.mpr (by omega)
theorem cl_pa_q {S : po_S} {q : Nat} {m : nm_T} {v : kv_T} (h : bz_t S.1 q = false) : bz_t (cl_named (cl_st2 S q m v) v) q = false := by
  rw [cl_named_bit, show (cl_st2 S q m v).1 = S.1 from rfl, h, Bool.false_and, Bool.and_false]
theorem cl_ch_q {S : po_S} {q : Nat} {m : nm_T} {v : kv_T} (h : bz_t S.1 q = false) : bz_t (cl_spenders (cl_st3 S q m v) m) q = false := by
  rw [cl_spenders_bit, show (cl_st3 S q m v).1 = S.1 from rfl, h, Bool.false_and, Bool.and_false]
/-- the newcomer's own links while the others' are written -/
theorem cl_lnI_q {S : po_S} {q : Nat} {pa ch : Int64} (h1 : bz_t pa q = false) (h2 : bz_t ch q = false) (i : Nat) : (cl_lnI S q pa ch i).2.2 q = S.2.2 q := by
  show (if q < i then tx_ln q pa ch q (S.2.2 q) else S.2.2 q) = S.2.2 q
  by_cases h : q < i
  · rw [if_pos h]
    unfold tx_ln
    rw [h1, h2, if_neg Bool.false_ne_true, if_neg Bool.false_ne_true]
  · rw [if_neg h]
theorem cl_st7_q {S : po_S} {q : Nat} {m : nm_T} {v : kv_T} : ((cl_st7 S q m v).2.2 q).2.2.2.2.2.2.1 = cl_named (cl_st2 S q m v) v ∧ ((cl_st7 S q m v).2.2 q).2.2.2.2.2.2.2 = cl_spenders (cl_st3 S q m v) m := by
  have e6 : (cl_st7 S q m v).2.2 q = tx_co ((cl_st5 S q m v).2.2 q) (cl_st5 S q m v).2.1 := va_up_s
  have e4 : (cl_st5 S q m v).2.2 q = tx_ch ((cl_st3 S q m v).2.2 q) (cl_spenders (cl_st3 S q m v) m) := va_up_s
  have e3 : (cl_st3 S q m v).2.2 q = tx_pa ((cl_st2 S q m v).2.2 q) (cl_named (cl_st2 S q m v) v) := va_up_s
  rw [e6, e4, e3]
  exact ⟨rfl, rfl⟩
theorem cl_rmI_0 {S : po_S} {g : Int64} {p : Nat} : S.2.2 p = (cl_rmI S g 0).2.2 p := (if_neg (Nat.not_lt_zero p) : (if p < 0 then tx_rm g (S.2.2 p) else S.2.2 p) = S.2.2 p).symm
theorem cl_lnI_0 {S : po_S} {q : Nat} {pa ch : Int64} {p : Nat} : S.2.2 p = (cl_lnI S q pa ch 0).2.2 p := (if_neg (Nat.not_lt_zero p) : (if p < 0 then tx_ln q pa ch p (S.2.2 p) else S.2.2 p) = S.2.2 p).symm
end Settle
section Fresh
variable {ca : Nat → ClassId} {hp : hp_T}
theorem hp_nn {a b : Nat} {x : va_E} (hb : hp b = some x) (ha : hp a = none) : b ≠ a := fun e => by
  subst e
  rw [hb] at ha
  cases ha
theorem hp_fu {a b : Nat} {x : va_E} (h : hp_up hp a x b = none) : b ≠ a ∧ hp b = none := by
  by_cases e : b = a
  · subst e
    rw [hp_us] at h
    cases h
  · rw [hp_un e] at h
    exact ⟨e, h⟩
theorem hp_nu {a b : Nat} {x : va_E} (h : hp b ≠ none) : hp_up hp a x b ≠ none := by
  by_cases e : b = a
  · subst e
    rw [hp_us]
    intro z
    cases z
  · rw [hp_un e]
    exact h
/-- the cells that stood, but a, stay -/
def hp_ke (a : Nat) (hp hp1 : hp_T) : Prop := ∀ b, hp b ≠ none → b ≠ a → hp1 b = hp b
theorem hp_ke_rf {a : Nat} : hp_ke a hp hp := fun _ _ _ => rfl
theorem hp_ke_new {a q : Nat} {hp1 : hp_T} {x : va_E} (h : hp_ke a hp hp1) (hq : hp q = none) : hp_ke a hp (hp_up hp1 q x) := fun b hb ha => by
  rw [hp_un (fun e => hb (by rw [e]; exact hq))]
  exact h b hb ha
theorem hp_ke_own {a : Nat} {hp1 : hp_T} {x : va_E} (h : hp_ke a hp hp1) : hp_ke a hp (hp_up hp1 a x) := fun b hb ha => by
  rw [hp_un ha]
  exact h b hb ha
/-- what a callee that owns c (new to us) keeps -/
theorem hp_ke_tr {a c : Nat} {hp1 hp2 : hp_T} (h : hp_ke a hp hp1) (h2 : hp_ke c hp1 hp2) (hc : hp c = none ∨ c = a) : hp_ke a hp hp2 := fun b hb ha => by
  have e := h b hb ha
  rw [h2 b (by rw [e]; exact hb) (fun z => by
    subst z
    rcases hc with hc | hc
    · exact hb hc
    · exact ha hc)]
  exact e
theorem hp_ke_none {a b : Nat} {hp1 : hp_T} (h : hp_ke a hp hp1) (hb : hp1 b = none) (ha : b ≠ a) : hp b = none := by
  cases hq : hp b with
  | none => rfl
  | some y =>
    have := h b (by rw [hq]; intro z; cases z) ha
    rw [hb, hq] at this
    cases this
abbrev kv_0 : kv_T := (0, fun _ => 0, fun _ => 0)
abbrev nm_0 : nm_T := (0, 0, 0, 0)
abbrev tx_0 : tx_T := (nm_0, kv_0, 0, 0, 0, 0, 0, 0)
theorem kx_put_ke {k w i : Nat} {v : kv_T} (hw : hp w = none) (hi : hp i = none) : hp_ke k hp (kx_put ca hp k w i v) := hp_ke_own (hp_ke_new (hp_ke_new hp_ke_rf hw) hi)
end Fresh
end
section
def wl_Keys_clear : List Cond := [.fieldLink "PoolDesk$Keys" 19 "PoolDesk$Keys" "held" "I"]
theorem wi_Keys_clear : ∀ w ∈ wl_Keys_clear, w ∈ ma_tbl := by decide +kernel
def wl_Keys_add : List Cond := [.fieldLink "PoolDesk$Keys" 19 "PoolDesk$Keys" "held" "I", .methodLink "PoolDesk$Keys" 23 y_Keys_contains, .instanceMethod y_Keys_contains, .selects "PoolDesk$Keys" y_Keys_contains y_Keys_contains, .fieldLink "PoolDesk$Keys" 9 "PoolDesk$Keys" "words" "[J", .methodLink "PoolDesk$Keys" 27 y_Name_write, .instanceMethod y_Name_write, .selects "PoolDesk$Name" y_Name_write y_Name_write, .fieldLink "PoolDesk$Keys" 15 "PoolDesk$Keys" "indexes" "[I"]
theorem wi_Keys_add : ∀ w ∈ wl_Keys_add, w ∈ ma_tbl := by decide +kernel
def wl_Keys_copy : List Cond := [.fieldLink "PoolDesk$Keys" 9 "PoolDesk$Keys" "words" "[J", .methodLink "PoolDesk$Keys" 33 arraycopyName, .native arraycopyName, .static arraycopyName, .initialized "java/lang/System", .fieldLink "PoolDesk$Keys" 15 "PoolDesk$Keys" "indexes" "[I", .fieldLink "PoolDesk$Keys" 19 "PoolDesk$Keys" "held" "I"]
theorem wi_Keys_copy : ∀ w ∈ wl_Keys_copy, w ∈ ma_tbl := by decide +kernel
def wl_Tx_describe : List Cond := [.fieldLink "PoolDesk$Transaction" 23 "PoolDesk$Transaction" "fee" "J", .fieldLink "PoolDesk$Transaction" 27 "PoolDesk$Transaction" "size" "I", .fieldLink "PoolDesk$Transaction" 31 "PoolDesk$Transaction" "outputs" "I"]
theorem wi_Tx_describe : ∀ w ∈ wl_Tx_describe, w ∈ ma_tbl := by decide +kernel
def wl_Row_clear : List Cond := [.fieldLink "PoolDesk$Row" 15 "PoolDesk$Row" "length" "I"]
theorem wi_Row_clear : ∀ w ∈ wl_Row_clear, w ∈ ma_tbl := by decide +kernel
def wl_Row_add : List Cond := [.fieldLink "PoolDesk$Row" 15 "PoolDesk$Row" "length" "I", .fieldLink "PoolDesk$Row" 9 "PoolDesk$Row" "words" "[J", .methodLink "PoolDesk$Row" 19 y_Name_write, .instanceMethod y_Name_write, .selects "PoolDesk$Name" y_Name_write y_Name_write]
theorem wi_Row_add : ∀ w ∈ wl_Row_add, w ∈ ma_tbl := by decide +kernel
def wl_Pool_remove : List Cond := [.fieldLink "PoolDesk$Pool" 11 "PoolDesk$Pool" "places" "[LPoolDesk$Transaction;", .fieldLink "PoolDesk$Pool" 117 "PoolDesk$Transaction" "parents" "J", .constantLong "PoolDesk$Pool" 46 (-1), .fieldLink "PoolDesk$Pool" 120 "PoolDesk$Transaction" "children" "J", .fieldLink "PoolDesk$Pool" 18 "PoolDesk$Pool" "present" "J"]
theorem wi_Pool_remove : ∀ w ∈ wl_Pool_remove, w ∈ ma_tbl := by decide +kernel
def wl_Pool_settle : List Cond := [.fieldLink "PoolDesk$Pool" 117 "PoolDesk$Transaction" "parents" "J", .static y_Desk_has, .fieldLink "PoolDesk$Pool" 120 "PoolDesk$Transaction" "children" "J", .fieldLink "PoolDesk$Pool" 11 "PoolDesk$Pool" "places" "[LPoolDesk$Transaction;", .static y_Desk_bit, .fieldLink "PoolDesk$Pool" 26 "PoolDesk$Transaction" "ownName" "LPoolDesk$Name;", .fieldLink "PoolDesk$Pool" 97 "PoolDesk$Name" "a" "J", .fieldLink "PoolDesk$Pool" 100 "PoolDesk$Name" "b" "J", .fieldLink "PoolDesk$Pool" 103 "PoolDesk$Name" "c" "J", .fieldLink "PoolDesk$Pool" 106 "PoolDesk$Name" "d" "J", .methodLink "PoolDesk$Pool" 109 y_Name_set, .instanceMethod y_Name_set, .selects "PoolDesk$Name" y_Name_set y_Name_set, .fieldLink "PoolDesk$Pool" 36 "PoolDesk$Transaction" "keys" "LPoolDesk$Keys;", .methodLink "PoolDesk$Pool" 113 y_Keys_copy, .instanceMethod y_Keys_copy, .selects "PoolDesk$Keys" y_Keys_copy y_Keys_copy, .methodLink "PoolDesk$Pool" 89 y_Pool_named, .instanceMethod y_Pool_named, .selects "PoolDesk$Pool" y_Pool_named y_Pool_named, .methodLink "PoolDesk$Pool" 81 y_Pool_spendersOf, .instanceMethod y_Pool_spendersOf, .selects "PoolDesk$Pool" y_Pool_spendersOf y_Pool_spendersOf, .fieldLink "PoolDesk$Pool" 123 "PoolDesk$Pool" "came" "I", .fieldLink "PoolDesk$Pool" 126 "PoolDesk$Transaction" "coming" "I", .fieldLink "PoolDesk$Pool" 18 "PoolDesk$Pool" "present" "J"]
theorem wi_Pool_settle : ∀ w ∈ wl_Pool_settle, w ∈ ma_tbl := by decide +kernel
set_option maxHeartbeats 4000000 in
set_option maxRecDepth 100000 in
theorem c_Keys_clear {l : Launch} {D : va_G} {ca : Nat → ClassId} {hp : hp_T} {d : Nat} {k w i : Nat} {v : kv_T} (h : kx_At ca hp k w i v) : ma_V l D ca ma_T M_Keys_clear d 0 0 hp (ma_qv (fun hp1 => hp1 = hp_up hp k (.inr (1, [.ref w, .ref i, .int (nI 0)])))) 0 (lv_args 0 [.ref k]) [] := by
  change ma_V l D ca ma_T M_Keys_clear d 0 0 hp (ma_qv (fun hp1 => hp1 = hp_up hp k (.inr (1, [.ref w, .ref i, .int (nI 0)])))) 0 [(0, .ref k)] []
  refine rv_aload_n d_Keys_clear_0 rfl 0 rfl ?_
  refine rv_iconst (v := nI 0) d_Keys_clear_1 (by decide) ?_
  refine rv_put (fs' := [.ref w, .ref i, .int (nI 0)]) ka_Keys h.1 rfl 2 (by decide) (wi_Keys_clear _ (List.mem_of_getElem? (i := 0) rfl)) rfl rfl rfl (Nat.le_of_ble_eq_true rfl) rfl d_Keys_clear_2
    (fun hp9 ehp9 => ?_)
  have hf9_0 : hp9 k = some (.inr (1, [.ref w, .ref i, .int (nI 0)])) := by rw [ehp9]; exact hp_us
  have hf9_1 : hp9 w = some (.inl (ca 1, 32, .inr (.inl v.2.1))) := by rw [ehp9, hp_un (hp_ne h.2.1 h.1 (fun q => by first | cases q | simp at q))]; exact h.2.1
  have hf9_2 : hp9 i = some (.inl (ca 0, 8, .inl v.2.2)) := by rw [ehp9, hp_un (hp_ne h.2.2.1 h.1 (fun q => by first | cases q | simp at q))]; exact h.2.2.1
  exact rv_vreturn ⟨rfl, ehp9⟩ d_Keys_clear_5 rfl
set_option maxHeartbeats 4000000 in
set_option maxRecDepth 100000 in
theorem c_Keys_add {l : Launch} {D : va_G} {ca : Nat → ClassId} {hp : hp_T} {d : Nat} {k w i : Nat} {v : kv_T} (h : kx_At ca hp k w i v) {b : Nat} {m0 : nm_T} (hb : hp b = some (.inr (0, nm_F m0))) {x : Int32} : ma_V l D ca ma_T M_Keys_add (d + 2) 0 0 hp (ma_qi (ma_eq (bI (kv_may v m0 x)) (if kv_may v m0 x = true then kx_put ca hp k w i (kv_add v m0 x) else hp))) 0 (lv_args 0 [.ref k, .ref b, .int x]) [] := by
  change ma_V l D ca ma_T M_Keys_add (d + 2) 0 0 hp (ma_qi (ma_eq (bI (kv_may v m0 x)) (if kv_may v m0 x = true then kx_put ca hp k w i (kv_add v m0 x) else hp))) 0 [(0, .ref k), (1, .ref b), (2, .int x)] []
  have h8 := h.2.2.2
  refine rv_aload_n d_Keys_add_0 rfl 0 rfl ?_
  refine rv_get ka_Keys h.1 rfl 2 (by decide) (wi_Keys_add _ (List.mem_of_getElem? (i := 0) rfl)) rfl d_Keys_add_1 ?_
  refine rv_bipush (v := nI 8) d_Keys_add_4 (by decide) ?_
  refine rv_icmp_ge (tgt := 18) d_Keys_add_6 (by decide) (fun c_6 => ?_) (fun c_6 => ?_)
  · have e : kv_may v m0 x = false := by unfold kv_may; rw [decide_eq_false (fun z => nI_ge z (by decide) c_6)]; rfl
    refine rv_iconst (v := nI 0) d_Keys_add_18 (by decide) ?_
    exact rv_ireturn ⟨_, rfl, by rw [e]; rfl, by rw [e]; rfl⟩ d_Keys_add_19 rfl (bI_nar false)
  · have l8 : v.1 < 8 := Nat.not_le.mp (fun z => c_6 (nI_le z (by omega)))
    refine rv_aload_n d_Keys_add_9 rfl 0 rfl ?_
    refine rv_aload_n d_Keys_add_10 rfl 1 rfl ?_
    refine rv_iload_n d_Keys_add_11 rfl 2 rfl ?_
    refine rv_callV (kc' := 0) (ks' := 0) (kc1 := 0) (ks1 := 0) (As := [.ref b, .int x]) (rest := []) h.1 rfl (ck_has h hb) ok_Keys_contains (wi_Keys_add _ (List.mem_of_getElem? (i := 1) rfl)) (wi_Keys_add _ (List.mem_of_getElem? (i := 2) rfl)) (wi_Keys_add _ (List.mem_of_getElem? (i := 3) rfl)) rfl rfl (Nat.le_of_ble_eq_true rfl) (Nat.le_of_ble_eq_true rfl) ⟨Nat.le_of_ble_eq_true rfl, Nat.le_of_ble_eq_true rfl⟩ d_Keys_add_12 (rv_kie ?_)
    refine rv_if_eq (tgt := 20) d_Keys_add_15 (by decide) (fun c_15 => ?_) (fun c_15 => ?_)
    · have e : kv_may v m0 x = true := by unfold kv_may; rw [bI_0.mp c_15, decide_eq_true l8]; rfl
      refine rv_aload_n d_Keys_add_20 rfl 1 rfl ?_
      refine rv_aload_n d_Keys_add_21 rfl 0 rfl ?_
      refine rv_get ka_Keys h.1 rfl 0 (by decide) (wi_Keys_add _ (List.mem_of_getElem? (i := 4) rfl)) rfl d_Keys_add_22 ?_
      refine rv_aload_n d_Keys_add_25 rfl 0 rfl ?_
      refine rv_get ka_Keys h.1 rfl 2 (by decide) (wi_Keys_add _ (List.mem_of_getElem? (i := 0) rfl)) rfl d_Keys_add_26 ?_
      refine rv_iconst (v := nI 4) d_Keys_add_29 (by decide) ?_
      refine rv_imul d_Keys_add_30 ?_
      refine rv_eqi (pk_mul _ _) ?_
      refine rv_callV (kc' := 0) (ks' := 0) (kc1 := 0) (ks1 := 0) (As := [.ref w, .int (nI (v.1 * 4))]) (rest := []) hb rfl (c_Name_write hb h.2.1 (by decide) (by omega)) ok_Name_write (wi_Keys_add _ (List.mem_of_getElem? (i := 5) rfl)) (wi_Keys_add _ (List.mem_of_getElem? (i := 6) rfl)) (wi_Keys_add _ (List.mem_of_getElem? (i := 7) rfl)) rfl rfl (Nat.le_of_ble_eq_true rfl) (Nat.le_of_ble_eq_true rfl) ⟨Nat.le_of_ble_eq_true rfl, Nat.le_of_ble_eq_true rfl⟩ d_Keys_add_31 (rv_kv (fun hp10 ehp10 => ?_))
      have hf10_0 : hp10 k = some (.inr (1, [.ref w, .ref i, .int (nI v.1)])) := by rw [ehp10, hp_un (hp_ne h.1 h.2.1 (fun q => by first | cases q | simp at q))]; exact h.1
      have hf10_1 : hp10 w = some (.inl (ca 1, 32, .inr (.inl (kx_w v.2.1 (v.1 * 4) m0)))) := by rw [ehp10]; exact hp_us
      have hf10_2 : hp10 i = some (.inl (ca 0, 8, .inl v.2.2)) := by rw [ehp10, hp_un (hp_ne h.2.2.1 h.2.1 (fun q => by first | cases q | simp at q))]; exact h.2.2.1
      have hf10_3 : hp10 b = some (.inr (0, [.long m0.1, .long m0.2.1, .long m0.2.2.1, .long m0.2.2.2])) := by rw [ehp10, hp_un (hp_ne hb h.2.1 (fun q => by first | cases q | simp at q))]; exact hb
      refine rv_aload_n d_Keys_add_34 rfl 0 rfl ?_
      refine rv_get ka_Keys hf10_0 rfl 1 (by decide) (wi_Keys_add _ (List.mem_of_getElem? (i := 8) rfl)) rfl d_Keys_add_35 ?_
      refine rv_aload_n d_Keys_add_38 rfl 0 rfl ?_
      refine rv_get ka_Keys hf10_0 rfl 2 (by decide) (wi_Keys_add _ (List.mem_of_getElem? (i := 0) rfl)) rfl d_Keys_add_39 ?_
      refine rv_iload_n d_Keys_add_42 rfl 2 rfl ?_
      refine rv_iast hf10_2 0 rfl (by omega) (by decide) d_Keys_add_43
        (fun hp11 ehp11 => ?_)
      have hf11_0 : hp11 k = some (.inr (1, [.ref w, .ref i, .int (nI v.1)])) := by rw [ehp11, hp_un (hp_ne hf10_0 hf10_2 (fun q => by first | cases q | simp at q))]; exact hf10_0
      have hf11_1 : hp11 w = some (.inl (ca 1, 32, .inr (.inl (kx_w v.2.1 (v.1 * 4) m0)))) := by rw [ehp11, hp_un (hp_ne hf10_1 hf10_2 (fun q => by first | cases q | simp at q))]; exact hf10_1
      have hf11_2 : hp11 i = some (.inl (ca 0, 8, .inl (upd v.2.2 v.1 x))) := by rw [ehp11]; exact hp_us
      have hf11_3 : hp11 b = some (.inr (0, [.long m0.1, .long m0.2.1, .long m0.2.2.1, .long m0.2.2.2])) := by rw [ehp11, hp_un (hp_ne hf10_3 hf10_2 (fun q => by first | cases q | simp at q))]; exact hf10_3
      refine rv_aload_n d_Keys_add_44 rfl 0 rfl ?_
      refine rv_dup d_Keys_add_45 rfl ?_
      refine rv_get ka_Keys hf11_0 rfl 2 (by decide) (wi_Keys_add _ (List.mem_of_getElem? (i := 0) rfl)) rfl d_Keys_add_46 ?_
      refine rv_iconst (v := nI 1) d_Keys_add_49 (by decide) ?_
      refine rv_iadd d_Keys_add_50 ?_
      refine rv_eqi (nI_add _ _) ?_
      refine rv_put (fs' := [.ref w, .ref i, .int (nI (v.1 + 1))]) ka_Keys hf11_0 rfl 2 (by decide) (wi_Keys_add _ (List.mem_of_getElem? (i := 0) rfl)) rfl rfl rfl (Nat.le_of_ble_eq_true rfl) rfl d_Keys_add_51
        (fun hp12 ehp12 => ?_)
      have hf12_0 : hp12 k = some (.inr (1, [.ref w, .ref i, .int (nI (v.1 + 1))])) := by rw [ehp12]; exact hp_us
      have hf12_1 : hp12 w = some (.inl (ca 1, 32, .inr (.inl (kx_w v.2.1 (v.1 * 4) m0)))) := by rw [ehp12, hp_un (hp_ne hf11_1 hf11_0 (fun q => by first | cases q | simp at q))]; exact hf11_1
      have hf12_2 : hp12 i = some (.inl (ca 0, 8, .inl (upd v.2.2 v.1 x))) := by rw [ehp12, hp_un (hp_ne hf11_2 hf11_0 (fun q => by first | cases q | simp at q))]; exact hf11_2
      have hf12_3 : hp12 b = some (.inr (0, [.long m0.1, .long m0.2.1, .long m0.2.2.1, .long m0.2.2.2])) := by rw [ehp12, hp_un (hp_ne hf11_3 hf11_0 (fun q => by first | cases q | simp at q))]; exact hf11_3
      refine rv_iconst (v := nI 1) d_Keys_add_54 (by decide) ?_
      exact rv_ireturn ⟨_, rfl, by rw [e]; rfl, by rw [if_pos e, ehp12, ehp11, ehp10]; rfl⟩ d_Keys_add_55 rfl (bI_nar true)
    · have e : kv_may v m0 x = false := by unfold kv_may; rw [bI_n.mp c_15]; simp
      refine rv_iconst (v := nI 0) d_Keys_add_18 (by decide) ?_
      exact rv_ireturn ⟨_, rfl, by rw [e]; rfl, by rw [e]; rfl⟩ d_Keys_add_19 rfl (bI_nar false)
set_option maxHeartbeats 4000000 in
set_option maxRecDepth 100000 in
theorem c_Keys_copy {l : Launch} {D : va_G} {ca : Nat → ClassId} {hp : hp_T} {d : Nat} {k w i : Nat} {v : kv_T} (h : kx_At ca hp k w i v) {k2 w2 i2 : Nat} {u : kv_T} (h2 : kx_At ca hp k2 w2 i2 u) (hne : k2 ≠ k ∧ w2 ≠ w ∧ i2 ≠ i) : ma_V l D ca ma_T M_Keys_copy (d + 1) 0 0 hp (ma_qv (fun hp1 => hp1 = kx_put ca hp k w i (kv_cp u v))) 0 (lv_args 0 [.ref k, .ref k2]) [] := by
  change ma_V l D ca ma_T M_Keys_copy (d + 1) 0 0 hp (ma_qv (fun hp1 => hp1 = kx_put ca hp k w i (kv_cp u v))) 0 [(0, .ref k), (1, .ref k2)] []
  refine rv_aload_n d_Keys_copy_0 rfl 1 rfl ?_
  refine rv_get ka_Keys h2.1 rfl 0 (by decide) (wi_Keys_copy _ (List.mem_of_getElem? (i := 0) rfl)) rfl d_Keys_copy_1 ?_
  refine rv_iconst (v := nI 0) d_Keys_copy_4 (by decide) ?_
  refine rv_aload_n d_Keys_copy_5 rfl 0 rfl ?_
  refine rv_get ka_Keys h.1 rfl 0 (by decide) (wi_Keys_copy _ (List.mem_of_getElem? (i := 0) rfl)) rfl d_Keys_copy_6 ?_
  refine rv_iconst (v := nI 0) d_Keys_copy_9 (by decide) ?_
  refine rv_bipush (v := nI 32) d_Keys_copy_10 (by decide) ?_
  refine rv_copyl (sp := 0) (dp := 0) (n := 32) h2.2.1 h.2.1 1 rfl (wi_Keys_copy _ (List.mem_of_getElem? (i := 1) rfl)) (wi_Keys_copy _ (List.mem_of_getElem? (i := 2) rfl)) (wi_Keys_copy _ (List.mem_of_getElem? (i := 3) rfl)) (wi_Keys_copy _ (List.mem_of_getElem? (i := 4) rfl)) (by decide) (by decide) (by decide) (by decide) (by decide +kernel) d_Keys_copy_12
    (fun hp13 ehp13 => ?_)
  have hf13_0 : hp13 k = some (.inr (1, [.ref w, .ref i, .int (nI v.1)])) := by rw [ehp13, hp_un (hp_ne h.1 h.2.1 (fun q => by first | cases q | simp at q))]; exact h.1
  have hf13_1 : hp13 w = some (.inl (ca 1, 32, .inr (.inl (va_cpy u.2.1 v.2.1 0 0 32)))) := by rw [ehp13]; exact hp_us
  have hf13_2 : hp13 i = some (.inl (ca 0, 8, .inl v.2.2)) := by rw [ehp13, hp_un (hp_ne h.2.2.1 h.2.1 (fun q => by first | cases q | simp at q))]; exact h.2.2.1
  have hf13_3 : hp13 k2 = some (.inr (1, [.ref w2, .ref i2, .int (nI u.1)])) := by rw [ehp13, hp_un (hp_ne h2.1 h.2.1 (fun q => by first | cases q | simp at q))]; exact h2.1
  have hf13_4 : hp13 w2 = some (.inl (ca 1, 32, .inr (.inl u.2.1))) := by rw [ehp13, hp_un (hne.2.1)]; exact h2.2.1
  have hf13_5 : hp13 i2 = some (.inl (ca 0, 8, .inl u.2.2)) := by rw [ehp13, hp_un (hp_ne h2.2.2.1 h.2.1 (fun q => by first | cases q | simp at q))]; exact h2.2.2.1
  refine rv_aload_n d_Keys_copy_15 rfl 1 rfl ?_
  refine rv_get ka_Keys hf13_3 rfl 1 (by decide) (wi_Keys_copy _ (List.mem_of_getElem? (i := 5) rfl)) rfl d_Keys_copy_16 ?_
  refine rv_iconst (v := nI 0) d_Keys_copy_19 (by decide) ?_
  refine rv_aload_n d_Keys_copy_20 rfl 0 rfl ?_
  refine rv_get ka_Keys hf13_0 rfl 1 (by decide) (wi_Keys_copy _ (List.mem_of_getElem? (i := 5) rfl)) rfl d_Keys_copy_21 ?_
  refine rv_iconst (v := nI 0) d_Keys_copy_24 (by decide) ?_
  refine rv_bipush (v := nI 8) d_Keys_copy_25 (by decide) ?_
  refine rv_copyi (sp := 0) (dp := 0) (n := 8) hf13_5 hf13_2 0 rfl (wi_Keys_copy _ (List.mem_of_getElem? (i := 1) rfl)) (wi_Keys_copy _ (List.mem_of_getElem? (i := 2) rfl)) (wi_Keys_copy _ (List.mem_of_getElem? (i := 3) rfl)) (wi_Keys_copy _ (List.mem_of_getElem? (i := 4) rfl)) (by decide) (by decide) (by decide) (by decide) (by decide +kernel) d_Keys_copy_27
    (fun hp14 ehp14 => ?_)
  have hf14_0 : hp14 k = some (.inr (1, [.ref w, .ref i, .int (nI v.1)])) := by rw [ehp14, hp_un (hp_ne hf13_0 hf13_2 (fun q => by first | cases q | simp at q))]; exact hf13_0
  have hf14_1 : hp14 w = some (.inl (ca 1, 32, .inr (.inl (va_cpy u.2.1 v.2.1 0 0 32)))) := by rw [ehp14, hp_un (hp_ne hf13_1 hf13_2 (fun q => by first | cases q | simp at q))]; exact hf13_1
  have hf14_2 : hp14 i = some (.inl (ca 0, 8, .inl (va_cpy u.2.2 v.2.2 0 0 8))) := by rw [ehp14]; exact hp_us
  have hf14_3 : hp14 k2 = some (.inr (1, [.ref w2, .ref i2, .int (nI u.1)])) := by rw [ehp14, hp_un (hp_ne hf13_3 hf13_2 (fun q => by first | cases q | simp at q))]; exact hf13_3
  have hf14_4 : hp14 w2 = some (.inl (ca 1, 32, .inr (.inl u.2.1))) := by rw [ehp14, hp_un (hp_ne hf13_4 hf13_2 (fun q => by first | cases q | simp at q))]; exact hf13_4
  have hf14_5 : hp14 i2 = some (.inl (ca 0, 8, .inl u.2.2)) := by rw [ehp14, hp_un (hne.2.2)]; exact hf13_5
  refine rv_aload_n d_Keys_copy_30 rfl 0 rfl ?_
  refine rv_aload_n d_Keys_copy_31 rfl 1 rfl ?_
  refine rv_get ka_Keys hf14_3 rfl 2 (by decide) (wi_Keys_copy _ (List.mem_of_getElem? (i := 6) rfl)) rfl d_Keys_copy_32 ?_
  refine rv_put (fs' := [.ref w, .ref i, .int (nI u.1)]) ka_Keys hf14_0 rfl 2 (by decide) (wi_Keys_copy _ (List.mem_of_getElem? (i := 6) rfl)) rfl rfl rfl (Nat.le_of_ble_eq_true rfl) rfl d_Keys_copy_35
    (fun hp15 ehp15 => ?_)
  have hf15_0 : hp15 k = some (.inr (1, [.ref w, .ref i, .int (nI u.1)])) := by rw [ehp15]; exact hp_us
  have hf15_1 : hp15 w = some (.inl (ca 1, 32, .inr (.inl (va_cpy u.2.1 v.2.1 0 0 32)))) := by rw [ehp15, hp_un (hp_ne hf14_1 hf14_0 (fun q => by first | cases q | simp at q))]; exact hf14_1
  have hf15_2 : hp15 i = some (.inl (ca 0, 8, .inl (va_cpy u.2.2 v.2.2 0 0 8))) := by rw [ehp15, hp_un (hp_ne hf14_2 hf14_0 (fun q => by first | cases q | simp at q))]; exact hf14_2
  have hf15_3 : hp15 k2 = some (.inr (1, [.ref w2, .ref i2, .int (nI u.1)])) := by rw [ehp15, hp_un (hne.1)]; exact hf14_3
  have hf15_4 : hp15 w2 = some (.inl (ca 1, 32, .inr (.inl u.2.1))) := by rw [ehp15, hp_un (hp_ne hf14_4 hf14_0 (fun q => by first | cases q | simp at q))]; exact hf14_4
  have hf15_5 : hp15 i2 = some (.inl (ca 0, 8, .inl u.2.2)) := by rw [ehp15, hp_un (hp_ne hf14_5 hf14_0 (fun q => by first | cases q | simp at q))]; exact hf14_5
  refine rv_vreturn ⟨rfl, ?_⟩ d_Keys_copy_38 rfl
  rw [ehp15, ehp14, ehp13]
  rfl
set_option maxHeartbeats 4000000 in
set_option maxRecDepth 100000 in
theorem c_Tx_describe {l : Launch} {D : va_G} {ca : Nat → ClassId} {hp : hp_T} {d : Nat} {a p : Nat} {L : po_L} {t : tx_T} {f : Int64} {z o : Int32} (h : hp a = some (.inr (2, tx_F L p t))) : ma_V l D ca ma_T M_Tx_describe d 0 0 hp (ma_qv (fun hp1 => hp1 = hp_up hp a (.inr (2, tx_F L p (t.1, t.2.1, f, z, o, t.2.2.2.2.2.1, t.2.2.2.2.2.2.1, t.2.2.2.2.2.2.2))))) 0 (lv_args 0 [.ref a, .long f, .int z, .int o]) [] := by
  change ma_V l D ca ma_T M_Tx_describe d 0 0 hp (ma_qv (fun hp1 => hp1 = hp_up hp a (.inr (2, tx_F L p (t.1, t.2.1, f, z, o, t.2.2.2.2.2.1, t.2.2.2.2.2.2.1, t.2.2.2.2.2.2.2))))) 0 [(0, .ref a), (1, .long f), (3, .int z), (4, .int o)] []
  refine rv_aload_n d_Tx_describe_0 rfl 0 rfl ?_
  refine rv_lload_n d_Tx_describe_1 rfl 1 rfl ?_
  refine rv_put (fs' := [.ref (L.2.2.1 p), .ref (L.2.2.2.1 p), .long f, .int t.2.2.2.1, .int t.2.2.2.2.1, .int t.2.2.2.2.2.1, .long t.2.2.2.2.2.2.1, .long t.2.2.2.2.2.2.2]) ka_Tx h rfl 2 (by decide) (wi_Tx_describe _ (List.mem_of_getElem? (i := 0) rfl)) rfl rfl rfl (Nat.le_of_ble_eq_true rfl) rfl d_Tx_describe_2
    (fun hp16 ehp16 => ?_)
  have hf16_0 : hp16 a = some (.inr (2, [.ref (L.2.2.1 p), .ref (L.2.2.2.1 p), .long f, .int t.2.2.2.1, .int t.2.2.2.2.1, .int t.2.2.2.2.2.1, .long t.2.2.2.2.2.2.1, .long t.2.2.2.2.2.2.2])) := by rw [ehp16]; exact hp_us
  refine rv_aload_n d_Tx_describe_5 rfl 0 rfl ?_
  refine rv_iload_n d_Tx_describe_6 rfl 2 rfl ?_
  refine rv_put (fs' := [.ref (L.2.2.1 p), .ref (L.2.2.2.1 p), .long f, .int z, .int t.2.2.2.2.1, .int t.2.2.2.2.2.1, .long t.2.2.2.2.2.2.1, .long t.2.2.2.2.2.2.2]) ka_Tx hf16_0 rfl 3 (by decide) (wi_Tx_describe _ (List.mem_of_getElem? (i := 1) rfl)) rfl rfl rfl (Nat.le_of_ble_eq_true rfl) rfl d_Tx_describe_7
    (fun hp17 ehp17 => ?_)
  have hf17_0 : hp17 a = some (.inr (2, [.ref (L.2.2.1 p), .ref (L.2.2.2.1 p), .long f, .int z, .int t.2.2.2.2.1, .int t.2.2.2.2.2.1, .long t.2.2.2.2.2.2.1, .long t.2.2.2.2.2.2.2])) := by rw [ehp17]; exact hp_us
  refine rv_aload_n d_Tx_describe_10 rfl 0 rfl ?_
  refine rv_iload d_Tx_describe_11 3 rfl ?_
  refine rv_put (fs' := [.ref (L.2.2.1 p), .ref (L.2.2.2.1 p), .long f, .int z, .int o, .int t.2.2.2.2.2.1, .long t.2.2.2.2.2.2.1, .long t.2.2.2.2.2.2.2]) ka_Tx hf17_0 rfl 4 (by decide) (wi_Tx_describe _ (List.mem_of_getElem? (i := 2) rfl)) rfl rfl rfl (Nat.le_of_ble_eq_true rfl) rfl d_Tx_describe_13
    (fun hp18 ehp18 => ?_)
  have hf18_0 : hp18 a = some (.inr (2, [.ref (L.2.2.1 p), .ref (L.2.2.2.1 p), .long f, .int z, .int o, .int t.2.2.2.2.2.1, .long t.2.2.2.2.2.2.1, .long t.2.2.2.2.2.2.2])) := by rw [ehp18]; exact hp_us
  refine rv_vreturn ⟨rfl, ?_⟩ d_Tx_describe_16 rfl
  rw [ehp18, ehp17, ehp16, hp_uu, hp_uu]
set_option maxHeartbeats 4000000 in
set_option maxRecDepth 100000 in
theorem c_Row_clear {l : Launch} {D : va_G} {ca : Nat → ClassId} {hp : hp_T} {d : Nat} {r w n : Nat} {f : Nat → Int64} (hr : hp r = some (.inr (4, [.ref w, .int (nI n)]))) (hw : hp w = some (.inl (ca 1, 164, .inr (.inl f)))) : ma_V l D ca ma_T M_Row_clear d 0 0 hp (ma_qv (fun hp1 => hp1 = hp_up hp r (.inr (4, [.ref w, .int (nI 0)])))) 0 (lv_args 0 [.ref r]) [] := by
  change ma_V l D ca ma_T M_Row_clear d 0 0 hp (ma_qv (fun hp1 => hp1 = hp_up hp r (.inr (4, [.ref w, .int (nI 0)])))) 0 [(0, .ref r)] []
  refine rv_aload_n d_Row_clear_0 rfl 0 rfl ?_
  refine rv_iconst (v := nI 0) d_Row_clear_1 (by decide) ?_
  refine rv_put (fs' := [.ref w, .int (nI 0)]) ka_Row hr rfl 1 (by decide) (wi_Row_clear _ (List.mem_of_getElem? (i := 0) rfl)) rfl rfl rfl (Nat.le_of_ble_eq_true rfl) rfl d_Row_clear_2
    (fun hp19 ehp19 => ?_)
  have hf19_0 : hp19 r = some (.inr (4, [.ref w, .int (nI 0)])) := by rw [ehp19]; exact hp_us
  have hf19_1 : hp19 w = some (.inl (ca 1, 164, .inr (.inl f))) := by rw [ehp19, hp_un (hp_ne hw hr (fun q => by first | cases q | simp at q))]; exact hw
  exact rv_vreturn ⟨rfl, ehp19⟩ d_Row_clear_5 rfl
set_option maxHeartbeats 4000000 in
set_option maxRecDepth 100000 in
theorem c_Row_add {l : Launch} {D : va_G} {ca : Nat → ClassId} {hp : hp_T} {d : Nat} {r w n : Nat} {f : Nat → Int64} (hr : hp r = some (.inr (4, [.ref w, .int (nI n)]))) (hw : hp w = some (.inl (ca 1, 164, .inr (.inl f)))) {b : Nat} {m0 : nm_T} (hb : hp b = some (.inr (0, nm_F m0))) (hn : n < 41) : ma_V l D ca ma_T M_Row_add (d + 1) 0 0 hp (ma_qv (fun hp1 => hp1 = hp_up (hp_up hp w (.inl (ca 1, 164, .inr (.inl (kx_w f (n * 4) m0))))) r (.inr (4, [.ref w, .int (nI (n + 1))])))) 0 (lv_args 0 [.ref r, .ref b]) [] := by
  change ma_V l D ca ma_T M_Row_add (d + 1) 0 0 hp (ma_qv (fun hp1 => hp1 = hp_up (hp_up hp w (.inl (ca 1, 164, .inr (.inl (kx_w f (n * 4) m0))))) r (.inr (4, [.ref w, .int (nI (n + 1))])))) 0 [(0, .ref r), (1, .ref b)] []
  refine rv_aload_n d_Row_add_0 rfl 0 rfl ?_
  refine rv_get ka_Row hr rfl 1 (by decide) (wi_Row_add _ (List.mem_of_getElem? (i := 0) rfl)) rfl d_Row_add_1 ?_
  refine rv_bipush (v := nI 41) d_Row_add_4 (by decide) ?_
  refine rv_icmp_lt (tgt := 10) d_Row_add_6 (by decide) (fun c_6 => ?_) (fun c_6 => ?_)
  · refine rv_aload_n d_Row_add_10 rfl 1 rfl ?_
    refine rv_aload_n d_Row_add_11 rfl 0 rfl ?_
    refine rv_get ka_Row hr rfl 0 (by decide) (wi_Row_add _ (List.mem_of_getElem? (i := 1) rfl)) rfl d_Row_add_12 ?_
    refine rv_aload_n d_Row_add_15 rfl 0 rfl ?_
    refine rv_get ka_Row hr rfl 1 (by decide) (wi_Row_add _ (List.mem_of_getElem? (i := 0) rfl)) rfl d_Row_add_16 ?_
    refine rv_iconst (v := nI 4) d_Row_add_19 (by decide) ?_
    refine rv_imul d_Row_add_20 ?_
    refine rv_eqi (pk_mul _ _) ?_
    refine rv_callV (kc' := 0) (ks' := 0) (kc1 := 0) (ks1 := 0) (As := [.ref w, .int (nI (n * 4))]) (rest := []) hb rfl (c_Name_write hb hw (by decide) (by omega)) ok_Name_write (wi_Row_add _ (List.mem_of_getElem? (i := 2) rfl)) (wi_Row_add _ (List.mem_of_getElem? (i := 3) rfl)) (wi_Row_add _ (List.mem_of_getElem? (i := 4) rfl)) rfl rfl (Nat.le_of_ble_eq_true rfl) (Nat.le_of_ble_eq_true rfl) ⟨Nat.le_of_ble_eq_true rfl, Nat.le_of_ble_eq_true rfl⟩ d_Row_add_21 (rv_kv (fun hp20 ehp20 => ?_))
    have hf20_0 : hp20 r = some (.inr (4, [.ref w, .int (nI n)])) := by rw [ehp20, hp_un (hp_ne hr hw (fun q => by first | cases q | simp at q))]; exact hr
    have hf20_1 : hp20 w = some (.inl (ca 1, 164, .inr (.inl (kx_w f (n * 4) m0)))) := by rw [ehp20]; exact hp_us
    have hf20_2 : hp20 b = some (.inr (0, [.long m0.1, .long m0.2.1, .long m0.2.2.1, .long m0.2.2.2])) := by rw [ehp20, hp_un (hp_ne hb hw (fun q => by first | cases q | simp at q))]; exact hb
    refine rv_aload_n d_Row_add_24 rfl 0 rfl ?_
    refine rv_dup d_Row_add_25 rfl ?_
    refine rv_get ka_Row hf20_0 rfl 1 (by decide) (wi_Row_add _ (List.mem_of_getElem? (i := 0) rfl)) rfl d_Row_add_26 ?_
    refine rv_iconst (v := nI 1) d_Row_add_29 (by decide) ?_
    refine rv_iadd d_Row_add_30 ?_
    refine rv_eqi (nI_add _ _) ?_
    refine rv_put (fs' := [.ref w, .int (nI (n + 1))]) ka_Row hf20_0 rfl 1 (by decide) (wi_Row_add _ (List.mem_of_getElem? (i := 0) rfl)) rfl rfl rfl (Nat.le_of_ble_eq_true rfl) rfl d_Row_add_31
      (fun hp21 ehp21 => ?_)
    have hf21_0 : hp21 r = some (.inr (4, [.ref w, .int (nI (n + 1))])) := by rw [ehp21]; exact hp_us
    have hf21_1 : hp21 w = some (.inl (ca 1, 164, .inr (.inl (kx_w f (n * 4) m0)))) := by rw [ehp21, hp_un (hp_ne hf20_1 hf20_0 (fun q => by first | cases q | simp at q))]; exact hf20_1
    have hf21_2 : hp21 b = some (.inr (0, [.long m0.1, .long m0.2.1, .long m0.2.2.1, .long m0.2.2.2])) := by rw [ehp21, hp_un (hp_ne hf20_2 hf20_0 (fun q => by first | cases q | simp at q))]; exact hf20_2
    refine rv_vreturn ⟨rfl, ?_⟩ d_Row_add_34 rfl
    rw [ehp21, ehp20]
  · exact absurd (nI_lt (by omega) (by decide)) c_6
set_option maxHeartbeats 4000000 in
set_option maxRecDepth 100000 in
theorem c_Pool_remove_l {l : Launch} {D : va_G} {ca : Nat → ClassId} {d : Nat} {po : Nat} {L : po_L} {S : po_S} {g : Int64} {hp0 : hp_T} (hL : po_ok L) : ∀ (m i : Nat) (hp : hp_T), i + m = 41 → po_At ca hp po L (cl_rmI S g i) → po_out po L hp0 hp → ma_V l D ca ma_T M_Pool_remove d 0 0 hp (ma_qv (fun hp1 => po_At ca hp1 po L (cl_rm S g) ∧ po_out po L hp0 hp1)) 16 [(3, .int (nI i)), (0, .ref po), (1, .long g)] [] := by
  intro m
  induction m with
  | zero =>
    intro i hp hi hS ho
    obtain ⟨f, hf, hfp⟩ := hS.2.1
    refine rv_iload_n d_Pool_remove_16 rfl 0 rfl ?_
    refine rv_bipush (v := nI 41) d_Pool_remove_17 (by decide) ?_
    refine rv_icmp_ge (tgt := 66) d_Pool_remove_19 (by decide) (fun c_19 => ?_) (fun c_19 => ?_)
    · exact rv_vreturn ⟨rfl, po_ext hS rfl rfl (fun p hp0 => if_pos (by omega)), ho⟩ d_Pool_remove_66 rfl
    · exact absurd (nI_le (by omega) (by omega)) c_19
  | succ m ih =>
    intro i hp hi hS ho
    obtain ⟨f, hf, hfp⟩ := hS.2.1
    have hx : hp (L.2.1 i) = some (.inr (2, tx_F L i (S.2.2 i))) := by
      have q := (hS.2.2 i (by omega)).1
      rw [show (cl_rmI S g i).2.2 i = S.2.2 i from if_neg (Nat.lt_irrefl i)] at q
      exact q
    refine rv_iload_n d_Pool_remove_16 rfl 0 rfl ?_
    refine rv_bipush (v := nI 41) d_Pool_remove_17 (by decide) ?_
    refine rv_icmp_ge (tgt := 66) d_Pool_remove_19 (by decide) (fun c_19 => ?_) (fun c_19 => ?_)
    · exact absurd c_19 (nI_ge (by omega) (by omega))
    · refine rv_aload_n d_Pool_remove_22 rfl 1 rfl ?_
      refine rv_get ka_Pool hS.1 rfl 0 (by decide) (wi_Pool_remove _ (List.mem_of_getElem? (i := 0) rfl)) rfl d_Pool_remove_23 ?_
      refine rv_iload_n d_Pool_remove_26 rfl 0 rfl ?_
      refine rv_aald hf 2 rfl (by omega) (by decide) d_Pool_remove_27 ?_
      refine rv_eqv (y := .ref (L.2.1 i)) ((by rw [hfp i (by omega)]; rfl)) ?_
      refine rv_dup d_Pool_remove_28 rfl ?_
      refine rv_get ka_Tx hx rfl 6 (by decide) (wi_Pool_remove _ (List.mem_of_getElem? (i := 1) rfl)) rfl d_Pool_remove_29 ?_
      refine rv_lload_n d_Pool_remove_32 rfl 2 rfl ?_
      refine rv_ldc2 (v := (-1)) d_Pool_remove_33 (wi_Pool_remove _ (List.mem_of_getElem? (i := 2) rfl)) ?_
      refine rv_lxor d_Pool_remove_36 ?_
      refine rv_land d_Pool_remove_37 ?_
      refine rv_put (fs' := [.ref (L.2.2.1 i), .ref (L.2.2.2.1 i), .long ((S.2.2 i).2.2.1), .int ((S.2.2 i).2.2.2.1), .int ((S.2.2 i).2.2.2.2.1), .int ((S.2.2 i).2.2.2.2.2.1), .long (((S.2.2 i).2.2.2.2.2.2.1) &&& (g ^^^ (-1))), .long ((S.2.2 i).2.2.2.2.2.2.2)]) ka_Tx hx rfl 6 (by decide) (wi_Pool_remove _ (List.mem_of_getElem? (i := 1) rfl)) rfl rfl rfl (Nat.le_of_ble_eq_true rfl) rfl d_Pool_remove_38
        (fun hp22 ehp22 => ?_)
      have hf22_0 : hp22 po = some (.inr (3, [.ref L.1, .long ((cl_rmI S g i).1), .int ((cl_rmI S g i).2.1)])) := by rw [ehp22, hp_un (hp_ne hS.1 hx (fun q => by first | cases q | simp at q))]; exact hS.1
      have hf22_1 : hp22 L.1 = some (.inl (ca 2, 41, .inr (.inr (.inr (.inr f))))) := by rw [ehp22, hp_un (hp_ne hf hx (fun q => by first | cases q | simp at q))]; exact hf
      have hf22_2 : hp22 (L.2.1 i) = some (.inr (2, [.ref (L.2.2.1 i), .ref (L.2.2.2.1 i), .long ((S.2.2 i).2.2.1), .int ((S.2.2 i).2.2.2.1), .int ((S.2.2 i).2.2.2.2.1), .int ((S.2.2 i).2.2.2.2.2.1), .long (((S.2.2 i).2.2.2.2.2.2.1) &&& (g ^^^ (-1))), .long ((S.2.2 i).2.2.2.2.2.2.2)])) := by rw [ehp22]; exact hp_us
      refine rv_aload_n d_Pool_remove_41 rfl 1 rfl ?_
      refine rv_get ka_Pool hf22_0 rfl 0 (by decide) (wi_Pool_remove _ (List.mem_of_getElem? (i := 0) rfl)) rfl d_Pool_remove_42 ?_
      refine rv_iload_n d_Pool_remove_45 rfl 0 rfl ?_
      refine rv_aald hf22_1 2 rfl (by omega) (by decide) d_Pool_remove_46 ?_
      refine rv_eqv (y := .ref (L.2.1 i)) ((by rw [hfp i (by omega)]; rfl)) ?_
      refine rv_dup d_Pool_remove_47 rfl ?_
      refine rv_get ka_Tx hf22_2 rfl 7 (by decide) (wi_Pool_remove _ (List.mem_of_getElem? (i := 3) rfl)) rfl d_Pool_remove_48 ?_
      refine rv_lload_n d_Pool_remove_51 rfl 2 rfl ?_
      refine rv_ldc2 (v := (-1)) d_Pool_remove_52 (wi_Pool_remove _ (List.mem_of_getElem? (i := 2) rfl)) ?_
      refine rv_lxor d_Pool_remove_55 ?_
      refine rv_land d_Pool_remove_56 ?_
      refine rv_put (fs' := [.ref (L.2.2.1 i), .ref (L.2.2.2.1 i), .long ((S.2.2 i).2.2.1), .int ((S.2.2 i).2.2.2.1), .int ((S.2.2 i).2.2.2.2.1), .int ((S.2.2 i).2.2.2.2.2.1), .long (((S.2.2 i).2.2.2.2.2.2.1) &&& (g ^^^ (-1))), .long (((S.2.2 i).2.2.2.2.2.2.2) &&& (g ^^^ (-1)))]) ka_Tx hf22_2 rfl 7 (by decide) (wi_Pool_remove _ (List.mem_of_getElem? (i := 3) rfl)) rfl rfl rfl (Nat.le_of_ble_eq_true rfl) rfl d_Pool_remove_57
        (fun hp23 ehp23 => ?_)
      have hf23_0 : hp23 po = some (.inr (3, [.ref L.1, .long ((cl_rmI S g i).1), .int ((cl_rmI S g i).2.1)])) := by rw [ehp23, hp_un (hp_ne hf22_0 hf22_2 (fun q => by first | cases q | simp at q))]; exact hf22_0
      have hf23_1 : hp23 L.1 = some (.inl (ca 2, 41, .inr (.inr (.inr (.inr f))))) := by rw [ehp23, hp_un (hp_ne hf22_1 hf22_2 (fun q => by first | cases q | simp at q))]; exact hf22_1
      have hf23_2 : hp23 (L.2.1 i) = some (.inr (2, [.ref (L.2.2.1 i), .ref (L.2.2.2.1 i), .long ((S.2.2 i).2.2.1), .int ((S.2.2 i).2.2.2.1), .int ((S.2.2 i).2.2.2.2.1), .int ((S.2.2 i).2.2.2.2.2.1), .long (((S.2.2 i).2.2.2.2.2.2.1) &&& (g ^^^ (-1))), .long (((S.2.2 i).2.2.2.2.2.2.2) &&& (g ^^^ (-1)))])) := by rw [ehp23]; exact hp_us
      refine rv_iinc (k := 0) (v := nI (i + 1)) (lv' := [(3, .int (nI (i + 1))), (0, .ref po), (1, .long g)]) d_Pool_remove_60 rfl (nI_1 _) (by decide) rfl ?_
      refine rv_goto (tgt := 16) d_Pool_remove_63 (by decide) ?_
      have eh : hp23 = hp_up hp (L.2.1 i) (.inr (2, tx_F L i (tx_rm g (S.2.2 i)))) := by rw [ehp23, ehp22, hp_uu]; rfl
      have hS2 : po_At ca hp23 po L (cl_rmI S g (i + 1)) := by
        rw [eh]
        refine po_ext (po_setTx hS hL (p := i) (by omega) (t := tx_rm g (S.2.2 i)) (by rw [show (cl_rmI S g i).2.2 i = S.2.2 i from if_neg (Nat.lt_irrefl i)]; rfl) (by rw [show (cl_rmI S g i).2.2 i = S.2.2 i from if_neg (Nat.lt_irrefl i)]; rfl)) rfl rfl (fun p hp0 => ?_)
        by_cases e : p = i
        · subst e
          show va_up _ p _ p = (if p < p + 1 then _ else _)
          rw [va_up_s, if_pos (Nat.lt_succ_self p)]
        · show va_up _ i _ p = (if p < i + 1 then _ else _)
          rw [va_up_n e]
          show (if p < i then _ else _) = _
          by_cases q : p < i
          · rw [if_pos q, if_pos (by omega)]
          · rw [if_neg q, if_neg (by omega)]
      exact rv_lv [0, 1, 2] rfl (ih (i + 1) hp23 (by omega) hS2 (by rw [eh]; exact po_out_up ho (po_fp_tx (by omega))))
set_option maxHeartbeats 4000000 in
set_option maxRecDepth 100000 in
theorem c_Pool_remove {l : Launch} {D : va_G} {ca : Nat → ClassId} {hp : hp_T} {d : Nat} {po : Nat} {L : po_L} {S : po_S} (hS : po_At ca hp po L S) {g : Int64} (hL : po_ok L) : ma_V l D ca ma_T M_Pool_remove d 0 0 hp (ma_qv (fun hp1 => po_At ca hp1 po L (cl_rm S g) ∧ po_out po L hp hp1)) 0 (lv_args 0 [.ref po, .long g]) [] := by
  change ma_V l D ca ma_T M_Pool_remove d 0 0 hp (ma_qv (fun hp1 => po_At ca hp1 po L (cl_rm S g) ∧ po_out po L hp hp1)) 0 [(0, .ref po), (1, .long g)] []
  refine rv_aload_n d_Pool_remove_0 rfl 0 rfl ?_
  refine rv_dup d_Pool_remove_1 rfl ?_
  refine rv_get ka_Pool hS.1 rfl 1 (by decide) (wi_Pool_remove _ (List.mem_of_getElem? (i := 4) rfl)) rfl d_Pool_remove_2 ?_
  refine rv_lload_n d_Pool_remove_5 rfl 1 rfl ?_
  refine rv_ldc2 (v := (-1)) d_Pool_remove_6 (wi_Pool_remove _ (List.mem_of_getElem? (i := 2) rfl)) ?_
  refine rv_lxor d_Pool_remove_9 ?_
  refine rv_land d_Pool_remove_10 ?_
  refine rv_put (fs' := [.ref L.1, .long (S.1 &&& (g ^^^ (-1))), .int S.2.1]) ka_Pool hS.1 rfl 1 (by decide) (wi_Pool_remove _ (List.mem_of_getElem? (i := 4) rfl)) rfl rfl rfl (Nat.le_of_ble_eq_true rfl) rfl d_Pool_remove_11
    (fun hp24 ehp24 => ?_)
  have hf24_0 : hp24 po = some (.inr (3, [.ref L.1, .long (S.1 &&& (g ^^^ (-1))), .int S.2.1])) := by rw [ehp24]; exact hp_us
  refine rv_iconst (v := nI 0) d_Pool_remove_14 (by decide) ?_
  refine rv_istore_n (lv' := [(3, .int (nI 0)), (0, .ref po), (1, .long g)]) d_Pool_remove_15 rfl (by decide) rfl ?_
  refine rv_lv [0, 1, 2] rfl (c_Pool_remove_l hL 41 0 hp24 (Nat.zero_add _) ?_ ?_)
  · rw [ehp24]
    exact po_ext (po_setPo hS _ _) rfl rfl (fun p hp0 => cl_rmI_0)
  · rw [ehp24]
    exact po_out_up po_out_rf po_fp_po
set_option maxHeartbeats 4000000 in
set_option maxRecDepth 100000 in
theorem c_Pool_settle_l {l : Launch} {D : va_G} {ca : Nat → ClassId} {d : Nat} {po : Nat} {L : po_L} {S : po_S} {hp0 : hp_T} (hL : po_ok L) {q : Nat} (hq : q < 41) (hfree : bz_t S.1 q = false) {b k : Nat} {m0 : nm_T} {v : kv_T} : ∀ (m j : Nat) (hp : hp_T), j + m = 41 → po_At ca hp po L (cl_lnI (cl_st7 S q m0 v) q (cl_named (cl_st2 S q m0 v) v) (cl_spenders (cl_st3 S q m0 v) m0) j) → po_out po L hp0 hp → ma_V l D ca ma_T M_Pool_settle (d + 2) 0 0 hp (ma_qv (fun hp1 => po_At ca hp1 po L (cl_st S q m0 v) ∧ po_out po L hp0 hp1)) 96 [(5, .int (nI j)), (4, .ref (L.2.1 q)), (0, .ref po), (1, .int (nI q)), (2, .ref b), (3, .ref k)] [] := by
  intro m
  induction m with
  | zero =>
    intro j hp hj hS ho
    obtain rfl : j = 41 := by omega
    refine rv_iload d_Pool_settle_96 0 rfl ?_
    refine rv_bipush (v := nI 41) d_Pool_settle_98 (by decide) ?_
    refine rv_icmp_ge (tgt := 173) d_Pool_settle_100 (by decide) (fun c_100 => ?_) (fun c_100 => ?_)
    · exact rv_vreturn ⟨rfl, hS, ho⟩ d_Pool_settle_173 rfl
    · exact absurd (nI_le (by omega) (by omega)) c_100
  | succ m ih =>
    intro j hp hj hS ho
    obtain ⟨f, hf, hfp⟩ := hS.2.1
    have hpa := cl_pa_q (S := S) (q := q) (m := m0) (v := v) hfree
    have hch := cl_ch_q (S := S) (q := q) (m := m0) (v := v) hfree
    have hx : hp (L.2.1 j) = some (.inr (2, tx_F L j ((cl_st7 S q m0 v).2.2 j))) := by
      have z := (hS.2.2 j (by omega)).1
      rw [show (cl_lnI (cl_st7 S q m0 v) q (cl_named (cl_st2 S q m0 v) v) (cl_spenders (cl_st3 S q m0 v) m0) j).2.2 j = (cl_st7 S q m0 v).2.2 j from if_neg (Nat.lt_irrefl j)] at z
      exact z
    have hx1 : hp (L.2.1 q) = some (.inr (2, tx_F L q ((cl_st7 S q m0 v).2.2 q))) := by
      have z := (hS.2.2 q hq).1
      rw [cl_lnI_q hpa hch] at z
      exact z
    refine rv_iload d_Pool_settle_96 0 rfl ?_
    refine rv_bipush (v := nI 41) d_Pool_settle_98 (by decide) ?_
    refine rv_icmp_ge (tgt := 173) d_Pool_settle_100 (by decide) (fun c_100 => ?_) (fun c_100 => ?_)
    · exact absurd c_100 (nI_ge (by omega) (by omega))
    · refine rv_aload d_Pool_settle_103 1 rfl ?_
      refine rv_get ka_Tx hx1 rfl 6 (by decide) (wi_Pool_settle _ (List.mem_of_getElem? (i := 0) rfl)) rfl d_Pool_settle_105 ?_
      refine rv_eql (y := (cl_named (cl_st2 S q m0 v) v)) cl_st7_q.1 ?_
      refine rv_iload d_Pool_settle_108 0 rfl ?_
      refine rv_callSN (kc' := 0) (ks' := 0) (kc1 := 0) (ks1 := 0) (As := [.long (cl_named (cl_st2 S q m0 v) v), .int (nI j)]) (rest := []) (c_Desk_has (by omega)) ok_Desk_has (host := "PoolDesk") (List.mem_of_getElem? (i := 6) rfl) (wi_Pool_settle _ (List.mem_of_getElem? (i := 1) rfl)) rfl rfl (Nat.le_of_ble_eq_true rfl) (Nat.le_of_ble_eq_true rfl) ⟨Nat.le_of_ble_eq_true rfl, Nat.le_of_ble_eq_true rfl⟩ d_Pool_settle_110 (rv_kie ?_)
      refine rv_if_eq (tgt := 135) d_Pool_settle_113 (by decide) (fun c_113 => ?_) (fun c_113 => ?_)
      · have r1 := bI_0.mp c_113
        refine rv_aload d_Pool_settle_135 1 rfl ?_
        refine rv_get ka_Tx hx1 rfl 7 (by decide) (wi_Pool_settle _ (List.mem_of_getElem? (i := 2) rfl)) rfl d_Pool_settle_137 ?_
        refine rv_eql (y := (cl_spenders (cl_st3 S q m0 v) m0)) cl_st7_q.2 ?_
        refine rv_iload d_Pool_settle_140 0 rfl ?_
        refine rv_callSN (kc' := 0) (ks' := 0) (kc1 := 0) (ks1 := 0) (As := [.long (cl_spenders (cl_st3 S q m0 v) m0), .int (nI j)]) (rest := []) (c_Desk_has (by omega)) ok_Desk_has (host := "PoolDesk") (List.mem_of_getElem? (i := 6) rfl) (wi_Pool_settle _ (List.mem_of_getElem? (i := 1) rfl)) rfl rfl (Nat.le_of_ble_eq_true rfl) (Nat.le_of_ble_eq_true rfl) ⟨Nat.le_of_ble_eq_true rfl, Nat.le_of_ble_eq_true rfl⟩ d_Pool_settle_142 (rv_kie ?_)
        refine rv_if_eq (tgt := 167) d_Pool_settle_145 (by decide) (fun c_145 => ?_) (fun c_145 => ?_)
        · have r2 := bI_0.mp c_145
          refine rv_iinc (k := 0) (v := nI (j + 1)) (lv' := [(5, .int (nI (j + 1))), (4, .ref (L.2.1 q)), (0, .ref po), (1, .int (nI q)), (2, .ref b), (3, .ref k)]) d_Pool_settle_167 rfl (nI_1 _) (by decide) rfl ?_
          refine rv_goto (tgt := 96) d_Pool_settle_170 (by decide) ?_
          have et : (tx_ln q (cl_named (cl_st2 S q m0 v) v) (cl_spenders (cl_st3 S q m0 v) m0) j ((cl_st7 S q m0 v).2.2 j)) = (cl_st7 S q m0 v).2.2 j := by unfold tx_ln; rw [r1, r2, if_neg Bool.false_ne_true, if_neg Bool.false_ne_true]
          have eh : hp = hp_up hp (L.2.1 j) (.inr (2, tx_F L j (tx_ln q (cl_named (cl_st2 S q m0 v) v) (cl_spenders (cl_st3 S q m0 v) m0) j ((cl_st7 S q m0 v).2.2 j)))) := by rw [et]; exact (hp_self hx).symm
          have hS2 : po_At ca hp po L (cl_lnI (cl_st7 S q m0 v) q (cl_named (cl_st2 S q m0 v) v) (cl_spenders (cl_st3 S q m0 v) m0) (j + 1)) := by
            rw [eh]
            refine po_ext (po_setTx hS hL (p := j) (by omega) (t := (tx_ln q (cl_named (cl_st2 S q m0 v) v) (cl_spenders (cl_st3 S q m0 v) m0) j ((cl_st7 S q m0 v).2.2 j))) (by rw [show (cl_lnI (cl_st7 S q m0 v) q (cl_named (cl_st2 S q m0 v) v) (cl_spenders (cl_st3 S q m0 v) m0) j).2.2 j = (cl_st7 S q m0 v).2.2 j from if_neg (Nat.lt_irrefl j)]; rfl) (by rw [show (cl_lnI (cl_st7 S q m0 v) q (cl_named (cl_st2 S q m0 v) v) (cl_spenders (cl_st3 S q m0 v) m0) j).2.2 j = (cl_st7 S q m0 v).2.2 j from if_neg (Nat.lt_irrefl j)]; rfl)) rfl rfl (fun p hp0 => ?_)
            by_cases e : p = j
            · subst e
              show va_up _ p _ p = (if p < p + 1 then _ else _)
              rw [va_up_s, if_pos (Nat.lt_succ_self p)]
            · show va_up _ j _ p = (if p < j + 1 then _ else _)
              rw [va_up_n e]
              show (if p < j then _ else _) = _
              by_cases z : p < j
              · rw [if_pos z, if_pos (by omega)]
              · rw [if_neg z, if_neg (by omega)]
          exact rv_lv [0, 1, 2, 3, 4, 5] rfl (ih (j + 1) hp (by omega) hS2 (by rw [eh]; exact po_out_up ho (po_fp_tx (by omega))))
        · have r2 := bI_n.mp c_145
          have hne : j ≠ q := fun z => by subst z; rw [hch] at r2; cases r2
          refine rv_aload_n d_Pool_settle_148 rfl 2 rfl ?_
          refine rv_get ka_Pool hS.1 rfl 0 (by decide) (wi_Pool_settle _ (List.mem_of_getElem? (i := 3) rfl)) rfl d_Pool_settle_149 ?_
          refine rv_iload d_Pool_settle_152 0 rfl ?_
          refine rv_aald hf 2 rfl (by omega) (by decide) d_Pool_settle_154 ?_
          refine rv_eqv (y := .ref (L.2.1 j)) ((by rw [hfp j (by omega)]; rfl)) ?_
          refine rv_dup d_Pool_settle_155 rfl ?_
          refine rv_get ka_Tx hx rfl 6 (by decide) (wi_Pool_settle _ (List.mem_of_getElem? (i := 0) rfl)) rfl d_Pool_settle_156 ?_
          refine rv_iload_n d_Pool_settle_159 rfl 3 rfl ?_
          refine rv_callSN (kc' := 0) (ks' := 0) (kc1 := 0) (ks1 := 0) (As := [.int (nI q)]) (rest := [.long (((cl_st7 S q m0 v).2.2 j).2.2.2.2.2.2.1), .ref (L.2.1 j)]) (c_Desk_bit) ok_Desk_bit (host := "PoolDesk") (List.mem_of_getElem? (i := 7) rfl) (wi_Pool_settle _ (List.mem_of_getElem? (i := 4) rfl)) rfl rfl (Nat.le_of_ble_eq_true rfl) (Nat.le_of_ble_eq_true rfl) ⟨Nat.le_of_ble_eq_true rfl, Nat.le_of_ble_eq_true rfl⟩ d_Pool_settle_160 (rv_kle ?_)
          refine rv_lor d_Pool_settle_163 ?_
          refine rv_put (fs' := [.ref (L.2.2.1 j), .ref (L.2.2.2.1 j), .long (((cl_st7 S q m0 v).2.2 j).2.2.1), .int (((cl_st7 S q m0 v).2.2 j).2.2.2.1), .int (((cl_st7 S q m0 v).2.2 j).2.2.2.2.1), .int (((cl_st7 S q m0 v).2.2 j).2.2.2.2.2.1), .long ((((cl_st7 S q m0 v).2.2 j).2.2.2.2.2.2.1) ||| (bz_b q)), .long (((cl_st7 S q m0 v).2.2 j).2.2.2.2.2.2.2)]) ka_Tx hx rfl 6 (by decide) (wi_Pool_settle _ (List.mem_of_getElem? (i := 0) rfl)) rfl rfl rfl (Nat.le_of_ble_eq_true rfl) rfl d_Pool_settle_164
            (fun hp25 ehp25 => ?_)
          have hf25_0 : hp25 po = some (.inr (3, [.ref L.1, .long ((cl_lnI (cl_st7 S q m0 v) q (cl_named (cl_st2 S q m0 v) v) (cl_spenders (cl_st3 S q m0 v) m0) j).1), .int ((cl_lnI (cl_st7 S q m0 v) q (cl_named (cl_st2 S q m0 v) v) (cl_spenders (cl_st3 S q m0 v) m0) j).2.1)])) := by rw [ehp25, hp_un (hp_ne hS.1 hx (fun q => by first | cases q | simp at q))]; exact hS.1
          have hf25_1 : hp25 L.1 = some (.inl (ca 2, 41, .inr (.inr (.inr (.inr f))))) := by rw [ehp25, hp_un (hp_ne hf hx (fun q => by first | cases q | simp at q))]; exact hf
          have hf25_2 : hp25 (L.2.1 j) = some (.inr (2, [.ref (L.2.2.1 j), .ref (L.2.2.2.1 j), .long (((cl_st7 S q m0 v).2.2 j).2.2.1), .int (((cl_st7 S q m0 v).2.2 j).2.2.2.1), .int (((cl_st7 S q m0 v).2.2 j).2.2.2.2.1), .int (((cl_st7 S q m0 v).2.2 j).2.2.2.2.2.1), .long ((((cl_st7 S q m0 v).2.2 j).2.2.2.2.2.2.1) ||| (bz_b q)), .long (((cl_st7 S q m0 v).2.2 j).2.2.2.2.2.2.2)])) := by rw [ehp25]; exact hp_us
          have hf25_3 : hp25 (L.2.1 q) = some (.inr (2, [.ref (L.2.2.1 q), .ref (L.2.2.2.1 q), .long (((cl_st7 S q m0 v).2.2 q).2.2.1), .int (((cl_st7 S q m0 v).2.2 q).2.2.2.1), .int (((cl_st7 S q m0 v).2.2 q).2.2.2.2.1), .int (((cl_st7 S q m0 v).2.2 q).2.2.2.2.2.1), .long (((cl_st7 S q m0 v).2.2 q).2.2.2.2.2.2.1), .long (((cl_st7 S q m0 v).2.2 q).2.2.2.2.2.2.2)])) := by rw [ehp25, hp_un (fun z => hne (hL.1 q j hq (by omega) z).symm)]; exact hx1
          refine rv_iinc (k := 0) (v := nI (j + 1)) (lv' := [(5, .int (nI (j + 1))), (4, .ref (L.2.1 q)), (0, .ref po), (1, .int (nI q)), (2, .ref b), (3, .ref k)]) d_Pool_settle_167 rfl (nI_1 _) (by decide) rfl ?_
          refine rv_goto (tgt := 96) d_Pool_settle_170 (by decide) ?_
          have eh : hp25 = hp_up hp (L.2.1 j) (.inr (2, tx_F L j (tx_ln q (cl_named (cl_st2 S q m0 v) v) (cl_spenders (cl_st3 S q m0 v) m0) j ((cl_st7 S q m0 v).2.2 j)))) := by
            rw [ehp25]
            congr 3
            unfold tx_F tx_ln
            rw [r1, r2]
            rfl
          have hS2 : po_At ca hp25 po L (cl_lnI (cl_st7 S q m0 v) q (cl_named (cl_st2 S q m0 v) v) (cl_spenders (cl_st3 S q m0 v) m0) (j + 1)) := by
            rw [eh]
            refine po_ext (po_setTx hS hL (p := j) (by omega) (t := (tx_ln q (cl_named (cl_st2 S q m0 v) v) (cl_spenders (cl_st3 S q m0 v) m0) j ((cl_st7 S q m0 v).2.2 j))) (by rw [show (cl_lnI (cl_st7 S q m0 v) q (cl_named (cl_st2 S q m0 v) v) (cl_spenders (cl_st3 S q m0 v) m0) j).2.2 j = (cl_st7 S q m0 v).2.2 j from if_neg (Nat.lt_irrefl j)]; rfl) (by rw [show (cl_lnI (cl_st7 S q m0 v) q (cl_named (cl_st2 S q m0 v) v) (cl_spenders (cl_st3 S q m0 v) m0) j).2.2 j = (cl_st7 S q m0 v).2.2 j from if_neg (Nat.lt_irrefl j)]; rfl)) rfl rfl (fun p hp0 => ?_)
            by_cases e : p = j
            · subst e
              show va_up _ p _ p = (if p < p + 1 then _ else _)
              rw [va_up_s, if_pos (Nat.lt_succ_self p)]
            · show va_up _ j _ p = (if p < j + 1 then _ else _)
              rw [va_up_n e]
              show (if p < j then _ else _) = _
              by_cases z : p < j
              · rw [if_pos z, if_pos (by omega)]
              · rw [if_neg z, if_neg (by omega)]
          exact rv_lv [0, 1, 2, 3, 4, 5] rfl (ih (j + 1) hp25 (by omega) hS2 (by rw [eh]; exact po_out_up ho (po_fp_tx (by omega))))
      · have r1 := bI_n.mp c_113
        have hne : j ≠ q := fun z => by subst z; rw [hpa] at r1; cases r1
        refine rv_aload_n d_Pool_settle_116 rfl 2 rfl ?_
        refine rv_get ka_Pool hS.1 rfl 0 (by decide) (wi_Pool_settle _ (List.mem_of_getElem? (i := 3) rfl)) rfl d_Pool_settle_117 ?_
        refine rv_iload d_Pool_settle_120 0 rfl ?_
        refine rv_aald hf 2 rfl (by omega) (by decide) d_Pool_settle_122 ?_
        refine rv_eqv (y := .ref (L.2.1 j)) ((by rw [hfp j (by omega)]; rfl)) ?_
        refine rv_dup d_Pool_settle_123 rfl ?_
        refine rv_get ka_Tx hx rfl 7 (by decide) (wi_Pool_settle _ (List.mem_of_getElem? (i := 2) rfl)) rfl d_Pool_settle_124 ?_
        refine rv_iload_n d_Pool_settle_127 rfl 3 rfl ?_
        refine rv_callSN (kc' := 0) (ks' := 0) (kc1 := 0) (ks1 := 0) (As := [.int (nI q)]) (rest := [.long (((cl_st7 S q m0 v).2.2 j).2.2.2.2.2.2.2), .ref (L.2.1 j)]) (c_Desk_bit) ok_Desk_bit (host := "PoolDesk") (List.mem_of_getElem? (i := 7) rfl) (wi_Pool_settle _ (List.mem_of_getElem? (i := 4) rfl)) rfl rfl (Nat.le_of_ble_eq_true rfl) (Nat.le_of_ble_eq_true rfl) ⟨Nat.le_of_ble_eq_true rfl, Nat.le_of_ble_eq_true rfl⟩ d_Pool_settle_128 (rv_kle ?_)
        refine rv_lor d_Pool_settle_131 ?_
        refine rv_put (fs' := [.ref (L.2.2.1 j), .ref (L.2.2.2.1 j), .long (((cl_st7 S q m0 v).2.2 j).2.2.1), .int (((cl_st7 S q m0 v).2.2 j).2.2.2.1), .int (((cl_st7 S q m0 v).2.2 j).2.2.2.2.1), .int (((cl_st7 S q m0 v).2.2 j).2.2.2.2.2.1), .long (((cl_st7 S q m0 v).2.2 j).2.2.2.2.2.2.1), .long ((((cl_st7 S q m0 v).2.2 j).2.2.2.2.2.2.2) ||| (bz_b q))]) ka_Tx hx rfl 7 (by decide) (wi_Pool_settle _ (List.mem_of_getElem? (i := 2) rfl)) rfl rfl rfl (Nat.le_of_ble_eq_true rfl) rfl d_Pool_settle_132
          (fun hp26 ehp26 => ?_)
        have hf26_0 : hp26 po = some (.inr (3, [.ref L.1, .long ((cl_lnI (cl_st7 S q m0 v) q (cl_named (cl_st2 S q m0 v) v) (cl_spenders (cl_st3 S q m0 v) m0) j).1), .int ((cl_lnI (cl_st7 S q m0 v) q (cl_named (cl_st2 S q m0 v) v) (cl_spenders (cl_st3 S q m0 v) m0) j).2.1)])) := by rw [ehp26, hp_un (hp_ne hS.1 hx (fun q => by first | cases q | simp at q))]; exact hS.1
        have hf26_1 : hp26 L.1 = some (.inl (ca 2, 41, .inr (.inr (.inr (.inr f))))) := by rw [ehp26, hp_un (hp_ne hf hx (fun q => by first | cases q | simp at q))]; exact hf
        have hf26_2 : hp26 (L.2.1 j) = some (.inr (2, [.ref (L.2.2.1 j), .ref (L.2.2.2.1 j), .long (((cl_st7 S q m0 v).2.2 j).2.2.1), .int (((cl_st7 S q m0 v).2.2 j).2.2.2.1), .int (((cl_st7 S q m0 v).2.2 j).2.2.2.2.1), .int (((cl_st7 S q m0 v).2.2 j).2.2.2.2.2.1), .long (((cl_st7 S q m0 v).2.2 j).2.2.2.2.2.2.1), .long ((((cl_st7 S q m0 v).2.2 j).2.2.2.2.2.2.2) ||| (bz_b q))])) := by rw [ehp26]; exact hp_us
        have hf26_3 : hp26 (L.2.1 q) = some (.inr (2, [.ref (L.2.2.1 q), .ref (L.2.2.2.1 q), .long (((cl_st7 S q m0 v).2.2 q).2.2.1), .int (((cl_st7 S q m0 v).2.2 q).2.2.2.1), .int (((cl_st7 S q m0 v).2.2 q).2.2.2.2.1), .int (((cl_st7 S q m0 v).2.2 q).2.2.2.2.2.1), .long (((cl_st7 S q m0 v).2.2 q).2.2.2.2.2.2.1), .long (((cl_st7 S q m0 v).2.2 q).2.2.2.2.2.2.2)])) := by rw [ehp26, hp_un (fun z => hne (hL.1 q j hq (by omega) z).symm)]; exact hx1
        refine rv_aload d_Pool_settle_135 1 rfl ?_
        refine rv_get ka_Tx hf26_3 rfl 7 (by decide) (wi_Pool_settle _ (List.mem_of_getElem? (i := 2) rfl)) rfl d_Pool_settle_137 ?_
        refine rv_eql (y := (cl_spenders (cl_st3 S q m0 v) m0)) cl_st7_q.2 ?_
        refine rv_iload d_Pool_settle_140 0 rfl ?_
        refine rv_callSN (kc' := 0) (ks' := 0) (kc1 := 0) (ks1 := 0) (As := [.long (cl_spenders (cl_st3 S q m0 v) m0), .int (nI j)]) (rest := []) (c_Desk_has (by omega)) ok_Desk_has (host := "PoolDesk") (List.mem_of_getElem? (i := 6) rfl) (wi_Pool_settle _ (List.mem_of_getElem? (i := 1) rfl)) rfl rfl (Nat.le_of_ble_eq_true rfl) (Nat.le_of_ble_eq_true rfl) ⟨Nat.le_of_ble_eq_true rfl, Nat.le_of_ble_eq_true rfl⟩ d_Pool_settle_142 (rv_kie ?_)
        refine rv_if_eq (tgt := 167) d_Pool_settle_145 (by decide) (fun c_145 => ?_) (fun c_145 => ?_)
        · have r2 := bI_0.mp c_145
          refine rv_iinc (k := 0) (v := nI (j + 1)) (lv' := [(5, .int (nI (j + 1))), (4, .ref (L.2.1 q)), (0, .ref po), (1, .int (nI q)), (2, .ref b), (3, .ref k)]) d_Pool_settle_167 rfl (nI_1 _) (by decide) rfl ?_
          refine rv_goto (tgt := 96) d_Pool_settle_170 (by decide) ?_
          have eh : hp26 = hp_up hp (L.2.1 j) (.inr (2, tx_F L j (tx_ln q (cl_named (cl_st2 S q m0 v) v) (cl_spenders (cl_st3 S q m0 v) m0) j ((cl_st7 S q m0 v).2.2 j)))) := by
            rw [ehp26]
            congr 3
            unfold tx_F tx_ln
            rw [r1, r2]
            rfl
          have hS2 : po_At ca hp26 po L (cl_lnI (cl_st7 S q m0 v) q (cl_named (cl_st2 S q m0 v) v) (cl_spenders (cl_st3 S q m0 v) m0) (j + 1)) := by
            rw [eh]
            refine po_ext (po_setTx hS hL (p := j) (by omega) (t := (tx_ln q (cl_named (cl_st2 S q m0 v) v) (cl_spenders (cl_st3 S q m0 v) m0) j ((cl_st7 S q m0 v).2.2 j))) (by rw [show (cl_lnI (cl_st7 S q m0 v) q (cl_named (cl_st2 S q m0 v) v) (cl_spenders (cl_st3 S q m0 v) m0) j).2.2 j = (cl_st7 S q m0 v).2.2 j from if_neg (Nat.lt_irrefl j)]; rfl) (by rw [show (cl_lnI (cl_st7 S q m0 v) q (cl_named (cl_st2 S q m0 v) v) (cl_spenders (cl_st3 S q m0 v) m0) j).2.2 j = (cl_st7 S q m0 v).2.2 j from if_neg (Nat.lt_irrefl j)]; rfl)) rfl rfl (fun p hp0 => ?_)
            by_cases e : p = j
            · subst e
              show va_up _ p _ p = (if p < p + 1 then _ else _)
              rw [va_up_s, if_pos (Nat.lt_succ_self p)]
            · show va_up _ j _ p = (if p < j + 1 then _ else _)
              rw [va_up_n e]
              show (if p < j then _ else _) = _
              by_cases z : p < j
              · rw [if_pos z, if_pos (by omega)]
              · rw [if_neg z, if_neg (by omega)]
          exact rv_lv [0, 1, 2, 3, 4, 5] rfl (ih (j + 1) hp26 (by omega) hS2 (by rw [eh]; exact po_out_up ho (po_fp_tx (by omega))))
        · have r2 := bI_n.mp c_145
          have hne : j ≠ q := fun z => by subst z; rw [hch] at r2; cases r2
          refine rv_aload_n d_Pool_settle_148 rfl 2 rfl ?_
          refine rv_get ka_Pool hf26_0 rfl 0 (by decide) (wi_Pool_settle _ (List.mem_of_getElem? (i := 3) rfl)) rfl d_Pool_settle_149 ?_
          refine rv_iload d_Pool_settle_152 0 rfl ?_
          refine rv_aald hf26_1 2 rfl (by omega) (by decide) d_Pool_settle_154 ?_
          refine rv_eqv (y := .ref (L.2.1 j)) ((by rw [hfp j (by omega)]; rfl)) ?_
          refine rv_dup d_Pool_settle_155 rfl ?_
          refine rv_get ka_Tx hf26_2 rfl 6 (by decide) (wi_Pool_settle _ (List.mem_of_getElem? (i := 0) rfl)) rfl d_Pool_settle_156 ?_
          refine rv_iload_n d_Pool_settle_159 rfl 3 rfl ?_
          refine rv_callSN (kc' := 0) (ks' := 0) (kc1 := 0) (ks1 := 0) (As := [.int (nI q)]) (rest := [.long (((cl_st7 S q m0 v).2.2 j).2.2.2.2.2.2.1), .ref (L.2.1 j)]) (c_Desk_bit) ok_Desk_bit (host := "PoolDesk") (List.mem_of_getElem? (i := 7) rfl) (wi_Pool_settle _ (List.mem_of_getElem? (i := 4) rfl)) rfl rfl (Nat.le_of_ble_eq_true rfl) (Nat.le_of_ble_eq_true rfl) ⟨Nat.le_of_ble_eq_true rfl, Nat.le_of_ble_eq_true rfl⟩ d_Pool_settle_160 (rv_kle ?_)
          refine rv_lor d_Pool_settle_163 ?_
          refine rv_put (fs' := [.ref (L.2.2.1 j), .ref (L.2.2.2.1 j), .long (((cl_st7 S q m0 v).2.2 j).2.2.1), .int (((cl_st7 S q m0 v).2.2 j).2.2.2.1), .int (((cl_st7 S q m0 v).2.2 j).2.2.2.2.1), .int (((cl_st7 S q m0 v).2.2 j).2.2.2.2.2.1), .long ((((cl_st7 S q m0 v).2.2 j).2.2.2.2.2.2.1) ||| (bz_b q)), .long ((((cl_st7 S q m0 v).2.2 j).2.2.2.2.2.2.2) ||| (bz_b q))]) ka_Tx hf26_2 rfl 6 (by decide) (wi_Pool_settle _ (List.mem_of_getElem? (i := 0) rfl)) rfl rfl rfl (Nat.le_of_ble_eq_true rfl) rfl d_Pool_settle_164
            (fun hp27 ehp27 => ?_)
          have hf27_0 : hp27 po = some (.inr (3, [.ref L.1, .long ((cl_lnI (cl_st7 S q m0 v) q (cl_named (cl_st2 S q m0 v) v) (cl_spenders (cl_st3 S q m0 v) m0) j).1), .int ((cl_lnI (cl_st7 S q m0 v) q (cl_named (cl_st2 S q m0 v) v) (cl_spenders (cl_st3 S q m0 v) m0) j).2.1)])) := by rw [ehp27, hp_un (hp_ne hf26_0 hf26_2 (fun q => by first | cases q | simp at q))]; exact hf26_0
          have hf27_1 : hp27 L.1 = some (.inl (ca 2, 41, .inr (.inr (.inr (.inr f))))) := by rw [ehp27, hp_un (hp_ne hf26_1 hf26_2 (fun q => by first | cases q | simp at q))]; exact hf26_1
          have hf27_2 : hp27 (L.2.1 j) = some (.inr (2, [.ref (L.2.2.1 j), .ref (L.2.2.2.1 j), .long (((cl_st7 S q m0 v).2.2 j).2.2.1), .int (((cl_st7 S q m0 v).2.2 j).2.2.2.1), .int (((cl_st7 S q m0 v).2.2 j).2.2.2.2.1), .int (((cl_st7 S q m0 v).2.2 j).2.2.2.2.2.1), .long ((((cl_st7 S q m0 v).2.2 j).2.2.2.2.2.2.1) ||| (bz_b q)), .long ((((cl_st7 S q m0 v).2.2 j).2.2.2.2.2.2.2) ||| (bz_b q))])) := by rw [ehp27]; exact hp_us
          have hf27_3 : hp27 (L.2.1 q) = some (.inr (2, [.ref (L.2.2.1 q), .ref (L.2.2.2.1 q), .long (((cl_st7 S q m0 v).2.2 q).2.2.1), .int (((cl_st7 S q m0 v).2.2 q).2.2.2.1), .int (((cl_st7 S q m0 v).2.2 q).2.2.2.2.1), .int (((cl_st7 S q m0 v).2.2 q).2.2.2.2.2.1), .long (((cl_st7 S q m0 v).2.2 q).2.2.2.2.2.2.1), .long (((cl_st7 S q m0 v).2.2 q).2.2.2.2.2.2.2)])) := by rw [ehp27, hp_un (fun z => hne (hL.1 q j hq (by omega) z).symm)]; exact hf26_3
          refine rv_iinc (k := 0) (v := nI (j + 1)) (lv' := [(5, .int (nI (j + 1))), (4, .ref (L.2.1 q)), (0, .ref po), (1, .int (nI q)), (2, .ref b), (3, .ref k)]) d_Pool_settle_167 rfl (nI_1 _) (by decide) rfl ?_
          refine rv_goto (tgt := 96) d_Pool_settle_170 (by decide) ?_
          have eh : hp27 = hp_up hp (L.2.1 j) (.inr (2, tx_F L j (tx_ln q (cl_named (cl_st2 S q m0 v) v) (cl_spenders (cl_st3 S q m0 v) m0) j ((cl_st7 S q m0 v).2.2 j)))) := by
            rw [ehp27, ehp26, hp_uu]
            congr 3
            unfold tx_F tx_ln
            rw [r1, r2]
            rfl
          have hS2 : po_At ca hp27 po L (cl_lnI (cl_st7 S q m0 v) q (cl_named (cl_st2 S q m0 v) v) (cl_spenders (cl_st3 S q m0 v) m0) (j + 1)) := by
            rw [eh]
            refine po_ext (po_setTx hS hL (p := j) (by omega) (t := (tx_ln q (cl_named (cl_st2 S q m0 v) v) (cl_spenders (cl_st3 S q m0 v) m0) j ((cl_st7 S q m0 v).2.2 j))) (by rw [show (cl_lnI (cl_st7 S q m0 v) q (cl_named (cl_st2 S q m0 v) v) (cl_spenders (cl_st3 S q m0 v) m0) j).2.2 j = (cl_st7 S q m0 v).2.2 j from if_neg (Nat.lt_irrefl j)]; rfl) (by rw [show (cl_lnI (cl_st7 S q m0 v) q (cl_named (cl_st2 S q m0 v) v) (cl_spenders (cl_st3 S q m0 v) m0) j).2.2 j = (cl_st7 S q m0 v).2.2 j from if_neg (Nat.lt_irrefl j)]; rfl)) rfl rfl (fun p hp0 => ?_)
            by_cases e : p = j
            · subst e
              show va_up _ p _ p = (if p < p + 1 then _ else _)
              rw [va_up_s, if_pos (Nat.lt_succ_self p)]
            · show va_up _ j _ p = (if p < j + 1 then _ else _)
              rw [va_up_n e]
              show (if p < j then _ else _) = _
              by_cases z : p < j
              · rw [if_pos z, if_pos (by omega)]
              · rw [if_neg z, if_neg (by omega)]
          exact rv_lv [0, 1, 2, 3, 4, 5] rfl (ih (j + 1) hp27 (by omega) hS2 (by rw [eh]; exact po_out_up ho (po_fp_tx (by omega))))
set_option maxHeartbeats 4000000 in
set_option maxRecDepth 100000 in
theorem c_Pool_settle {l : Launch} {D : va_G} {ca : Nat → ClassId} {hp : hp_T} {d : Nat} {po : Nat} {L : po_L} {S : po_S} (hS : po_At ca hp po L S) (hL : po_ok L) {q : Nat} (hq : q < 41) (hfree : bz_t S.1 q = false) {b : Nat} {m0 : nm_T} (hb : hp b = some (.inr (0, nm_F m0))) (hbn : ∀ p, p < 41 → b ≠ L.2.2.1 p) {k w i : Nat} {v : kv_T} (hk : kx_At ca hp k w i v) (hkn : ∀ p, p < 41 → k ≠ L.2.2.2.1 p ∧ w ≠ L.2.2.2.2.1 p ∧ i ≠ L.2.2.2.2.2 p) : ma_V l D ca ma_T M_Pool_settle (d + 4) 0 0 hp (ma_qv (fun hp1 => po_At ca hp1 po L (cl_st S q m0 v) ∧ po_out po L hp hp1)) 0 (lv_args 0 [.ref po, .int (nI q), .ref b, .ref k]) [] := by
  change ma_V l D ca ma_T M_Pool_settle (d + 4) 0 0 hp (ma_qv (fun hp1 => po_At ca hp1 po L (cl_st S q m0 v) ∧ po_out po L hp hp1)) 0 [(0, .ref po), (1, .int (nI q)), (2, .ref b), (3, .ref k)] []
  obtain ⟨f, hf, hfp⟩ := hS.2.1
  have hkq := hkn q hq
  have hxq := hS.2.2 q hq
  refine rv_aload_n d_Pool_settle_0 rfl 0 rfl ?_
  refine rv_get ka_Pool hS.1 rfl 0 (by decide) (wi_Pool_settle _ (List.mem_of_getElem? (i := 3) rfl)) rfl d_Pool_settle_1 ?_
  refine rv_iload_n d_Pool_settle_4 rfl 1 rfl ?_
  refine rv_aald hf 2 rfl (by omega) (by decide) d_Pool_settle_5 ?_
  refine rv_eqv (y := .ref (L.2.1 q)) ((by rw [hfp q hq]; rfl)) ?_
  refine rv_astore (lv' := [(4, .ref (L.2.1 q)), (0, .ref po), (1, .int (nI q)), (2, .ref b), (3, .ref k)]) d_Pool_settle_6 (by decide) rfl ?_
  refine rv_aload d_Pool_settle_8 0 rfl ?_
  refine rv_get ka_Tx (hS.2.2 q hq).1 rfl 0 (by decide) (wi_Pool_settle _ (List.mem_of_getElem? (i := 5) rfl)) rfl d_Pool_settle_10 ?_
  refine rv_aload_n d_Pool_settle_13 rfl 3 rfl ?_
  refine rv_get ka_Name hb rfl 0 (by decide) (wi_Pool_settle _ (List.mem_of_getElem? (i := 6) rfl)) rfl d_Pool_settle_14 ?_
  refine rv_aload_n d_Pool_settle_17 rfl 3 rfl ?_
  refine rv_get ka_Name hb rfl 1 (by decide) (wi_Pool_settle _ (List.mem_of_getElem? (i := 7) rfl)) rfl d_Pool_settle_18 ?_
  refine rv_aload_n d_Pool_settle_21 rfl 3 rfl ?_
  refine rv_get ka_Name hb rfl 2 (by decide) (wi_Pool_settle _ (List.mem_of_getElem? (i := 8) rfl)) rfl d_Pool_settle_22 ?_
  refine rv_aload_n d_Pool_settle_25 rfl 3 rfl ?_
  refine rv_get ka_Name hb rfl 3 (by decide) (wi_Pool_settle _ (List.mem_of_getElem? (i := 9) rfl)) rfl d_Pool_settle_26 ?_
  refine rv_callV (kc' := 0) (ks' := 0) (kc1 := 0) (ks1 := 0) (As := [.long m0.1, .long m0.2.1, .long m0.2.2.1, .long m0.2.2.2]) (rest := []) (hS.2.2 q hq).2.1 rfl (c_Name_set (m := m0) hxq.2.1) ok_Name_set (wi_Pool_settle _ (List.mem_of_getElem? (i := 10) rfl)) (wi_Pool_settle _ (List.mem_of_getElem? (i := 11) rfl)) (wi_Pool_settle _ (List.mem_of_getElem? (i := 12) rfl)) rfl rfl (Nat.le_of_ble_eq_true rfl) (Nat.le_of_ble_eq_true rfl) ⟨Nat.le_of_ble_eq_true rfl, Nat.le_of_ble_eq_true rfl⟩ d_Pool_settle_29 (rv_kv (fun hp28 ehp28 => ?_))
  have hS1 : po_At ca hp28 po L (S.1, S.2.1, va_up S.2.2 q (m0, (S.2.2 q).2)) := by rw [ehp28]; exact po_setNm hS hL hq m0
  have hb1 : hp28 b = some (.inr (0, nm_F m0)) := by rw [ehp28, hp_un (hbn q hq)]; exact hb
  have hk1 : kx_At ca hp28 k w i v := by rw [ehp28]; exact kx_congr hk (hp_un (hp_ne hk.1 hxq.2.1 (fun q => by first | cases q | simp at q))) (hp_un (hp_ne hk.2.1 hxq.2.1 (fun q => by first | cases q | simp at q))) (hp_un (hp_ne hk.2.2.1 hxq.2.1 (fun q => by first | cases q | simp at q)))
  have ho1 : po_out po L hp hp28 := by rw [ehp28]; exact po_out_up po_out_rf (po_fp_nm hq)
  have hz1 := hS1.2.2 q hq
  rw [show (S.1, S.2.1, va_up S.2.2 q (m0, (S.2.2 q).2)).2.2 q = (m0, (S.2.2 q).2) from va_up_s] at hz1
  obtain ⟨f1, hf1, hfp1⟩ := hS1.2.1
  refine rv_aload d_Pool_settle_32 0 rfl ?_
  refine rv_get ka_Tx hz1.1 rfl 1 (by decide) (wi_Pool_settle _ (List.mem_of_getElem? (i := 13) rfl)) rfl d_Pool_settle_34 ?_
  refine rv_aload_n d_Pool_settle_37 rfl 4 rfl ?_
  refine rv_callV (kc' := 0) (ks' := 0) (kc1 := 0) (ks1 := 0) (As := [.ref k]) (rest := []) hz1.2.2.1 rfl (c_Keys_copy hz1.2.2 hk1 hkq) ok_Keys_copy (wi_Pool_settle _ (List.mem_of_getElem? (i := 14) rfl)) (wi_Pool_settle _ (List.mem_of_getElem? (i := 15) rfl)) (wi_Pool_settle _ (List.mem_of_getElem? (i := 16) rfl)) rfl rfl (Nat.le_of_ble_eq_true rfl) (Nat.le_of_ble_eq_true rfl) ⟨Nat.le_of_ble_eq_true rfl, Nat.le_of_ble_eq_true rfl⟩ d_Pool_settle_38 (rv_kv (fun hp29 ehp29 => ?_))
  have hS2 : po_At ca hp29 po L (cl_st2 S q m0 v) := by
    rw [ehp29]
    refine po_ext (po_setKs hS1 hL hq (kv_cp v (S.2.2 q).2.1) hk.2.2.2) rfl rfl (fun p hp0 => ?_)
    show va_up (va_up S.2.2 q (m0, (S.2.2 q).2)) q _ p = va_up S.2.2 q _ p
    rw [va_up_up, show (S.1, S.2.1, va_up S.2.2 q (m0, (S.2.2 q).2)).2.2 q = (m0, (S.2.2 q).2) from va_up_s]
  have hb2 : hp29 b = some (.inr (0, nm_F m0)) := by rw [ehp29, kx_put_un (hp_ne hb1 hz1.2.2.1 (fun q => by first | cases q | simp at q)) (hp_ne hb1 hz1.2.2.2.1 (fun q => by first | cases q | simp at q)) (hp_ne hb1 hz1.2.2.2.2.1 (fun q => by first | cases q | simp at q))]; exact hb1
  have hk2 : kx_At ca hp29 k w i v := by rw [ehp29]; exact kx_congr hk1 (kx_put_un hkq.1 (hp_ne hk1.1 hz1.2.2.2.1 (fun q => by first | cases q | simp at q)) (hp_ne hk1.1 hz1.2.2.2.2.1 (fun q => by first | cases q | simp at q))) (kx_put_un (hp_ne hk1.2.1 hz1.2.2.1 (fun q => by first | cases q | simp at q)) hkq.2.1 (hp_ne hk1.2.1 hz1.2.2.2.2.1 (fun q => by first | cases q | simp at q))) (kx_put_un (hp_ne hk1.2.2.1 hz1.2.2.1 (fun q => by first | cases q | simp at q)) (hp_ne hk1.2.2.1 hz1.2.2.2.1 (fun q => by first | cases q | simp at q)) hkq.2.2)
  have ho2 : po_out po L hp hp29 := by rw [ehp29]; exact po_out_put ho1 (po_fp_ks hq) (po_fp_wk hq) (po_fp_ik hq)
  obtain ⟨f2, hf2, hfp2⟩ := hS2.2.1
  refine rv_aload d_Pool_settle_41 0 rfl ?_
  refine rv_aload_n d_Pool_settle_43 rfl 1 rfl ?_
  refine rv_aload_n d_Pool_settle_44 rfl 4 rfl ?_
  refine rv_callV (kc' := 0) (ks' := 0) (kc1 := 0) (ks1 := 0) (As := [.ref k]) (rest := [.ref (L.2.1 q)]) hS2.1 rfl (c_Pool_named hS2 hk2) ok_Pool_named (wi_Pool_settle _ (List.mem_of_getElem? (i := 17) rfl)) (wi_Pool_settle _ (List.mem_of_getElem? (i := 18) rfl)) (wi_Pool_settle _ (List.mem_of_getElem? (i := 19) rfl)) rfl rfl (Nat.le_of_ble_eq_true rfl) (Nat.le_of_ble_eq_true rfl) ⟨Nat.le_of_ble_eq_true rfl, Nat.le_of_ble_eq_true rfl⟩ d_Pool_settle_45 (rv_kle ?_)
  refine rv_put (fs' := [.ref (L.2.2.1 q), .ref (L.2.2.2.1 q), .long (((cl_st2 S q m0 v).2.2 q).2.2.1), .int (((cl_st2 S q m0 v).2.2 q).2.2.2.1), .int (((cl_st2 S q m0 v).2.2 q).2.2.2.2.1), .int (((cl_st2 S q m0 v).2.2 q).2.2.2.2.2.1), .long (cl_named (cl_st2 S q m0 v) v), .long (((cl_st2 S q m0 v).2.2 q).2.2.2.2.2.2.2)]) ka_Tx (hS2.2.2 q hq).1 rfl 6 (by decide) (wi_Pool_settle _ (List.mem_of_getElem? (i := 0) rfl)) rfl rfl rfl (Nat.le_of_ble_eq_true rfl) rfl d_Pool_settle_48
    (fun hp30 ehp30 => ?_)
  have hS3 : po_At ca hp30 po L (cl_st3 S q m0 v) := by rw [ehp30]; exact po_setTx hS2 hL hq (t := tx_pa ((cl_st2 S q m0 v).2.2 q) (cl_named (cl_st2 S q m0 v) v)) rfl rfl
  have hb3 : hp30 b = some (.inr (0, nm_F m0)) := by rw [ehp30, hp_un (hp_ne hb2 (hS2.2.2 q hq |>.1) (fun q => by first | cases q | simp at q))]; exact hb2
  have hk3 : kx_At ca hp30 k w i v := by rw [ehp30]; exact kx_congr hk2 (hp_un (hp_ne hk2.1 (hS2.2.2 q hq |>.1) (fun q => by first | cases q | simp at q))) (hp_un (hp_ne hk2.2.1 (hS2.2.2 q hq |>.1) (fun q => by first | cases q | simp at q))) (hp_un (hp_ne hk2.2.2.1 (hS2.2.2 q hq |>.1) (fun q => by first | cases q | simp at q)))
  have ho3 : po_out po L hp hp30 := by rw [ehp30]; exact po_out_up ho2 (po_fp_tx hq)
  obtain ⟨f3, hf3, hfp3⟩ := hS3.2.1
  refine rv_aload d_Pool_settle_51 0 rfl ?_
  refine rv_aload_n d_Pool_settle_53 rfl 1 rfl ?_
  refine rv_aload_n d_Pool_settle_54 rfl 3 rfl ?_
  refine rv_callV (kc' := 0) (ks' := 0) (kc1 := 0) (ks1 := 0) (As := [.ref b]) (rest := [.ref (L.2.1 q)]) hS3.1 rfl (c_Pool_spendersOf hS3 hb3) ok_Pool_spendersOf (wi_Pool_settle _ (List.mem_of_getElem? (i := 20) rfl)) (wi_Pool_settle _ (List.mem_of_getElem? (i := 21) rfl)) (wi_Pool_settle _ (List.mem_of_getElem? (i := 22) rfl)) rfl rfl (Nat.le_of_ble_eq_true rfl) (Nat.le_of_ble_eq_true rfl) ⟨Nat.le_of_ble_eq_true rfl, Nat.le_of_ble_eq_true rfl⟩ d_Pool_settle_55 (rv_kle ?_)
  refine rv_put (fs' := [.ref (L.2.2.1 q), .ref (L.2.2.2.1 q), .long (((cl_st3 S q m0 v).2.2 q).2.2.1), .int (((cl_st3 S q m0 v).2.2 q).2.2.2.1), .int (((cl_st3 S q m0 v).2.2 q).2.2.2.2.1), .int (((cl_st3 S q m0 v).2.2 q).2.2.2.2.2.1), .long (((cl_st3 S q m0 v).2.2 q).2.2.2.2.2.2.1), .long (cl_spenders (cl_st3 S q m0 v) m0)]) ka_Tx (hS3.2.2 q hq).1 rfl 7 (by decide) (wi_Pool_settle _ (List.mem_of_getElem? (i := 2) rfl)) rfl rfl rfl (Nat.le_of_ble_eq_true rfl) rfl d_Pool_settle_58
    (fun hp31 ehp31 => ?_)
  have hS4 : po_At ca hp31 po L (cl_st4 S q m0 v) := by rw [ehp31]; exact po_setTx hS3 hL hq (t := tx_ch ((cl_st3 S q m0 v).2.2 q) (cl_spenders (cl_st3 S q m0 v) m0)) rfl rfl
  have hb4 : hp31 b = some (.inr (0, nm_F m0)) := by rw [ehp31, hp_un (hp_ne hb3 (hS3.2.2 q hq |>.1) (fun q => by first | cases q | simp at q))]; exact hb3
  have hk4 : kx_At ca hp31 k w i v := by rw [ehp31]; exact kx_congr hk3 (hp_un (hp_ne hk3.1 (hS3.2.2 q hq |>.1) (fun q => by first | cases q | simp at q))) (hp_un (hp_ne hk3.2.1 (hS3.2.2 q hq |>.1) (fun q => by first | cases q | simp at q))) (hp_un (hp_ne hk3.2.2.1 (hS3.2.2 q hq |>.1) (fun q => by first | cases q | simp at q)))
  have ho4 : po_out po L hp hp31 := by rw [ehp31]; exact po_out_up ho3 (po_fp_tx hq)
  obtain ⟨f4, hf4, hfp4⟩ := hS4.2.1
  refine rv_aload_n d_Pool_settle_61 rfl 1 rfl ?_
  refine rv_dup d_Pool_settle_62 rfl ?_
  refine rv_get ka_Pool hS4.1 rfl 2 (by decide) (wi_Pool_settle _ (List.mem_of_getElem? (i := 23) rfl)) rfl d_Pool_settle_63 ?_
  refine rv_iconst (v := nI 1) d_Pool_settle_66 (by decide) ?_
  refine rv_iadd d_Pool_settle_67 ?_
  refine rv_put (fs' := [.ref L.1, .long ((cl_st4 S q m0 v).1), .int (((cl_st4 S q m0 v).2.1) + (nI 1))]) ka_Pool hS4.1 rfl 2 (by decide) (wi_Pool_settle _ (List.mem_of_getElem? (i := 23) rfl)) rfl rfl rfl (Nat.le_of_ble_eq_true rfl) rfl d_Pool_settle_68
    (fun hp32 ehp32 => ?_)
  have hS5 : po_At ca hp32 po L (cl_st5 S q m0 v) := by rw [ehp32]; exact po_setPo hS4 _ _
  have hb5 : hp32 b = some (.inr (0, nm_F m0)) := by rw [ehp32, hp_un (hp_ne hb4 (hS4.1) (fun q => by first | cases q | simp at q))]; exact hb4
  have hk5 : kx_At ca hp32 k w i v := by rw [ehp32]; exact kx_congr hk4 (hp_un (hp_ne hk4.1 (hS4.1) (fun q => by first | cases q | simp at q))) (hp_un (hp_ne hk4.2.1 (hS4.1) (fun q => by first | cases q | simp at q))) (hp_un (hp_ne hk4.2.2.1 (hS4.1) (fun q => by first | cases q | simp at q)))
  have ho5 : po_out po L hp hp32 := by rw [ehp32]; exact po_out_up ho4 po_fp_po
  obtain ⟨f5, hf5, hfp5⟩ := hS5.2.1
  refine rv_aload d_Pool_settle_71 0 rfl ?_
  refine rv_aload_n d_Pool_settle_73 rfl 1 rfl ?_
  refine rv_get ka_Pool hS5.1 rfl 2 (by decide) (wi_Pool_settle _ (List.mem_of_getElem? (i := 23) rfl)) rfl d_Pool_settle_74 ?_
  refine rv_put (fs' := [.ref (L.2.2.1 q), .ref (L.2.2.2.1 q), .long (((cl_st5 S q m0 v).2.2 q).2.2.1), .int (((cl_st5 S q m0 v).2.2 q).2.2.2.1), .int (((cl_st5 S q m0 v).2.2 q).2.2.2.2.1), .int ((cl_st5 S q m0 v).2.1), .long (((cl_st5 S q m0 v).2.2 q).2.2.2.2.2.2.1), .long (((cl_st5 S q m0 v).2.2 q).2.2.2.2.2.2.2)]) ka_Tx (hS5.2.2 q hq).1 rfl 5 (by decide) (wi_Pool_settle _ (List.mem_of_getElem? (i := 24) rfl)) rfl rfl rfl (Nat.le_of_ble_eq_true rfl) rfl d_Pool_settle_77
    (fun hp33 ehp33 => ?_)
  have hS6 : po_At ca hp33 po L (cl_st6 S q m0 v) := by rw [ehp33]; exact po_setTx hS5 hL hq (t := tx_co ((cl_st5 S q m0 v).2.2 q) (cl_st5 S q m0 v).2.1) rfl rfl
  have hb6 : hp33 b = some (.inr (0, nm_F m0)) := by rw [ehp33, hp_un (hp_ne hb5 (hS5.2.2 q hq |>.1) (fun q => by first | cases q | simp at q))]; exact hb5
  have hk6 : kx_At ca hp33 k w i v := by rw [ehp33]; exact kx_congr hk5 (hp_un (hp_ne hk5.1 (hS5.2.2 q hq |>.1) (fun q => by first | cases q | simp at q))) (hp_un (hp_ne hk5.2.1 (hS5.2.2 q hq |>.1) (fun q => by first | cases q | simp at q))) (hp_un (hp_ne hk5.2.2.1 (hS5.2.2 q hq |>.1) (fun q => by first | cases q | simp at q)))
  have ho6 : po_out po L hp hp33 := by rw [ehp33]; exact po_out_up ho5 (po_fp_tx hq)
  obtain ⟨f6, hf6, hfp6⟩ := hS6.2.1
  refine rv_aload_n d_Pool_settle_80 rfl 1 rfl ?_
  refine rv_dup d_Pool_settle_81 rfl ?_
  refine rv_get ka_Pool hS6.1 rfl 1 (by decide) (wi_Pool_settle _ (List.mem_of_getElem? (i := 25) rfl)) rfl d_Pool_settle_82 ?_
  refine rv_iload_n d_Pool_settle_85 rfl 2 rfl ?_
  refine rv_callSN (kc' := 0) (ks' := 0) (kc1 := 0) (ks1 := 0) (As := [.int (nI q)]) (rest := [.long ((cl_st6 S q m0 v).1), .ref po]) (c_Desk_bit) ok_Desk_bit (host := "PoolDesk") (List.mem_of_getElem? (i := 7) rfl) (wi_Pool_settle _ (List.mem_of_getElem? (i := 4) rfl)) rfl rfl (Nat.le_of_ble_eq_true rfl) (Nat.le_of_ble_eq_true rfl) ⟨Nat.le_of_ble_eq_true rfl, Nat.le_of_ble_eq_true rfl⟩ d_Pool_settle_86 (rv_kle ?_)
  refine rv_lor d_Pool_settle_89 ?_
  refine rv_put (fs' := [.ref L.1, .long (((cl_st6 S q m0 v).1) ||| (bz_b q)), .int ((cl_st6 S q m0 v).2.1)]) ka_Pool hS6.1 rfl 1 (by decide) (wi_Pool_settle _ (List.mem_of_getElem? (i := 25) rfl)) rfl rfl rfl (Nat.le_of_ble_eq_true rfl) rfl d_Pool_settle_90
    (fun hp34 ehp34 => ?_)
  have hS7 : po_At ca hp34 po L (cl_st7 S q m0 v) := by rw [ehp34]; exact po_setPo hS6 _ _
  have hb7 : hp34 b = some (.inr (0, nm_F m0)) := by rw [ehp34, hp_un (hp_ne hb6 (hS6.1) (fun q => by first | cases q | simp at q))]; exact hb6
  have hk7 : kx_At ca hp34 k w i v := by rw [ehp34]; exact kx_congr hk6 (hp_un (hp_ne hk6.1 (hS6.1) (fun q => by first | cases q | simp at q))) (hp_un (hp_ne hk6.2.1 (hS6.1) (fun q => by first | cases q | simp at q))) (hp_un (hp_ne hk6.2.2.1 (hS6.1) (fun q => by first | cases q | simp at q)))
  have ho7 : po_out po L hp hp34 := by rw [ehp34]; exact po_out_up ho6 po_fp_po
  obtain ⟨f7, hf7, hfp7⟩ := hS7.2.1
  refine rv_iconst (v := nI 0) d_Pool_settle_93 (by decide) ?_
  refine rv_istore (lv' := [(5, .int (nI 0)), (4, .ref (L.2.1 q)), (0, .ref po), (1, .int (nI q)), (2, .ref b), (3, .ref k)]) d_Pool_settle_94 (by decide) rfl ?_
  exact rv_lv [0, 1, 2, 3, 4, 5] rfl (c_Pool_settle_l (d := d + 2) hL hq hfree 41 0 hp34 (Nat.zero_add _) (po_ext hS7 rfl rfl (fun p hp0 => cl_lnI_0)) ho7)
end
section
def wl_Keys_init : List Cond := [.methodLink "PoolDesk$Keys" 3 Lib.objectInit, .instanceMethod Lib.objectInit, .code Lib.objectInit ⟨#[0xb1]⟩ 1 none, .arrayClass .long, .fieldLink "PoolDesk$Keys" 9 "PoolDesk$Keys" "words" "[J", .arrayClass .int, .fieldLink "PoolDesk$Keys" 15 "PoolDesk$Keys" "indexes" "[I"]
theorem wi_Keys_init : ∀ w ∈ wl_Keys_init, w ∈ ma_tbl := by decide +kernel
def wl_Row_init : List Cond := [.methodLink "PoolDesk$Row" 3 Lib.objectInit, .instanceMethod Lib.objectInit, .code Lib.objectInit ⟨#[0xb1]⟩ 1 none, .arrayClass .long, .fieldLink "PoolDesk$Row" 9 "PoolDesk$Row" "words" "[J"]
theorem wi_Row_init : ∀ w ∈ wl_Row_init, w ∈ ma_tbl := by decide +kernel
def wl_Tx_init : List Cond := [.methodLink "PoolDesk$Transaction" 1 Lib.objectInit, .instanceMethod Lib.objectInit, .code Lib.objectInit ⟨#[0xb1]⟩ 1 none, .classLink "PoolDesk$Transaction" 7 "PoolDesk$Name", .instantiable "PoolDesk$Name" 4, .initialized "PoolDesk$Name", .instanceMethod y_Name_init, .fieldLink "PoolDesk$Transaction" 10 "PoolDesk$Transaction" "ownName" "LPoolDesk$Name;", .classLink "PoolDesk$Transaction" 16 "PoolDesk$Keys", .instantiable "PoolDesk$Keys" 3, .initialized "PoolDesk$Keys", .instanceMethod y_Keys_init, .fieldLink "PoolDesk$Transaction" 19 "PoolDesk$Transaction" "keys" "LPoolDesk$Keys;"]
theorem wi_Tx_init : ∀ w ∈ wl_Tx_init, w ∈ ma_tbl := by decide +kernel
set_option maxHeartbeats 600000 in
set_option maxRecDepth 100000 in
theorem c_Keys_init {l : Launch} {D : va_G} {ca : Nat → ClassId} {hp : hp_T} {d : Nat} {k : Nat} (h : hp k = some (.inr (1, [.null, .null, .int 0]))) : ma_V l D ca ma_T M_Keys_init (d + 1) 2 40 hp (ma_qv (fun hp1 => ∃ w i, hp w = none ∧ hp i = none ∧ w ≠ i ∧ hp1 = kx_put ca hp k w i kv_0)) 0 (lv_args 0 [.ref k]) [] := by
  change ma_V l D ca ma_T M_Keys_init (d + 1) 2 40 hp (ma_qv (fun hp1 => ∃ w i, hp w = none ∧ hp i = none ∧ w ≠ i ∧ hp1 = kx_put ca hp k w i kv_0)) 0 [(0, .ref k)] []
  refine rv_aload_n d_Keys_init_0 rfl 0 rfl ?_
  refine rv_obj (wi_Keys_init _ (List.mem_of_getElem? (i := 0) rfl)) (wi_Keys_init _ (List.mem_of_getElem? (i := 1) rfl)) (wi_Keys_init _ (List.mem_of_getElem? (i := 2) rfl)) (Nat.le_of_ble_eq_true rfl) d_Keys_init_1 ?_
  refine rv_aload_n d_Keys_init_4 rfl 0 rfl ?_
  refine rv_bipush (v := nI 32) d_Keys_init_5 (by decide) ?_
  refine rv_newa (atype := .long) (ty := .long) (cA := ca 1) (n := 32) (a0 := (32, .inr (.inl (fun _ => 0)))) (kc1 := 1) (ks1 := 8) rfl 1 rfl (wi_Keys_init _ (List.mem_of_getElem? (i := 3) rfl)) (fun c => vp_cell_l c 32 _) (by decide) (by decide) ⟨by omega, by omega⟩ d_Keys_init_7 (fun w hp35 hfr35 ehp35 => ?_)
  have hf35_0 : hp35 k = some (.inr (1, [.null, .null, .int 0])) := by rw [ehp35, hp_un (hp_nn h hfr35)]; exact h
  have hf35_q : hp35 w = some (.inl (ca 1, 32, .inr (.inl (fun _ => 0)))) := by rw [ehp35]; exact hp_us
  refine rv_putF (fs' := [.ref w, .null, .int 0]) ka_Keys hf35_0 rfl 0 (by decide) (wi_Keys_init _ (List.mem_of_getElem? (i := 4) rfl)) rfl rfl rfl rfl rfl (Nat.le_of_ble_eq_true rfl) rfl d_Keys_init_9
    (fun hp36 ehp36 => ?_)
  have hf36_0 : hp36 k = some (.inr (1, [.ref w, .null, .int 0])) := by rw [ehp36]; exact hp_us
  have hf36_1 : hp36 w = some (.inl (ca 1, 32, .inr (.inl (fun _ => 0)))) := by rw [ehp36, hp_un (hp_ne hf35_q hf35_0 (fun q => by first | cases q | simp at q))]; exact hf35_q
  refine rv_aload_n d_Keys_init_12 rfl 0 rfl ?_
  refine rv_bipush (v := nI 8) d_Keys_init_13 (by decide) ?_
  refine rv_newa (atype := .int) (ty := .int) (cA := ca 0) (n := 8) (a0 := (8, .inl (fun _ => 0))) (kc1 := 0) (ks1 := 0) rfl 0 rfl (wi_Keys_init _ (List.mem_of_getElem? (i := 5) rfl)) (fun c => vp_cell_i c 8 _) (by decide) (by decide) ⟨by omega, by omega⟩ d_Keys_init_15 (fun i hp37 hfr37 ehp37 => ?_)
  have hf37_0 : hp37 k = some (.inr (1, [.ref w, .null, .int 0])) := by rw [ehp37, hp_un (hp_nn hf36_0 hfr37)]; exact hf36_0
  have hf37_1 : hp37 w = some (.inl (ca 1, 32, .inr (.inl (fun _ => 0)))) := by rw [ehp37, hp_un (hp_nn hf36_1 hfr37)]; exact hf36_1
  have hf37_q : hp37 i = some (.inl (ca 0, 8, .inl (fun _ => 0))) := by rw [ehp37]; exact hp_us
  refine rv_putF (fs' := [.ref w, .ref i, .int 0]) ka_Keys hf37_0 rfl 1 (by decide) (wi_Keys_init _ (List.mem_of_getElem? (i := 6) rfl)) rfl rfl rfl rfl rfl (Nat.le_of_ble_eq_true rfl) rfl d_Keys_init_17
    (fun hp38 ehp38 => ?_)
  have hf38_0 : hp38 k = some (.inr (1, [.ref w, .ref i, .int 0])) := by rw [ehp38]; exact hp_us
  have hf38_1 : hp38 w = some (.inl (ca 1, 32, .inr (.inl (fun _ => 0)))) := by rw [ehp38, hp_un (hp_ne hf37_1 hf37_0 (fun q => by first | cases q | simp at q))]; exact hf37_1
  have hf38_2 : hp38 i = some (.inl (ca 0, 8, .inl (fun _ => 0))) := by rw [ehp38, hp_un (hp_ne hf37_q hf37_0 (fun q => by first | cases q | simp at q))]; exact hf37_q
  have g1 := hfr37
  rw [ehp36, ehp35] at g1
  obtain ⟨g2, g3⟩ := hp_fu g1
  obtain ⟨g4, g5⟩ := hp_fu g3
  refine rv_vreturn ⟨rfl, w, i, hfr35, g5, g4.symm, ?_⟩ d_Keys_init_20 rfl
  rw [ehp38, ehp37, ehp36, ehp35, hp_uiu]
  rfl
set_option maxHeartbeats 600000 in
set_option maxRecDepth 100000 in
theorem c_Row_init {l : Launch} {D : va_G} {ca : Nat → ClassId} {hp : hp_T} {d : Nat} {r : Nat} (h : hp r = some (.inr (4, [.null, .int 0]))) : ma_V l D ca ma_T M_Row_init (d + 1) 1 164 hp (ma_qv (fun hp1 => ∃ w, hp w = none ∧ hp1 = hp_up (hp_up hp w (.inl (ca 1, 164, .inr (.inl (fun _ => 0))))) r (.inr (4, [.ref w, .int 0])))) 0 (lv_args 0 [.ref r]) [] := by
  change ma_V l D ca ma_T M_Row_init (d + 1) 1 164 hp (ma_qv (fun hp1 => ∃ w, hp w = none ∧ hp1 = hp_up (hp_up hp w (.inl (ca 1, 164, .inr (.inl (fun _ => 0))))) r (.inr (4, [.ref w, .int 0])))) 0 [(0, .ref r)] []
  refine rv_aload_n d_Row_init_0 rfl 0 rfl ?_
  refine rv_obj (wi_Row_init _ (List.mem_of_getElem? (i := 0) rfl)) (wi_Row_init _ (List.mem_of_getElem? (i := 1) rfl)) (wi_Row_init _ (List.mem_of_getElem? (i := 2) rfl)) (Nat.le_of_ble_eq_true rfl) d_Row_init_1 ?_
  refine rv_aload_n d_Row_init_4 rfl 0 rfl ?_
  refine rv_sipush (v := nI 164) d_Row_init_5 (by decide) ?_
  refine rv_newa (atype := .long) (ty := .long) (cA := ca 1) (n := 164) (a0 := (164, .inr (.inl (fun _ => 0)))) (kc1 := 0) (ks1 := 0) rfl 1 rfl (wi_Row_init _ (List.mem_of_getElem? (i := 3) rfl)) (fun c => vp_cell_l c 164 _) (by decide) (by decide) ⟨by omega, by omega⟩ d_Row_init_8 (fun w hp39 hfr39 ehp39 => ?_)
  have hf39_0 : hp39 r = some (.inr (4, [.null, .int 0])) := by rw [ehp39, hp_un (hp_nn h hfr39)]; exact h
  have hf39_q : hp39 w = some (.inl (ca 1, 164, .inr (.inl (fun _ => 0)))) := by rw [ehp39]; exact hp_us
  refine rv_putF (fs' := [.ref w, .int 0]) ka_Row hf39_0 rfl 0 (by decide) (wi_Row_init _ (List.mem_of_getElem? (i := 4) rfl)) rfl rfl rfl rfl rfl (Nat.le_of_ble_eq_true rfl) rfl d_Row_init_10
    (fun hp40 ehp40 => ?_)
  have hf40_0 : hp40 r = some (.inr (4, [.ref w, .int 0])) := by rw [ehp40]; exact hp_us
  have hf40_1 : hp40 w = some (.inl (ca 1, 164, .inr (.inl (fun _ => 0)))) := by rw [ehp40, hp_un (hp_ne hf39_q hf39_0 (fun q => by first | cases q | simp at q))]; exact hf39_q
  exact rv_vreturn ⟨rfl, w, hfr39, by rw [ehp40, ehp39]⟩ d_Row_init_13 rfl
set_option maxHeartbeats 600000 in
set_option maxRecDepth 100000 in
theorem c_Tx_init {l : Launch} {D : va_G} {ca : Nat → ClassId} {hp : hp_T} {d : Nat} {a : Nat} (h : hp a = some (.inr (2, [.null, .null, .long 0, .int 0, .int 0, .int 0, .long 0, .long 0]))) : ma_V l D ca ma_T M_Tx_init (d + 2) 4 47 hp (ma_qv (fun hp1 => ∃ n k w i, hp n = none ∧ hp k = none ∧ hp w = none ∧ hp i = none ∧ hp1 a = some (.inr (2, [.ref n, .ref k, .long 0, .int 0, .int 0, .int 0, .long 0, .long 0])) ∧ hp1 n = some (.inr (0, nm_F nm_0)) ∧ kx_At ca hp1 k w i kv_0 ∧ hp_ke a hp hp1)) 0 (lv_args 0 [.ref a]) [] := by
  change ma_V l D ca ma_T M_Tx_init (d + 2) 4 47 hp (ma_qv (fun hp1 => ∃ n k w i, hp n = none ∧ hp k = none ∧ hp w = none ∧ hp i = none ∧ hp1 a = some (.inr (2, [.ref n, .ref k, .long 0, .int 0, .int 0, .int 0, .long 0, .long 0])) ∧ hp1 n = some (.inr (0, nm_F nm_0)) ∧ kx_At ca hp1 k w i kv_0 ∧ hp_ke a hp hp1)) 0 [(0, .ref a)] []
  refine rv_aload_n d_Tx_init_0 rfl 0 rfl ?_
  refine rv_obj (wi_Tx_init _ (List.mem_of_getElem? (i := 0) rfl)) (wi_Tx_init _ (List.mem_of_getElem? (i := 1) rfl)) (wi_Tx_init _ (List.mem_of_getElem? (i := 2) rfl)) (Nat.le_of_ble_eq_true rfl) d_Tx_init_1 ?_
  refine rv_aload_n d_Tx_init_4 rfl 0 rfl ?_
  refine rv_new (ci := 0) (fs := [.long 0, .long 0, .long 0, .long 0]) (kc1 := 3) (ks1 := 43) ka_Name rfl (wi_Tx_init _ (List.mem_of_getElem? (i := 3) rfl)) (wi_Tx_init _ (List.mem_of_getElem? (i := 4) rfl)) (wi_Tx_init _ (List.mem_of_getElem? (i := 5) rfl)) (fun j hj => by rcases (show j = 0 ∨ j = 1 ∨ j = 2 ∨ j = 3 by omega) with rfl | rfl | rfl | rfl <;> rfl) ⟨by omega, by omega⟩ d_Tx_init_5 (fun n hp41 hfr41 ehp41 => ?_)
  have hf41_0 : hp41 a = some (.inr (2, [.null, .null, .long 0, .int 0, .int 0, .int 0, .long 0, .long 0])) := by rw [ehp41, hp_un (hp_nn h hfr41)]; exact h
  have hf41_q : hp41 n = some (.inr (0, [.long 0, .long 0, .long 0, .long 0])) := by rw [ehp41]; exact hp_us
  refine rv_dup d_Tx_init_8 rfl ?_
  refine rv_callIN (kc' := 0) (ks' := 0) (kc1 := 3) (ks1 := 43) (As := []) (rest := [.ref n, .ref a]) (c_Name_init) ok_Name_init (host := "PoolDesk") (List.mem_of_getElem? (i := 3) rfl) (wi_Tx_init _ (List.mem_of_getElem? (i := 6) rfl)) rfl rfl rfl rfl (Nat.le_of_ble_eq_true rfl) (Nat.le_of_ble_eq_true rfl) ⟨Nat.le_of_ble_eq_true rfl, Nat.le_of_ble_eq_true rfl⟩ d_Tx_init_9 (rv_kv (fun hp42 ehp42 => ?_))
  have ehs42 := ehp42.symm
  subst ehs42
  refine rv_putF (fs' := [.ref n, .null, .long 0, .int 0, .int 0, .int 0, .long 0, .long 0]) ka_Tx hf41_0 rfl 0 (by decide) (wi_Tx_init _ (List.mem_of_getElem? (i := 7) rfl)) rfl rfl rfl rfl rfl (Nat.le_of_ble_eq_true rfl) rfl d_Tx_init_12
    (fun hp43 ehp43 => ?_)
  have hf43_0 : hp43 a = some (.inr (2, [.ref n, .null, .long 0, .int 0, .int 0, .int 0, .long 0, .long 0])) := by rw [ehp43]; exact hp_us
  have hf43_1 : hp43 n = some (.inr (0, [.long 0, .long 0, .long 0, .long 0])) := by rw [ehp43, hp_un (hp_ne hf41_q hf41_0 (fun q => by first | cases q | simp at q))]; exact hf41_q
  refine rv_aload_n d_Tx_init_15 rfl 0 rfl ?_
  refine rv_new (ci := 1) (fs := [.null, .null, .int 0]) (kc1 := 2) (ks1 := 40) ka_Keys rfl (wi_Tx_init _ (List.mem_of_getElem? (i := 8) rfl)) (wi_Tx_init _ (List.mem_of_getElem? (i := 9) rfl)) (wi_Tx_init _ (List.mem_of_getElem? (i := 10) rfl)) (fun j hj => by rcases (show j = 0 ∨ j = 1 ∨ j = 2 by omega) with rfl | rfl | rfl <;> rfl) ⟨by omega, by omega⟩ d_Tx_init_16 (fun k hp44 hfr44 ehp44 => ?_)
  have hf44_0 : hp44 a = some (.inr (2, [.ref n, .null, .long 0, .int 0, .int 0, .int 0, .long 0, .long 0])) := by rw [ehp44, hp_un (hp_nn hf43_0 hfr44)]; exact hf43_0
  have hf44_1 : hp44 n = some (.inr (0, [.long 0, .long 0, .long 0, .long 0])) := by rw [ehp44, hp_un (hp_nn hf43_1 hfr44)]; exact hf43_1
  have hf44_q : hp44 k = some (.inr (1, [.null, .null, .int 0])) := by rw [ehp44]; exact hp_us
  refine rv_dup d_Tx_init_19 rfl ?_
  refine rv_callIN (kc' := 2) (ks' := 40) (kc1 := 0) (ks1 := 0) (As := []) (rest := [.ref k, .ref a]) (c_Keys_init hf44_q) ok_Keys_init (host := "PoolDesk") (List.mem_of_getElem? (i := 4) rfl) (wi_Tx_init _ (List.mem_of_getElem? (i := 11) rfl)) rfl rfl rfl rfl (Nat.le_of_ble_eq_true rfl) (Nat.le_of_ble_eq_true rfl) ⟨Nat.le_of_ble_eq_true rfl, Nat.le_of_ble_eq_true rfl⟩ d_Tx_init_20 (rv_kv (fun hp45 ehp45 => ?_))
  obtain ⟨w, i, gw, gi, gwi, ekp⟩ := ehp45
  have hg45_a : hp45 a = some (.inr (2, [.ref n, .null, .long 0, .int 0, .int 0, .int 0, .long 0, .long 0])) := by rw [ekp, kx_put_un (hp_ne hf44_0 hf44_q (fun q => by first | cases q | simp at q)) (hp_nn hf44_0 gw) (hp_nn hf44_0 gi)]; exact hf44_0
  have hg45_n : hp45 n = some (.inr (0, [.long 0, .long 0, .long 0, .long 0])) := by rw [ekp, kx_put_un (hp_ne hf44_1 hf44_q (fun q => by first | cases q | simp at q)) (hp_nn hf44_1 gw) (hp_nn hf44_1 gi)]; exact hf44_1
  have n1 : k ≠ w := hp_nn hf44_q gw
  have n2 : k ≠ i := hp_nn hf44_q gi
  have kx : kx_At ca hp45 k w i kv_0 := by rw [ekp]; exact ⟨hp_us, by unfold kx_put; rw [hp_un n1.symm, hp_un gwi, hp_us], by unfold kx_put; rw [hp_un n2.symm, hp_us], Nat.zero_le _⟩
  refine rv_putF (fs' := [.ref n, .ref k, .long 0, .int 0, .int 0, .int 0, .long 0, .long 0]) ka_Tx hg45_a rfl 1 (by decide) (wi_Tx_init _ (List.mem_of_getElem? (i := 12) rfl)) rfl rfl rfl rfl rfl (Nat.le_of_ble_eq_true rfl) rfl d_Tx_init_23
    (fun hp46 ehp46 => ?_)
  have hf46_0 : hp46 a = some (.inr (2, [.ref n, .ref k, .long 0, .int 0, .int 0, .int 0, .long 0, .long 0])) := by rw [ehp46]; exact hp_us
  have hf46_1 : hp46 n = some (.inr (0, [.long 0, .long 0, .long 0, .long 0])) := by rw [ehp46, hp_un (hp_ne hg45_n hg45_a (fun q => by first | cases q | simp at q))]; exact hg45_n
  have k1 : hp_ke a hp hp41 := by rw [ehp41]; exact hp_ke_new hp_ke_rf hfr41
  have k2 : hp_ke a hp hp43 := by rw [ehp43]; exact hp_ke_own k1
  have gk0 := hfr44
  have gka : k ≠ a := fun z => by subst z; rw [ehp43, hp_us] at gk0; cases gk0
  have gk : hp k = none := hp_ke_none k2 gk0 gka
  have k3 : hp_ke a hp hp44 := by rw [ehp44]; exact hp_ke_new k2 gk
  have k4 : hp_ke a hp hp45 := by rw [ekp]; exact hp_ke_tr k3 (kx_put_ke gw gi) (Or.inl gk)
  have k5 : hp_ke a hp hp46 := by rw [ehp46]; exact hp_ke_own k4
  have ga3 : hp44 a ≠ none := by rw [ehp44, hp_un gka.symm, ehp43, hp_us]; intro z; cases z
  have gwa : w ≠ a := fun z => ga3 (by rw [← z]; exact gw)
  have gia : i ≠ a := fun z => ga3 (by rw [← z]; exact gi)
  have fk : ∀ {b : Nat} {y : va_E}, hp45 b = some y → b ≠ a → hp46 b = some y := fun hb hba => by rw [ehp46, hp_un hba]; exact hb
  exact rv_vreturn ⟨rfl, n, k, w, i, hfr41, gk, hp_ke_none k3 gw gwa, hp_ke_none k3 gi gia, hf46_0, hf46_1, ⟨fk kx.1 gka, fk kx.2.1 gwa, fk kx.2.2.1 gia, kx.2.2.2⟩, k5⟩ d_Tx_init_26 rfl
end
section
/-! The pool's making; the desk's picture. -/
section MakePool
variable {ca : Nat → ClassId} {hp0 hp : hp_T} {po : Nat} {L : po_L}
def pi_L (L : po_L) (i t n k w z : Nat) : po_L := (L.1, va_up L.2.1 i t, va_up L.2.2.1 i n, va_up L.2.2.2.1 i k, va_up L.2.2.2.2.1 i w, va_up L.2.2.2.2.2 i z)
def pi_inj (f : Nat → Nat) (i : Nat) : Prop := ∀ p q, p < i → q < i → f p = f q → p = q
def pi_At (ca : Nat → ClassId) (hp0 hp : hp_T) (po : Nat) (L : po_L) (i : Nat) : Prop :=
  hp po = some (.inr (3, [.ref L.1, .long 0, .int 0])) ∧ (∃ f : Nat → Option Nat, hp L.1 = some (.inl (ca 2, 41, .inr (.inr (.inr (.inr f))))) ∧ ∀ p, p < i → f p = some (L.2.1 p)) ∧ (∀ p, p < i → tx_At ca hp L p tx_0) ∧ (pi_inj L.2.1 i ∧ pi_inj L.2.2.1 i ∧ pi_inj L.2.2.2.1 i ∧ pi_inj L.2.2.2.2.1 i ∧ pi_inj L.2.2.2.2.2 i) ∧ (∀ p, p < i → hp0 (L.2.1 p) = none ∧ hp0 (L.2.2.1 p) = none ∧ hp0 (L.2.2.2.1 p) = none ∧ hp0 (L.2.2.2.2.1 p) = none ∧ hp0 (L.2.2.2.2.2 p) = none) ∧ hp0 L.1 = none ∧ hp_ke po hp0 hp
theorem pi_inj_s {f : Nat → Nat} {i a : Nat} (h : pi_inj f i) (ha : ∀ p, p < i → f p ≠ a) : pi_inj (va_up f i a) (i + 1) := by
  intro p q hp hq e
  by_cases e1 : p = i
  · by_cases e2 : q = i
    · omega
    · subst e1
      rw [va_up_s, va_up_n e2] at e
      exact absurd e.symm (ha q (by omega))
  · by_cases e2 : q = i
    · subst e2
      rw [va_up_s, va_up_n e1] at e
      exact absurd e (ha p (by omega))
    · rw [va_up_n e1, va_up_n e2] at e
      exact h p q (by omega) (by omega) e
theorem pi_step {i t n k w z : Nat} {hp2 : hp_T} {f : Nat → Option Nat} (h : pi_At ca hp0 hp po L i) (hf : hp L.1 = some (.inl (ca 2, 41, .inr (.inr (.inr (.inr f)))))) (hfp : ∀ p, p < i → f p = some (L.2.1 p)) {x : va_E} (ht : hp t = none) (hn : hp_up hp t x n = none) (hk : hp_up hp t x k = none) (hw : hp_up hp t x w = none) (hz : hp_up hp t x z = none)
    (h2t : hp2 t = some (.inr (2, [.ref n, .ref k, .long 0, .int 0, .int 0, .int 0, .long 0, .long 0]))) (h2n : hp2 n = some (.inr (0, nm_F nm_0))) (h2k : kx_At ca hp2 k w z kv_0) (hke : hp_ke t (hp_up hp t x) hp2) : pi_At ca hp0 (hp_up hp2 L.1 (.inl (ca 2, 41, .inr (.inr (.inr (.inr (va_up f i (some t)))))))) po (pi_L L i t n k w z) (i + 1) := by
  obtain ⟨a1, -, a3, ⟨j1, j2, j3, j4, j5⟩, a5, a6, a7⟩ := h
  obtain ⟨nt, hn⟩ := hp_fu hn
  obtain ⟨kt, hk⟩ := hp_fu hk
  obtain ⟨wt, hw⟩ := hp_fu hw
  obtain ⟨zt, hz⟩ := hp_fu hz
  -- what stood stays
  have st : ∀ {b : Nat} {y : va_E}, hp b = some y → hp2 b = some y := fun {b y} hb => by
    have hbt : b ≠ t := hp_nn hb ht
    rw [hke b (by rw [hp_un hbt, hb]; intro q; cases q) hbt, hp_un hbt]
    exact hb
  have st3 : ∀ {b : Nat} {y : va_E}, hp2 b = some y → b ≠ L.1 → hp_up hp2 L.1 (.inl (ca 2, 41, .inr (.inr (.inr (.inr (va_up f i (some t))))))) b = some y := fun hb hbl => by rw [hp_un hbl]; exact hb
  have l1 := st hf
  have dj : ∀ {b : Nat} {y : va_E}, hp2 b = some y → (∀ c g, y ≠ .inl (c, 41, .inr (.inr (.inr (.inr g))))) → hp_up hp2 L.1 (.inl (ca 2, 41, .inr (.inr (.inr (.inr (va_up f i (some t))))))) b = some y := fun hb hy => st3 hb (hp_ne hb l1 (hy _ _))
  have un0 : ∀ {b : Nat}, hp b = none → b ≠ po → hp0 b = none := fun hb hbp => hp_ke_none a7 hb hbp
  have po' : ∀ {b : Nat}, hp b = none → b ≠ po := fun hb e => by
    subst e
    rw [a1] at hb
    cases hb
  refine ⟨dj (st a1) (fun c g q => by first | cases q | simp at q), ⟨va_up f i (some t), hp_us, fun p hp1 => ?_⟩, fun p hp1 => ?_, ⟨pi_inj_s j1 (fun p hp1 => hp_nn (a3 p hp1).1 ht), pi_inj_s j2 (fun p hp1 => hp_nn (a3 p hp1).2.1 hn), pi_inj_s j3 (fun p hp1 => hp_nn (a3 p hp1).2.2.1 hk), pi_inj_s j4 (fun p hp1 => hp_nn (a3 p hp1).2.2.2.1 hw), pi_inj_s j5 (fun p hp1 => hp_nn (a3 p hp1).2.2.2.2.1 hz)⟩, fun p hp1 => ?_, a6, ?_⟩
  · by_cases e : p = i
    · subst e
      show va_up f p (some t) p = some (va_up L.2.1 p t p)
      rw [va_up_s, va_up_s]
    · show va_up f i (some t) p = some (va_up L.2.1 i t p)
      rw [va_up_n e, va_up_n e]
      exact hfp p (by omega)
  · by_cases e : p = i
    · subst e
      unfold tx_At tx_F
      show _ ∧ _
      simp only [pi_L, va_up_s]
      exact ⟨dj h2t (fun c g q => by first | cases q | simp at q), dj h2n (fun c g q => by first | cases q | simp at q), dj h2k.1 (fun c g q => by first | cases q | simp at q), dj h2k.2.1 (fun c g q => by first | cases q | simp at q), dj h2k.2.2.1 (fun c g q => by first | cases q | simp at q), h2k.2.2.2⟩
    · have g := a3 p (by omega)
      unfold tx_At tx_F at g ⊢
      simp only [pi_L, va_up_n e]
      exact ⟨dj (st g.1) (fun c g q => by first | cases q | simp at q), dj (st g.2.1) (fun c g q => by first | cases q | simp at q), dj (st g.2.2.1) (fun c g q => by first | cases q | simp at q), dj (st g.2.2.2.1) (fun c g q => by first | cases q | simp at q), dj (st g.2.2.2.2.1) (fun c g q => by first | cases q | simp at q), g.2.2.2.2.2⟩
  · by_cases e : p = i
    · subst e
      simp only [pi_L, va_up_s]
      exact ⟨un0 ht (po' ht), un0 hn (po' hn), un0 hk (po' hk), un0 hw (po' hw), un0 hz (po' hz)⟩
    · simp only [pi_L, va_up_n e]
      exact a5 p (by omega)
  · intro b hb hbp
    have hb1 := a7 b hb hbp
    have hbn : hp b ≠ none := by rw [hb1]; exact hb
    have hbt : b ≠ t := fun q => hbn (by rw [q]; exact ht)
    have hbl : b ≠ L.1 := fun q => hb (by rw [q]; exact a6)
    rw [hp_un hbl, hke b (by rw [hp_un hbt]; exact hbn) hbt, hp_un hbt]
    exact hb1
theorem pi_end (h : pi_At ca hp0 hp po L 41) : po_At ca hp po L (0, 0, fun _ => tx_0) ∧ po_ok L := by
  obtain ⟨a1, a2, a3, a4, -⟩ := h
  exact ⟨⟨a1, a2, a3⟩, a4⟩
end MakePool
section Desk
/-- where a desk's cells lie: itself, the name in hand, the keys told, their words, their indexes, the pool, the row, its words, the pool's -/
abbrev dk_L : Type := Nat × Nat × Nat × Nat × Nat × Nat × Nat × Nat × po_L
abbrev dk_x (L : dk_L) : Nat := L.1
abbrev dk_n (L : dk_L) : Nat := L.2.1
abbrev dk_k (L : dk_L) : Nat := L.2.2.1
abbrev dk_w (L : dk_L) : Nat := L.2.2.2.1
abbrev dk_i (L : dk_L) : Nat := L.2.2.2.2.1
abbrev dk_p (L : dk_L) : Nat := L.2.2.2.2.2.1
abbrev dk_r (L : dk_L) : Nat := L.2.2.2.2.2.2.1
abbrev dk_q (L : dk_L) : Nat := L.2.2.2.2.2.2.2.1
abbrev dk_P (L : dk_L) : po_L := L.2.2.2.2.2.2.2.2
/-- a desk: the name in hand, the keys told, the pool, the row's length and words -/
abbrev dk_S : Type := nm_T × kv_T × po_S × Nat × (Nat → Int64)
variable {ca : Nat → ClassId} {hp hp1 : hp_T} {L : dk_L} {S : dk_S}
def dk_At (ca : Nat → ClassId) (hp : hp_T) (L : dk_L) (S : dk_S) : Prop := hp (dk_x L) = some (.inr (5, [.ref (dk_n L), .ref (dk_k L), .ref (dk_p L), .ref (dk_r L)])) ∧ hp (dk_n L) = some (.inr (0, nm_F S.1)) ∧ kx_At ca hp (dk_k L) (dk_w L) (dk_i L) S.2.1 ∧ po_At ca hp (dk_p L) (dk_P L) S.2.2.1 ∧ hp (dk_r L) = some (.inr (4, [.ref (dk_q L), .int (nI S.2.2.2.1)])) ∧ hp (dk_q L) = some (.inl (ca 1, 164, .inr (.inl S.2.2.2.2))) ∧ S.2.2.2.1 ≤ 41
def dk_ok (L : dk_L) : Prop := po_ok (dk_P L) ∧ (∀ p, p < 41 → dk_n L ≠ (dk_P L).2.2.1 p) ∧ (∀ p, p < 41 → dk_k L ≠ (dk_P L).2.2.2.1 p ∧ dk_w L ≠ (dk_P L).2.2.2.2.1 p ∧ dk_i L ≠ (dk_P L).2.2.2.2.2 p) ∧ (∀ p, p < 41 → dk_q L ≠ (dk_P L).2.2.2.2.1 p) ∧ dk_q L ≠ dk_w L
def dk_fp (L : dk_L) (b : Nat) : Prop := b = dk_x L ∨ b = dk_n L ∨ b = dk_k L ∨ b = dk_w L ∨ b = dk_i L ∨ b = dk_r L ∨ b = dk_q L ∨ po_fp (dk_p L) (dk_P L) b
def dk_out (L : dk_L) (hp hp1 : hp_T) : Prop := ∀ b, ¬ dk_fp L b → hp1 b = hp b
theorem dk_out_rf : dk_out L hp hp := fun _ _ => rfl
theorem dk_out_tr {hp2 : hp_T} (h : dk_out L hp hp1) (h2 : dk_out L hp1 hp2) : dk_out L hp hp2 := fun b hb => (h2 b hb).trans (h b hb)
theorem dk_out_up {a : Nat} {x : va_E} (ha : dk_fp L a) : dk_out L hp (hp_up hp a x) := fun b hb => hp_un (fun e => hb (by rw [e]; exact ha))
theorem dk_out_po (h : po_out (dk_p L) (dk_P L) hp hp1) : dk_out L hp hp1 := fun b hb => h b (fun z => hb (Or.inr (Or.inr (Or.inr (Or.inr (Or.inr (Or.inr (Or.inr z))))))))
/-- a cell of another kind than the pool's isn't the pool's -/
theorem po_far {po b : Nat} {PL : po_L} {P : po_S} {y : va_E} (h : po_At ca hp po PL P) (hb : hp b = some y) (h0 : ∀ fs, y ≠ .inr (3, fs)) (h1 : ∀ c n f, y ≠ .inl (c, n, .inr (.inr (.inr (.inr f))))) (h2 : ∀ fs, y ≠ .inr (2, fs)) (h3 : ∀ p, p < 41 → b ≠ PL.2.2.1 p) (h4 : ∀ p, p < 41 → b ≠ PL.2.2.2.1 p) (h5 : ∀ p, p < 41 → b ≠ PL.2.2.2.2.1 p) (h6 : ∀ p, p < 41 → b ≠ PL.2.2.2.2.2 p) : ¬ po_fp po PL b := by
  obtain ⟨f, hf, -⟩ := h.2.1
  rintro (e | e | ⟨p, hp0, e | e | e | e | e⟩)
  · exact hp_ne hb h.1 (h0 _) e
  · exact hp_ne hb hf (h1 _ _ _) e
  · exact hp_ne hb (h.2.2 p hp0).1 (h2 _) e
  · exact h3 p hp0 e
  · exact h4 p hp0 e
  · exact h5 p hp0 e
  · exact h6 p hp0 e
theorem dk_far (h : dk_At ca hp L S) (ho : dk_ok L) : ¬ po_fp (dk_p L) (dk_P L) (dk_x L) ∧ ¬ po_fp (dk_p L) (dk_P L) (dk_n L) ∧ ¬ po_fp (dk_p L) (dk_P L) (dk_k L) ∧ ¬ po_fp (dk_p L) (dk_P L) (dk_w L) ∧ ¬ po_fp (dk_p L) (dk_P L) (dk_i L) ∧ ¬ po_fp (dk_p L) (dk_P L) (dk_r L) ∧ ¬ po_fp (dk_p L) (dk_P L) (dk_q L) := by
  obtain ⟨a1, a2, a3, a4, a5, a6, -⟩ := h
  obtain ⟨o1, o2, o3, o4, o5⟩ := ho
  have g := a4.2.2
  refine ⟨po_far a4 a1 (fun fs q => by cases q) (fun c n f q => by cases q) (fun fs q => by cases q) (fun p hp0 => hp_ne a1 (g p hp0).2.1 (fun q => by cases q)) (fun p hp0 => hp_ne a1 (g p hp0).2.2.1 (fun q => by cases q)) (fun p hp0 => hp_ne a1 (g p hp0).2.2.2.1 (fun q => by cases q)) (fun p hp0 => hp_ne a1 (g p hp0).2.2.2.2.1 (fun q => by cases q)), ?_, ?_, ?_, ?_, ?_, ?_⟩
  · exact po_far a4 a2 (fun fs q => by cases q) (fun c n f q => by cases q) (fun fs q => by cases q) o2 (fun p hp0 => hp_ne a2 (g p hp0).2.2.1 (fun q => by cases q)) (fun p hp0 => hp_ne a2 (g p hp0).2.2.2.1 (fun q => by cases q)) (fun p hp0 => hp_ne a2 (g p hp0).2.2.2.2.1 (fun q => by cases q))
  · exact po_far a4 a3.1 (fun fs q => by cases q) (fun c n f q => by cases q) (fun fs q => by cases q) (fun p hp0 => hp_ne a3.1 (g p hp0).2.1 (fun q => by cases q)) (fun p hp0 => (o3 p hp0).1) (fun p hp0 => hp_ne a3.1 (g p hp0).2.2.2.1 (fun q => by cases q)) (fun p hp0 => hp_ne a3.1 (g p hp0).2.2.2.2.1 (fun q => by cases q))
  · exact po_far a4 a3.2.1 (fun fs q => by cases q) (fun c n f q => by simp at q) (fun fs q => by cases q) (fun p hp0 => hp_ne a3.2.1 (g p hp0).2.1 (fun q => by cases q)) (fun p hp0 => hp_ne a3.2.1 (g p hp0).2.2.1 (fun q => by cases q)) (fun p hp0 => (o3 p hp0).2.1) (fun p hp0 => hp_ne a3.2.1 (g p hp0).2.2.2.2.1 (fun q => by simp at q))
  · exact po_far a4 a3.2.2.1 (fun fs q => by cases q) (fun c n f q => by simp at q) (fun fs q => by cases q) (fun p hp0 => hp_ne a3.2.2.1 (g p hp0).2.1 (fun q => by cases q)) (fun p hp0 => hp_ne a3.2.2.1 (g p hp0).2.2.1 (fun q => by cases q)) (fun p hp0 => hp_ne a3.2.2.1 (g p hp0).2.2.2.1 (fun q => by simp at q)) (fun p hp0 => (o3 p hp0).2.2)
  · exact po_far a4 a5 (fun fs q => by cases q) (fun c n f q => by cases q) (fun fs q => by cases q) (fun p hp0 => hp_ne a5 (g p hp0).2.1 (fun q => by cases q)) (fun p hp0 => hp_ne a5 (g p hp0).2.2.1 (fun q => by cases q)) (fun p hp0 => hp_ne a5 (g p hp0).2.2.2.1 (fun q => by cases q)) (fun p hp0 => hp_ne a5 (g p hp0).2.2.2.2.1 (fun q => by cases q))
  · exact po_far a4 a6 (fun fs q => by cases q) (fun c n f q => by simp at q) (fun fs q => by cases q) (fun p hp0 => hp_ne a6 (g p hp0).2.1 (fun q => by cases q)) (fun p hp0 => hp_ne a6 (g p hp0).2.2.1 (fun q => by cases q)) o4 (fun p hp0 => hp_ne a6 (g p hp0).2.2.2.2.1 (fun q => by simp at q))
/-- the pool moves alone -/
theorem dk_setP (h : dk_At ca hp L S) (ho : dk_ok L) {P : po_S} (hP : po_At ca hp1 (dk_p L) (dk_P L) P) (hu : po_out (dk_p L) (dk_P L) hp hp1) : dk_At ca hp1 L (S.1, S.2.1, P, S.2.2.2) := by
  obtain ⟨f1, f2, f3, f4, f5, f6, f7⟩ := dk_far h ho
  obtain ⟨a1, a2, a3, -, a5, a6, a7⟩ := h
  exact ⟨by rw [hu _ f1]; exact a1, by rw [hu _ f2]; exact a2, kx_congr a3 (hu _ f3) (hu _ f4) (hu _ f5), hP, by rw [hu _ f6]; exact a5, by rw [hu _ f7]; exact a6, a7⟩
/-- a pool stays where nothing of it is written -/
theorem po_keep {po : Nat} {PL : po_L} {P : po_S} (h : po_At ca hp po PL P) (hu : ∀ b, po_fp po PL b → hp1 b = hp b) : po_At ca hp1 po PL P := by
  obtain ⟨f, hf, hfp⟩ := h.2.1
  refine ⟨by rw [hu _ po_fp_po]; exact h.1, ⟨f, by rw [hu _ (Or.inr (Or.inl rfl))]; exact hf, hfp⟩, fun p hp0 => ?_⟩
  exact tx_congr (h.2.2 p hp0) (hu _ (po_fp_tx hp0)) (hu _ (po_fp_nm hp0)) (hu _ (po_fp_ks hp0)) (hu _ (po_fp_wk hp0)) (hu _ (po_fp_ik hp0))
theorem po_keep1 {po a : Nat} {PL : po_L} {P : po_S} {x : va_E} (h : po_At ca hp po PL P) (ha : ¬ po_fp po PL a) : po_At ca (hp_up hp a x) po PL P := po_keep h (fun b hb => hp_un (fun e => ha (by rw [← e]; exact hb)))
/-- the name in hand is told -/
theorem dk_setN (h : dk_At ca hp L S) (ho : dk_ok L) (m : nm_T) : dk_At ca (hp_up hp (dk_n L) (.inr (0, nm_F m))) L (m, S.2) := by
  obtain ⟨f1, f2, f3, f4, f5, f6, f7⟩ := dk_far h ho
  obtain ⟨a1, a2, a3, a4, a5, a6, a7⟩ := h
  have k : ∀ {b : Nat} {y : va_E}, hp b = some y → (∀ fs, y ≠ .inr (0, fs)) → hp_up hp (dk_n L) (.inr (0, nm_F m)) b = hp b := fun hb hy => hp_un (hp_ne hb a2 (hy _))
  exact ⟨by rw [k a1 (fun fs q => by cases q)]; exact a1, hp_us, kx_congr a3 (k a3.1 (fun fs q => by cases q)) (k a3.2.1 (fun fs q => by cases q)) (k a3.2.2.1 (fun fs q => by cases q)), po_keep1 a4 f2, by rw [k a5 (fun fs q => by cases q)]; exact a5, by rw [k a6 (fun fs q => by cases q)]; exact a6, a7⟩
/-- the keys told are written -/
theorem dk_setK (h : dk_At ca hp L S) (ho : dk_ok L) {v : kv_T} (hv : v.1 ≤ 8) : dk_At ca (kx_put ca hp (dk_k L) (dk_w L) (dk_i L) v) L (S.1, v, S.2.2) := by
  obtain ⟨f1, f2, f3, f4, f5, f6, f7⟩ := dk_far h ho
  obtain ⟨a1, a2, a3, a4, a5, a6, a7⟩ := h
  obtain ⟨o1, o2, o3, o4, o5⟩ := ho
  refine ⟨?_, ?_, kx_put_at a3 hv, po_keep a4 (fun b hb => kx_put_un (fun e => f3 (by rw [← e]; exact hb)) (fun e => f4 (by rw [← e]; exact hb)) (fun e => f5 (by rw [← e]; exact hb))), ?_, ?_, a7⟩
  · rw [kx_put_un (hp_ne a1 a3.1 (fun q => by cases q)) (hp_ne a1 a3.2.1 (fun q => by cases q)) (hp_ne a1 a3.2.2.1 (fun q => by cases q))]
    exact a1
  · rw [kx_put_un (hp_ne a2 a3.1 (fun q => by cases q)) (hp_ne a2 a3.2.1 (fun q => by cases q)) (hp_ne a2 a3.2.2.1 (fun q => by cases q))]
    exact a2
  · rw [kx_put_un (hp_ne a5 a3.1 (fun q => by cases q)) (hp_ne a5 a3.2.1 (fun q => by cases q)) (hp_ne a5 a3.2.2.1 (fun q => by cases q))]
    exact a5
  · rw [kx_put_un (hp_ne a6 a3.1 (fun q => by cases q)) o5 (hp_ne a6 a3.2.2.1 (fun q => by simp at q))]
    exact a6
theorem dk_outK {v : kv_T} : dk_out L hp (kx_put ca hp (dk_k L) (dk_w L) (dk_i L) v) := fun b hb => kx_put_un (fun e => hb (Or.inr (Or.inr (Or.inl e)))) (fun e => hb (Or.inr (Or.inr (Or.inr (Or.inl e))))) (fun e => hb (Or.inr (Or.inr (Or.inr (Or.inr (Or.inl e))))))
/-- the keys are forgotten -/
theorem dk_clear (h : dk_At ca hp L S) : hp_up hp (dk_k L) (.inr (1, [.ref (dk_w L), .ref (dk_i L), .int (nI 0)])) = kx_put ca hp (dk_k L) (dk_w L) (dk_i L) (0, S.2.1.2) := by
  have a := h.2.2.1
  unfold kx_put
  rw [hp_self a.2.1, hp_self a.2.2.1]
/-- the row is written -/
theorem dk_setR (h : dk_At ca hp L S) (ho : dk_ok L) {n : Nat} {f : Nat → Int64} (hn : n ≤ 41) : dk_At ca (hp_up (hp_up hp (dk_q L) (.inl (ca 1, 164, .inr (.inl f)))) (dk_r L) (.inr (4, [.ref (dk_q L), .int (nI n)]))) L (S.1, S.2.1, S.2.2.1, n, f) := by
  obtain ⟨f1, f2, f3, f4, f5, f6, f7⟩ := dk_far h ho
  obtain ⟨a1, a2, a3, a4, a5, a6, a7⟩ := h
  obtain ⟨o1, o2, o3, o4, o5⟩ := ho
  have k : ∀ {b : Nat}, b ≠ dk_r L → b ≠ dk_q L → hp_up (hp_up hp (dk_q L) (.inl (ca 1, 164, .inr (.inl f)))) (dk_r L) (.inr (4, [.ref (dk_q L), .int (nI n)])) b = hp b := fun h1 h2 => by rw [hp_un h1, hp_un h2]
  refine ⟨?_, ?_, kx_congr a3 ?_ ?_ ?_, po_keep a4 (fun b hb => k (fun e => f6 (by rw [← e]; exact hb)) (fun e => f7 (by rw [← e]; exact hb))), hp_us, ?_, hn⟩
  · rw [k (hp_ne a1 a5 (fun q => by cases q)) (hp_ne a1 a6 (fun q => by cases q))]
    exact a1
  · rw [k (hp_ne a2 a5 (fun q => by cases q)) (hp_ne a2 a6 (fun q => by cases q))]
    exact a2
  · exact k (hp_ne a3.1 a5 (fun q => by cases q)) (hp_ne a3.1 a6 (fun q => by cases q))
  · exact k (hp_ne a3.2.1 a5 (fun q => by cases q)) (fun e => o5 e.symm)
  · exact k (hp_ne a3.2.2.1 a5 (fun q => by cases q)) (hp_ne a3.2.2.1 a6 (fun q => by simp at q))
  · rw [hp_un (hp_ne a6 a5 (fun q => by cases q)), hp_us]
theorem dk_outR {n : Nat} {f : Nat → Int64} : dk_out L hp (hp_up (hp_up hp (dk_q L) (.inl (ca 1, 164, .inr (.inl f)))) (dk_r L) (.inr (4, [.ref (dk_q L), .int (nI n)]))) := fun b hb => by rw [hp_un (fun e => hb (Or.inr (Or.inr (Or.inr (Or.inr (Or.inr (Or.inl e))))))), hp_un (fun e => hb (Or.inr (Or.inr (Or.inr (Or.inr (Or.inr (Or.inr (Or.inl e)))))))) ]
theorem dk_clearR (h : dk_At ca hp L S) : hp_up hp (dk_r L) (.inr (4, [.ref (dk_q L), .int (nI 0)])) = hp_up (hp_up hp (dk_q L) (.inl (ca 1, 164, .inr (.inl S.2.2.2.2)))) (dk_r L) (.inr (4, [.ref (dk_q L), .int (nI 0)])) := by rw [hp_self h.2.2.2.2.2.1]
end Desk
section MakeDesk
variable {ca : Nat → ClassId} {hp : hp_T} {po : Nat} {PL : po_L} {P : po_S}
theorem po_some (h : po_At ca hp po PL P) {b : Nat} (hb : po_fp po PL b) : hp b ≠ none := by
  obtain ⟨f, hf, -⟩ := h.2.1
  intro z
  rcases hb with e | e | ⟨p, hp0, e⟩
  · rw [e, h.1] at z
    cases z
  · rw [e, hf] at z
    cases z
  · have g := h.2.2 p hp0
    rcases e with e | e | e | e | e
    · rw [e, g.1] at z
      cases z
    · rw [e, g.2.1] at z
      cases z
    · rw [e, g.2.2.1] at z
      cases z
    · rw [e, g.2.2.2.1] at z
      cases z
    · rw [e, g.2.2.2.2.1] at z
      cases z
/-- a desk's or a row's cell isn't the pool's -/
theorem po_nc (h : po_At ca hp po PL P) {b c : Nat} {fs : List Value} (hb : hp b = some (.inr (c, fs))) (hc : 4 ≤ c) : ¬ po_fp po PL b := by
  obtain ⟨f, hf, -⟩ := h.2.1
  rintro (e | e | ⟨p, hp0, e | e | e | e | e⟩)
  · rw [e, h.1] at hb
    cases hb
    omega
  · rw [e, hf] at hb
    cases hb
  · rw [e, (h.2.2 p hp0).1] at hb
    cases hb
    omega
  · rw [e, (h.2.2 p hp0).2.1] at hb
    cases hb
    omega
  · rw [e, (h.2.2 p hp0).2.2.1] at hb
    cases hb
    omega
  · rw [e, (h.2.2 p hp0).2.2.2.1] at hb
    cases hb
  · rw [e, (h.2.2 p hp0).2.2.2.2.1] at hb
    cases hb
theorem po_nx (h : po_At ca hp po PL P) {b : Nat} {fs : List Value} (hb : hp b = some (.inr (5, fs))) : ¬ po_fp po PL b := po_nc h hb (by decide)
theorem po_nr (h : po_At ca hp po PL P) {b : Nat} {fs : List Value} (hb : hp b = some (.inr (4, fs))) : ¬ po_fp po PL b := po_nc h hb (by decide)
end MakeDesk
end
section
def wl_Pool_init : List Cond := [.fieldLink "PoolDesk$Pool" 11 "PoolDesk$Pool" "places" "[LPoolDesk$Transaction;", .classLink "PoolDesk$Pool" 9 "PoolDesk$Transaction", .instantiable "PoolDesk$Transaction" 8, .initialized "PoolDesk$Transaction", .instanceMethod y_Tx_init, .methodLink "PoolDesk$Pool" 3 Lib.objectInit, .instanceMethod Lib.objectInit, .code Lib.objectInit ⟨#[0xb1]⟩ 1 none]
theorem wi_Pool_init : ∀ w ∈ wl_Pool_init, w ∈ ma_tbl := by decide +kernel
def wl_Desk_init : List Cond := [.methodLink "PoolDesk" 3 Lib.objectInit, .instanceMethod Lib.objectInit, .code Lib.objectInit ⟨#[0xb1]⟩ 1 none, .classLink "PoolDesk" 9 "PoolDesk$Name", .instantiable "PoolDesk$Name" 4, .initialized "PoolDesk$Name", .instanceMethod y_Name_init, .fieldLink "PoolDesk" 12 "PoolDesk" "hand" "LPoolDesk$Name;", .classLink "PoolDesk" 16 "PoolDesk$Keys", .instantiable "PoolDesk$Keys" 3, .initialized "PoolDesk$Keys", .instanceMethod y_Keys_init, .fieldLink "PoolDesk" 19 "PoolDesk" "told" "LPoolDesk$Keys;", .classLink "PoolDesk" 23 "PoolDesk$Pool", .instantiable "PoolDesk$Pool" 3, .initialized "PoolDesk$Pool", .methodLink "PoolDesk" 25 y_Pool_init, .instanceMethod y_Pool_init, .fieldLink "PoolDesk" 26 "PoolDesk" "pool" "LPoolDesk$Pool;", .classLink "PoolDesk" 30 "PoolDesk$Row", .instantiable "PoolDesk$Row" 2, .initialized "PoolDesk$Row", .instanceMethod y_Row_init, .fieldLink "PoolDesk" 33 "PoolDesk" "block" "LPoolDesk$Row;"]
theorem wi_Desk_init : ∀ w ∈ wl_Desk_init, w ∈ ma_tbl := by decide +kernel
set_option maxHeartbeats 1000000 in
set_option maxRecDepth 100000 in
theorem c_Pool_init_l {l : Launch} {D : va_G} {ca : Nat → ClassId} {d : Nat} {po : Nat} {hp0 : hp_T} : ∀ (m i : Nat) (hp : hp_T) (L : po_L), i + m = 41 → pi_At ca hp0 hp po L i → ma_V l D ca ma_T M_Pool_init (d + 3) (5 * m) (55 * m) hp (ma_qv (fun hp1 => ∃ L, pi_At ca hp0 hp1 po L 41)) 15 [(1, .int (nI i)), (0, .ref po)] [] := by
  intro m
  induction m with
  | zero =>
    intro i hp L hi hS
    obtain rfl : i = 41 := by omega
    refine rv_iload_n d_Pool_init_15 rfl 0 rfl ?_
    refine rv_bipush (v := nI 41) d_Pool_init_16 (by decide) ?_
    refine rv_icmp_ge (tgt := 40) d_Pool_init_18 (by decide) (fun c_18 => ?_) (fun c_18 => ?_)
    · exact rv_vreturn ⟨rfl, L, hS⟩ d_Pool_init_40 rfl
    · exact absurd (nI_le (by omega) (by omega)) c_18
  | succ m ih =>
    intro i hp L hi hS
    obtain ⟨f, hf, hfp⟩ := hS.2.1
    refine rv_iload_n d_Pool_init_15 rfl 0 rfl ?_
    refine rv_bipush (v := nI 41) d_Pool_init_16 (by decide) ?_
    refine rv_icmp_ge (tgt := 40) d_Pool_init_18 (by decide) (fun c_18 => ?_) (fun c_18 => ?_)
    · exact absurd c_18 (nI_ge (by omega) (by omega))
    · refine rv_aload_n d_Pool_init_21 rfl 1 rfl ?_
      refine rv_get ka_Pool hS.1 rfl 0 (by decide) (wi_Pool_init _ (List.mem_of_getElem? (i := 0) rfl)) rfl d_Pool_init_22 ?_
      refine rv_iload_n d_Pool_init_25 rfl 0 rfl ?_
      refine rv_new (ci := 2) (fs := [.null, .null, .long 0, .int 0, .int 0, .int 0, .long 0, .long 0]) (kc1 := (5 * m + 4)) (ks1 := (55 * m + 47)) ka_Tx rfl (wi_Pool_init _ (List.mem_of_getElem? (i := 1) rfl)) (wi_Pool_init _ (List.mem_of_getElem? (i := 2) rfl)) (wi_Pool_init _ (List.mem_of_getElem? (i := 3) rfl)) (fun j hj => by rcases (show j = 0 ∨ j = 1 ∨ j = 2 ∨ j = 3 ∨ j = 4 ∨ j = 5 ∨ j = 6 ∨ j = 7 by omega) with rfl | rfl | rfl | rfl | rfl | rfl | rfl | rfl <;> rfl) ⟨by omega, by omega⟩ d_Pool_init_26 (fun t hp47 hfr47 ehp47 => ?_)
      have hf47_0 : hp47 po = some (.inr (3, [.ref L.1, .long 0, .int 0])) := by rw [ehp47, hp_un (hp_nn hS.1 hfr47)]; exact hS.1
      have hf47_1 : hp47 L.1 = some (.inl (ca 2, 41, .inr (.inr (.inr (.inr f))))) := by rw [ehp47, hp_un (hp_nn hf hfr47)]; exact hf
      have hf47_q : hp47 t = some (.inr (2, [.null, .null, .long 0, .int 0, .int 0, .int 0, .long 0, .long 0])) := by rw [ehp47]; exact hp_us
      refine rv_dup d_Pool_init_29 rfl ?_
      refine rv_callIN (kc' := 4) (ks' := 47) (kc1 := (5 * m)) (ks1 := (55 * m)) (As := []) (rest := [.ref t, .int (nI i), .ref L.1]) (c_Tx_init hf47_q) ok_Tx_init (host := "PoolDesk") (List.mem_of_getElem? (i := 2) rfl) (wi_Pool_init _ (List.mem_of_getElem? (i := 4) rfl)) rfl rfl rfl rfl (Nat.le_of_ble_eq_true rfl) (Nat.le_of_ble_eq_true rfl) ⟨by omega, by omega⟩ d_Pool_init_30 (rv_kv (fun hp48 ehp48 => ?_))
      obtain ⟨n, k, w, z, gn, gk, gw, gz, h2t, h2n, h2k, hke⟩ := ehp48
      have hg48_0 : hp48 po = some (.inr (3, [.ref L.1, .long 0, .int 0])) := by rw [hke po (by rw [hf47_0]; intro z; cases z) (hp_ne hf47_0 hf47_q (fun q => by first | cases q | simp at q))]; exact hf47_0
      have hg48_1 : hp48 L.1 = some (.inl (ca 2, 41, .inr (.inr (.inr (.inr f))))) := by rw [hke L.1 (by rw [hf47_1]; intro z; cases z) (hp_ne hf47_1 hf47_q (fun q => by first | cases q | simp at q))]; exact hf47_1
      refine rv_aast hg48_1 h2t rfl 2 rfl (by omega) (by decide) d_Pool_init_33
        (fun hp49 ehp49 => ?_)
      have hf49_0 : hp49 po = some (.inr (3, [.ref L.1, .long 0, .int 0])) := by rw [ehp49, hp_un (hp_ne hg48_0 hg48_1 (fun q => by first | cases q | simp at q))]; exact hg48_0
      have hf49_1 : hp49 L.1 = some (.inl (ca 2, 41, .inr (.inr (.inr (.inr (va_up f i (some t))))))) := by rw [ehp49]; exact hp_us
      have hf49_2 : hp49 t = some (.inr (2, [.ref n, .ref k, .long 0, .int 0, .int 0, .int 0, .long 0, .long 0])) := by rw [ehp49, hp_un (hp_ne h2t hg48_1 (fun q => by first | cases q | simp at q))]; exact h2t
      refine rv_iinc (k := 0) (v := nI (i + 1)) (lv' := [(1, .int (nI (i + 1))), (0, .ref po)]) d_Pool_init_34 rfl (nI_1 _) (by decide) rfl ?_
      refine rv_goto (tgt := 15) d_Pool_init_37 (by decide) ?_
      rw [ehp47] at gn gk gw gz hke
      have hS2 := pi_step hS hf hfp hfr47 gn gk gw gz h2t h2n h2k hke
      rw [← ehp49] at hS2
      exact rv_lv [0, 1] rfl (ih (i + 1) hp49 _ (by omega) hS2)
set_option maxHeartbeats 1000000 in
set_option maxRecDepth 100000 in
theorem c_Pool_init {l : Launch} {D : va_G} {ca : Nat → ClassId} {hp : hp_T} {d : Nat} {po : Nat} (h : hp po = some (.inr (3, [.null, .long 0, .int 0]))) : ma_V l D ca ma_T M_Pool_init (d + 3) 206 2296 hp (ma_qv (fun hp1 => ∃ L, pi_At ca hp hp1 po L 41)) 0 (lv_args 0 [.ref po]) [] := by
  change ma_V l D ca ma_T M_Pool_init (d + 3) 206 2296 hp (ma_qv (fun hp1 => ∃ L, pi_At ca hp hp1 po L 41)) 0 [(0, .ref po)] []
  refine rv_aload_n d_Pool_init_0 rfl 0 rfl ?_
  refine rv_obj (wi_Pool_init _ (List.mem_of_getElem? (i := 5) rfl)) (wi_Pool_init _ (List.mem_of_getElem? (i := 6) rfl)) (wi_Pool_init _ (List.mem_of_getElem? (i := 7) rfl)) (Nat.le_of_ble_eq_true rfl) d_Pool_init_1 ?_
  refine rv_aload_n d_Pool_init_4 rfl 0 rfl ?_
  refine rv_bipush (v := nI 41) d_Pool_init_5 (by decide) ?_
  refine rv_newq (cA := ca 2) (n := 41) (kc1 := 205) (ks1 := 2255) (C := "PoolDesk$Transaction") 2 rfl (wi_Pool_init _ (List.mem_of_getElem? (i := 1) rfl)) List.mem_cons_self (by decide) ⟨by omega, by omega⟩ d_Pool_init_7 (fun pl hp50 hfr50 ehp50 => ?_)
  have hf50_0 : hp50 po = some (.inr (3, [.null, .long 0, .int 0])) := by rw [ehp50, hp_un (hp_nn h hfr50)]; exact h
  have hf50_q : hp50 pl = some (.inl (ca 2, 41, .inr (.inr (.inr (.inr (fun _ => none)))))) := by rw [ehp50]; exact hp_us
  refine rv_putF (fs' := [.ref pl, .long 0, .int 0]) ka_Pool hf50_0 rfl 0 (by decide) (wi_Pool_init _ (List.mem_of_getElem? (i := 0) rfl)) rfl rfl rfl rfl rfl (Nat.le_of_ble_eq_true rfl) rfl d_Pool_init_10
    (fun hp51 ehp51 => ?_)
  have hf51_0 : hp51 po = some (.inr (3, [.ref pl, .long 0, .int 0])) := by rw [ehp51]; exact hp_us
  have hf51_1 : hp51 pl = some (.inl (ca 2, 41, .inr (.inr (.inr (.inr (fun _ => none)))))) := by rw [ehp51, hp_un (hp_ne hf50_q hf50_0 (fun q => by first | cases q | simp at q))]; exact hf50_q
  refine rv_iconst (v := nI 0) d_Pool_init_13 (by decide) ?_
  refine rv_istore_n (lv' := [(1, .int (nI 0)), (0, .ref po)]) d_Pool_init_14 rfl (by decide) rfl ?_
  have hz : ∀ (Z : Nat → Nat), pi_inj Z 0 := fun Z p q hp0 => absurd hp0 (Nat.not_lt_zero p)
  have hA : pi_At ca hp hp51 po (pl, fun _ => 0, fun _ => 0, fun _ => 0, fun _ => 0, fun _ => 0) 0 := ⟨hf51_0, ⟨_, hf51_1, fun p hp0 => absurd hp0 (Nat.not_lt_zero p)⟩, fun p hp0 => absurd hp0 (Nat.not_lt_zero p), ⟨hz _, hz _, hz _, hz _, hz _⟩, fun p hp0 => absurd hp0 (Nat.not_lt_zero p), hfr50, by rw [ehp51, ehp50]; exact hp_ke_own (hp_ke_new hp_ke_rf hfr50)⟩
  exact rv_lv [0, 1] rfl (c_Pool_init_l 41 0 hp51 _ (Nat.zero_add _) hA)
set_option maxHeartbeats 1000000 in
set_option maxRecDepth 100000 in
theorem c_Desk_init {l : Launch} {D : va_G} {ca : Nat → ClassId} {hp : hp_T} {d : Nat} {x : Nat} (h : hp x = some (.inr (5, [.null, .null, .null, .null]))) : ma_V l D ca ma_T M_Desk_init (d + 4) 213 2512 hp (ma_qv (fun hp1 => ∃ L : dk_L, dk_x L = x ∧ dk_At ca hp1 L (nm_0, kv_0, (0, 0, fun _ => tx_0), 0, fun _ => 0) ∧ dk_ok L ∧ (∀ b, dk_fp L b → b = x ∨ hp b = none) ∧ hp_ke x hp hp1)) 0 (lv_args 0 [.ref x]) [] := by
  change ma_V l D ca ma_T M_Desk_init (d + 4) 213 2512 hp (ma_qv (fun hp1 => ∃ L : dk_L, dk_x L = x ∧ dk_At ca hp1 L (nm_0, kv_0, (0, 0, fun _ => tx_0), 0, fun _ => 0) ∧ dk_ok L ∧ (∀ b, dk_fp L b → b = x ∨ hp b = none) ∧ hp_ke x hp hp1)) 0 [(0, .ref x)] []
  refine rv_aload_n d_Desk_init_0 rfl 0 rfl ?_
  refine rv_obj (wi_Desk_init _ (List.mem_of_getElem? (i := 0) rfl)) (wi_Desk_init _ (List.mem_of_getElem? (i := 1) rfl)) (wi_Desk_init _ (List.mem_of_getElem? (i := 2) rfl)) (Nat.le_of_ble_eq_true rfl) d_Desk_init_1 ?_
  refine rv_aload_n d_Desk_init_4 rfl 0 rfl ?_
  refine rv_new (ci := 0) (fs := [.long 0, .long 0, .long 0, .long 0]) (kc1 := 212) (ks1 := 2508) ka_Name rfl (wi_Desk_init _ (List.mem_of_getElem? (i := 3) rfl)) (wi_Desk_init _ (List.mem_of_getElem? (i := 4) rfl)) (wi_Desk_init _ (List.mem_of_getElem? (i := 5) rfl)) (fun j hj => by rcases (show j = 0 ∨ j = 1 ∨ j = 2 ∨ j = 3 by omega) with rfl | rfl | rfl | rfl <;> rfl) ⟨by omega, by omega⟩ d_Desk_init_5 (fun n hp52 hfr52 ehp52 => ?_)
  have hf52_0 : hp52 x = some (.inr (5, [.null, .null, .null, .null])) := by rw [ehp52, hp_un (hp_nn h hfr52)]; exact h
  have hf52_q : hp52 n = some (.inr (0, [.long 0, .long 0, .long 0, .long 0])) := by rw [ehp52]; exact hp_us
  refine rv_dup d_Desk_init_8 rfl ?_
  refine rv_callIN (kc' := 0) (ks' := 0) (kc1 := 212) (ks1 := 2508) (As := []) (rest := [.ref n, .ref x]) (c_Name_init) ok_Name_init (host := "PoolDesk") (List.mem_of_getElem? (i := 0) rfl) (wi_Desk_init _ (List.mem_of_getElem? (i := 6) rfl)) rfl rfl rfl rfl (Nat.le_of_ble_eq_true rfl) (Nat.le_of_ble_eq_true rfl) ⟨Nat.le_of_ble_eq_true rfl, Nat.le_of_ble_eq_true rfl⟩ d_Desk_init_9 (rv_kv (fun hp53 ehp53 => ?_))
  have ehs53 := ehp53.symm
  subst ehs53
  refine rv_putF (fs' := [.ref n, .null, .null, .null]) ka_Desk hf52_0 rfl 0 (by decide) (wi_Desk_init _ (List.mem_of_getElem? (i := 7) rfl)) rfl rfl rfl rfl rfl (Nat.le_of_ble_eq_true rfl) rfl d_Desk_init_12
    (fun hp54 ehp54 => ?_)
  have hf54_0 : hp54 x = some (.inr (5, [.ref n, .null, .null, .null])) := by rw [ehp54]; exact hp_us
  have hf54_1 : hp54 n = some (.inr (0, [.long 0, .long 0, .long 0, .long 0])) := by rw [ehp54, hp_un (hp_ne hf52_q hf52_0 (fun q => by first | cases q | simp at q))]; exact hf52_q
  refine rv_aload_n d_Desk_init_15 rfl 0 rfl ?_
  refine rv_new (ci := 1) (fs := [.null, .null, .int 0]) (kc1 := 211) (ks1 := 2505) ka_Keys rfl (wi_Desk_init _ (List.mem_of_getElem? (i := 8) rfl)) (wi_Desk_init _ (List.mem_of_getElem? (i := 9) rfl)) (wi_Desk_init _ (List.mem_of_getElem? (i := 10) rfl)) (fun j hj => by rcases (show j = 0 ∨ j = 1 ∨ j = 2 by omega) with rfl | rfl | rfl <;> rfl) ⟨by omega, by omega⟩ d_Desk_init_16 (fun k hp55 hfr55 ehp55 => ?_)
  have hf55_0 : hp55 x = some (.inr (5, [.ref n, .null, .null, .null])) := by rw [ehp55, hp_un (hp_nn hf54_0 hfr55)]; exact hf54_0
  have hf55_1 : hp55 n = some (.inr (0, [.long 0, .long 0, .long 0, .long 0])) := by rw [ehp55, hp_un (hp_nn hf54_1 hfr55)]; exact hf54_1
  have hf55_q : hp55 k = some (.inr (1, [.null, .null, .int 0])) := by rw [ehp55]; exact hp_us
  refine rv_dup d_Desk_init_19 rfl ?_
  refine rv_callIN (kc' := 2) (ks' := 40) (kc1 := 209) (ks1 := 2465) (As := []) (rest := [.ref k, .ref x]) (c_Keys_init hf55_q) ok_Keys_init (host := "PoolDesk") (List.mem_of_getElem? (i := 1) rfl) (wi_Desk_init _ (List.mem_of_getElem? (i := 11) rfl)) rfl rfl rfl rfl (Nat.le_of_ble_eq_true rfl) (Nat.le_of_ble_eq_true rfl) ⟨Nat.le_of_ble_eq_true rfl, Nat.le_of_ble_eq_true rfl⟩ d_Desk_init_20 (rv_kv (fun hp56 ehp56 => ?_))
  obtain ⟨w, i, gw, gi, gwi, ekp⟩ := ehp56
  have n1 : k ≠ w := hp_nn hf55_q gw
  have n2 : k ≠ i := hp_nn hf55_q gi
  have kek : hp_ke k hp55 hp56 := by rw [ekp]; exact kx_put_ke gw gi
  have kx : kx_At ca hp56 k w i kv_0 := by rw [ekp]; exact ⟨hp_us, by unfold kx_put; rw [hp_un n1.symm, hp_un gwi, hp_us], by unfold kx_put; rw [hp_un n2.symm, hp_us], Nat.zero_le _⟩
  have hg56_0 : hp56 x = some (.inr (5, [.ref n, .null, .null, .null])) := by rw [kek x (by rw [hf55_0]; intro z; cases z) (hp_ne hf55_0 hf55_q (fun q => by first | cases q | simp at q))]; exact hf55_0
  have hg56_1 : hp56 n = some (.inr (0, [.long 0, .long 0, .long 0, .long 0])) := by rw [kek n (by rw [hf55_1]; intro z; cases z) (hp_ne hf55_1 hf55_q (fun q => by first | cases q | simp at q))]; exact hf55_1
  refine rv_putF (fs' := [.ref n, .ref k, .null, .null]) ka_Desk hg56_0 rfl 1 (by decide) (wi_Desk_init _ (List.mem_of_getElem? (i := 12) rfl)) rfl rfl rfl rfl rfl (Nat.le_of_ble_eq_true rfl) rfl d_Desk_init_23
    (fun hp57 ehp57 => ?_)
  have hf57_0 : hp57 x = some (.inr (5, [.ref n, .ref k, .null, .null])) := by rw [ehp57]; exact hp_us
  have hf57_1 : hp57 n = some (.inr (0, [.long 0, .long 0, .long 0, .long 0])) := by rw [ehp57, hp_un (hp_ne hg56_1 hg56_0 (fun q => by first | cases q | simp at q))]; exact hg56_1
  have hf57_2 : hp57 k = some (.inr (1, [.ref w, .ref i, .int (nI 0)])) := by rw [ehp57, hp_un (hp_ne kx.1 hg56_0 (fun q => by first | cases q | simp at q))]; exact kx.1
  have hf57_3 : hp57 w = some (.inl (ca 1, 32, .inr (.inl (fun _ => 0)))) := by rw [ehp57, hp_un (hp_ne kx.2.1 hg56_0 (fun q => by first | cases q | simp at q))]; exact kx.2.1
  have hf57_4 : hp57 i = some (.inl (ca 0, 8, .inl (fun _ => 0))) := by rw [ehp57, hp_un (hp_ne kx.2.2.1 hg56_0 (fun q => by first | cases q | simp at q))]; exact kx.2.2.1
  refine rv_aload_n d_Desk_init_26 rfl 0 rfl ?_
  refine rv_new (ci := 3) (fs := [.null, .long 0, .int 0]) (kc1 := 208) (ks1 := 2462) ka_Pool rfl (wi_Desk_init _ (List.mem_of_getElem? (i := 13) rfl)) (wi_Desk_init _ (List.mem_of_getElem? (i := 14) rfl)) (wi_Desk_init _ (List.mem_of_getElem? (i := 15) rfl)) (fun j hj => by rcases (show j = 0 ∨ j = 1 ∨ j = 2 by omega) with rfl | rfl | rfl <;> rfl) ⟨by omega, by omega⟩ d_Desk_init_27 (fun po hp58 hfr58 ehp58 => ?_)
  have hf58_0 : hp58 x = some (.inr (5, [.ref n, .ref k, .null, .null])) := by rw [ehp58, hp_un (hp_nn hf57_0 hfr58)]; exact hf57_0
  have hf58_1 : hp58 n = some (.inr (0, [.long 0, .long 0, .long 0, .long 0])) := by rw [ehp58, hp_un (hp_nn hf57_1 hfr58)]; exact hf57_1
  have hf58_2 : hp58 k = some (.inr (1, [.ref w, .ref i, .int (nI 0)])) := by rw [ehp58, hp_un (hp_nn hf57_2 hfr58)]; exact hf57_2
  have hf58_3 : hp58 w = some (.inl (ca 1, 32, .inr (.inl (fun _ => 0)))) := by rw [ehp58, hp_un (hp_nn hf57_3 hfr58)]; exact hf57_3
  have hf58_4 : hp58 i = some (.inl (ca 0, 8, .inl (fun _ => 0))) := by rw [ehp58, hp_un (hp_nn hf57_4 hfr58)]; exact hf57_4
  have hf58_q : hp58 po = some (.inr (3, [.null, .long 0, .int 0])) := by rw [ehp58]; exact hp_us
  refine rv_dup d_Desk_init_30 rfl ?_
  refine rv_callI (kc' := 206) (ks' := 2296) (kc1 := 2) (ks1 := 166) (As := []) (rest := [.ref po, .ref x]) (c_Pool_init hf58_q) ok_Pool_init (wi_Desk_init _ (List.mem_of_getElem? (i := 16) rfl)) (wi_Desk_init _ (List.mem_of_getElem? (i := 17) rfl)) rfl rfl rfl rfl (Nat.le_of_ble_eq_true rfl) (Nat.le_of_ble_eq_true rfl) ⟨Nat.le_of_ble_eq_true rfl, Nat.le_of_ble_eq_true rfl⟩ d_Desk_init_31 (rv_kv (fun hp59 ehp59 => ?_))
  obtain ⟨PL, hPA⟩ := ehp59
  have kep := hPA.2.2.2.2.2.2
  obtain ⟨hPo, hPk⟩ := pi_end hPA
  have hg59_0 : hp59 x = some (.inr (5, [.ref n, .ref k, .null, .null])) := by rw [kep x (by rw [hf58_0]; intro z; cases z) (hp_ne hf58_0 hf58_q (fun q => by first | cases q | simp at q))]; exact hf58_0
  have hg59_1 : hp59 n = some (.inr (0, [.long 0, .long 0, .long 0, .long 0])) := by rw [kep n (by rw [hf58_1]; intro z; cases z) (hp_ne hf58_1 hf58_q (fun q => by first | cases q | simp at q))]; exact hf58_1
  have hg59_2 : hp59 k = some (.inr (1, [.ref w, .ref i, .int (nI 0)])) := by rw [kep k (by rw [hf58_2]; intro z; cases z) (hp_ne hf58_2 hf58_q (fun q => by first | cases q | simp at q))]; exact hf58_2
  have hg59_3 : hp59 w = some (.inl (ca 1, 32, .inr (.inl (fun _ => 0)))) := by rw [kep w (by rw [hf58_3]; intro z; cases z) (hp_ne hf58_3 hf58_q (fun q => by first | cases q | simp at q))]; exact hf58_3
  have hg59_4 : hp59 i = some (.inl (ca 0, 8, .inl (fun _ => 0))) := by rw [kep i (by rw [hf58_4]; intro z; cases z) (hp_ne hf58_4 hf58_q (fun q => by first | cases q | simp at q))]; exact hf58_4
  have hu0 : ∀ {b : Nat}, po_fp po PL b → b = po ∨ hp58 b = none := fun {b} hb => by
    rcases hb with e | e | ⟨p, hp0, e⟩
    · exact Or.inl e
    · exact Or.inr (by rw [e]; exact hPA.2.2.2.2.2.1)
    · have g := hPA.2.2.2.2.1 p hp0
      rcases e with e | e | e | e | e
      · exact Or.inr (by rw [e]; exact g.1)
      · exact Or.inr (by rw [e]; exact g.2.1)
      · exact Or.inr (by rw [e]; exact g.2.2.1)
      · exact Or.inr (by rw [e]; exact g.2.2.2.1)
      · exact Or.inr (by rw [e]; exact g.2.2.2.2)
  refine rv_putF (fs' := [.ref n, .ref k, .ref po, .null]) ka_Desk hg59_0 rfl 2 (by decide) (wi_Desk_init _ (List.mem_of_getElem? (i := 18) rfl)) rfl rfl rfl rfl rfl (Nat.le_of_ble_eq_true rfl) rfl d_Desk_init_34
    (fun hp60 ehp60 => ?_)
  have hf60_0 : hp60 x = some (.inr (5, [.ref n, .ref k, .ref po, .null])) := by rw [ehp60]; exact hp_us
  have hf60_1 : hp60 n = some (.inr (0, [.long 0, .long 0, .long 0, .long 0])) := by rw [ehp60, hp_un (hp_ne hg59_1 hg59_0 (fun q => by first | cases q | simp at q))]; exact hg59_1
  have hf60_2 : hp60 k = some (.inr (1, [.ref w, .ref i, .int (nI 0)])) := by rw [ehp60, hp_un (hp_ne hg59_2 hg59_0 (fun q => by first | cases q | simp at q))]; exact hg59_2
  have hf60_3 : hp60 w = some (.inl (ca 1, 32, .inr (.inl (fun _ => 0)))) := by rw [ehp60, hp_un (hp_ne hg59_3 hg59_0 (fun q => by first | cases q | simp at q))]; exact hg59_3
  have hf60_4 : hp60 i = some (.inl (ca 0, 8, .inl (fun _ => 0))) := by rw [ehp60, hp_un (hp_ne hg59_4 hg59_0 (fun q => by first | cases q | simp at q))]; exact hg59_4
  have hf60_5 : hp60 po = some (.inr (3, [.ref PL.1, .long 0, .int 0])) := by rw [ehp60, hp_un (hp_ne hPo.1 hg59_0 (fun q => by first | cases q | simp at q))]; exact hPo.1
  refine rv_aload_n d_Desk_init_37 rfl 0 rfl ?_
  refine rv_new (ci := 4) (fs := [.null, .int 0]) (kc1 := 1) (ks1 := 164) ka_Row rfl (wi_Desk_init _ (List.mem_of_getElem? (i := 19) rfl)) (wi_Desk_init _ (List.mem_of_getElem? (i := 20) rfl)) (wi_Desk_init _ (List.mem_of_getElem? (i := 21) rfl)) (fun j hj => by rcases (show j = 0 ∨ j = 1 by omega) with rfl | rfl <;> rfl) ⟨by omega, by omega⟩ d_Desk_init_38 (fun r hp61 hfr61 ehp61 => ?_)
  have hf61_0 : hp61 x = some (.inr (5, [.ref n, .ref k, .ref po, .null])) := by rw [ehp61, hp_un (hp_nn hf60_0 hfr61)]; exact hf60_0
  have hf61_1 : hp61 n = some (.inr (0, [.long 0, .long 0, .long 0, .long 0])) := by rw [ehp61, hp_un (hp_nn hf60_1 hfr61)]; exact hf60_1
  have hf61_2 : hp61 k = some (.inr (1, [.ref w, .ref i, .int (nI 0)])) := by rw [ehp61, hp_un (hp_nn hf60_2 hfr61)]; exact hf60_2
  have hf61_3 : hp61 w = some (.inl (ca 1, 32, .inr (.inl (fun _ => 0)))) := by rw [ehp61, hp_un (hp_nn hf60_3 hfr61)]; exact hf60_3
  have hf61_4 : hp61 i = some (.inl (ca 0, 8, .inl (fun _ => 0))) := by rw [ehp61, hp_un (hp_nn hf60_4 hfr61)]; exact hf60_4
  have hf61_5 : hp61 po = some (.inr (3, [.ref PL.1, .long 0, .int 0])) := by rw [ehp61, hp_un (hp_nn hf60_5 hfr61)]; exact hf60_5
  have hf61_q : hp61 r = some (.inr (4, [.null, .int 0])) := by rw [ehp61]; exact hp_us
  refine rv_dup d_Desk_init_41 rfl ?_
  refine rv_callIN (kc' := 1) (ks' := 164) (kc1 := 0) (ks1 := 0) (As := []) (rest := [.ref r, .ref x]) (c_Row_init hf61_q) ok_Row_init (host := "PoolDesk") (List.mem_of_getElem? (i := 5) rfl) (wi_Desk_init _ (List.mem_of_getElem? (i := 22) rfl)) rfl rfl rfl rfl (Nat.le_of_ble_eq_true rfl) (Nat.le_of_ble_eq_true rfl) ⟨Nat.le_of_ble_eq_true rfl, Nat.le_of_ble_eq_true rfl⟩ d_Desk_init_42 (rv_kv (fun hp62 ehp62 => ?_))
  obtain ⟨rw, grw, erw⟩ := ehp62
  have ker : hp_ke r hp61 hp62 := by rw [erw]; exact hp_ke_own (hp_ke_new hp_ke_rf grw)
  have n3 : rw ≠ r := (hp_nn hf61_q grw).symm
  have hrr : hp62 r = some (.inr (4, [.ref rw, .int 0])) := by rw [erw]; exact hp_us
  have hrw : hp62 rw = some (.inl (ca 1, 164, .inr (.inl (fun _ => 0)))) := by rw [erw, hp_un n3, hp_us]
  have hg62_0 : hp62 x = some (.inr (5, [.ref n, .ref k, .ref po, .null])) := by rw [ker x (by rw [hf61_0]; intro z; cases z) (hp_ne hf61_0 hf61_q (fun q => by first | cases q | simp at q))]; exact hf61_0
  have hg62_1 : hp62 n = some (.inr (0, [.long 0, .long 0, .long 0, .long 0])) := by rw [ker n (by rw [hf61_1]; intro z; cases z) (hp_ne hf61_1 hf61_q (fun q => by first | cases q | simp at q))]; exact hf61_1
  have hg62_2 : hp62 k = some (.inr (1, [.ref w, .ref i, .int (nI 0)])) := by rw [ker k (by rw [hf61_2]; intro z; cases z) (hp_ne hf61_2 hf61_q (fun q => by first | cases q | simp at q))]; exact hf61_2
  have hg62_3 : hp62 w = some (.inl (ca 1, 32, .inr (.inl (fun _ => 0)))) := by rw [ker w (by rw [hf61_3]; intro z; cases z) (hp_ne hf61_3 hf61_q (fun q => by first | cases q | simp at q))]; exact hf61_3
  have hg62_4 : hp62 i = some (.inl (ca 0, 8, .inl (fun _ => 0))) := by rw [ker i (by rw [hf61_4]; intro z; cases z) (hp_ne hf61_4 hf61_q (fun q => by first | cases q | simp at q))]; exact hf61_4
  have hg62_5 : hp62 po = some (.inr (3, [.ref PL.1, .long 0, .int 0])) := by rw [ker po (by rw [hf61_5]; intro z; cases z) (hp_ne hf61_5 hf61_q (fun q => by first | cases q | simp at q))]; exact hf61_5
  refine rv_putF (fs' := [.ref n, .ref k, .ref po, .ref r]) ka_Desk hg62_0 rfl 3 (by decide) (wi_Desk_init _ (List.mem_of_getElem? (i := 23) rfl)) rfl rfl rfl rfl rfl (Nat.le_of_ble_eq_true rfl) rfl d_Desk_init_45
    (fun hp63 ehp63 => ?_)
  have hf63_0 : hp63 x = some (.inr (5, [.ref n, .ref k, .ref po, .ref r])) := by rw [ehp63]; exact hp_us
  have hf63_1 : hp63 n = some (.inr (0, [.long 0, .long 0, .long 0, .long 0])) := by rw [ehp63, hp_un (hp_ne hg62_1 hg62_0 (fun q => by first | cases q | simp at q))]; exact hg62_1
  have hf63_2 : hp63 k = some (.inr (1, [.ref w, .ref i, .int (nI 0)])) := by rw [ehp63, hp_un (hp_ne hg62_2 hg62_0 (fun q => by first | cases q | simp at q))]; exact hg62_2
  have hf63_3 : hp63 w = some (.inl (ca 1, 32, .inr (.inl (fun _ => 0)))) := by rw [ehp63, hp_un (hp_ne hg62_3 hg62_0 (fun q => by first | cases q | simp at q))]; exact hg62_3
  have hf63_4 : hp63 i = some (.inl (ca 0, 8, .inl (fun _ => 0))) := by rw [ehp63, hp_un (hp_ne hg62_4 hg62_0 (fun q => by first | cases q | simp at q))]; exact hg62_4
  have hf63_5 : hp63 po = some (.inr (3, [.ref PL.1, .long 0, .int 0])) := by rw [ehp63, hp_un (hp_ne hg62_5 hg62_0 (fun q => by first | cases q | simp at q))]; exact hg62_5
  have hf63_6 : hp63 r = some (.inr (4, [.ref rw, .int 0])) := by rw [ehp63, hp_un (hp_ne hrr hg62_0 (fun q => by first | cases q | simp at q))]; exact hrr
  have hf63_7 : hp63 rw = some (.inl (ca 1, 164, .inr (.inl (fun _ => 0)))) := by rw [ehp63, hp_un (hp_ne hrw hg62_0 (fun q => by first | cases q | simp at q))]; exact hrw
  have f0 : hp n = none := hp_ke_none (a := x) (hp_ke_rf) hfr52 (hp_nn h hfr52).symm
  have c0 : hp_ke x hp hp52 := by rw [ehp52]; exact hp_ke_new (hp_ke_rf) f0
  have c1 : hp_ke x hp hp54 := by rw [ehp54]; exact hp_ke_own (c0)
  have f2 : hp k = none := hp_ke_none (a := x) (c1) hfr55 (hp_nn hf54_0 hfr55).symm
  have c2 : hp_ke x hp hp55 := by rw [ehp55]; exact hp_ke_new (c1) f2
  have c3 : hp_ke x hp hp56 := hp_ke_tr (c2) kek (Or.inl f2)
  have c4 : hp_ke x hp hp57 := by rw [ehp57]; exact hp_ke_own (c3)
  have f5 : hp po = none := hp_ke_none (a := x) (c4) hfr58 (hp_nn hf57_0 hfr58).symm
  have c5 : hp_ke x hp hp58 := by rw [ehp58]; exact hp_ke_new (c4) f5
  have c6 : hp_ke x hp hp59 := hp_ke_tr (c5) kep (Or.inl f5)
  have c7 : hp_ke x hp hp60 := by rw [ehp60]; exact hp_ke_own (c6)
  have f8 : hp r = none := hp_ke_none (a := x) (c7) hfr61 (hp_nn hf60_0 hfr61).symm
  have c8 : hp_ke x hp hp61 := by rw [ehp61]; exact hp_ke_new (c7) f8
  have c9 : hp_ke x hp hp62 := hp_ke_tr (c8) ker (Or.inl f8)
  have c10 : hp_ke x hp hp63 := by rw [ehp63]; exact hp_ke_own (c9)
  have fw : hp w = none := hp_ke_none c2 gw (by rintro rfl; rw [hf55_0] at gw; cases gw)
  have fi : hp i = none := hp_ke_none c2 gi (by rintro rfl; rw [hf55_0] at gi; cases gi)
  have frw : hp rw = none := hp_ke_none c8 grw (by rintro rfl; rw [hf61_0] at grw; cases grw)
  have fpo : ∀ {b : Nat}, po_fp po PL b → hp b = none := fun {b} hb => by
    rcases hu0 hb with e | e
    · rw [e]; exact f5
    · exact hp_ke_none c5 e (by rintro rfl; rw [hf58_0] at e; cases e)
  have hQ0 := hPo
  have hQ1 : po_At ca hp60 po PL (0, 0, fun _ => tx_0) := by rw [ehp60]; exact po_keep1 hQ0 (po_nx hQ0 hg59_0)
  have hQ2 : po_At ca hp61 po PL (0, 0, fun _ => tx_0) := by rw [ehp61]; exact po_keep1 hQ1 (fun hb => po_some hQ1 hb hfr61)
  have hQ3 : po_At ca hp62 po PL (0, 0, fun _ => tx_0) := po_keep hQ2 (fun b hb => ker b (by have z := po_some hQ2 hb; intro q; rw [q] at z; exact z rfl) (fun e => by have z := po_some hQ2 hb; rw [e] at z; exact po_nr hQ2 hf61_q (by rw [← e]; exact hb)))
  have hQ4 : po_At ca hp63 po PL (0, 0, fun _ => tx_0) := by rw [ehp63]; exact po_keep1 hQ3 (po_nx hQ3 hg62_0)
  have dO : dk_ok (x, n, k, w, i, po, r, rw, PL) := by
    have u : ∀ {b : Nat} {y : va_E}, hp58 b = some y → ∀ {a : Nat}, po_fp po PL a → a ≠ po → b ≠ a := fun hb a ha hap e => by
      rcases hu0 ha with z | z
      · exact hap z
      · rw [← e, hb] at z; cases z
    refine ⟨hPk, fun p hp0 => u hf58_1 (po_fp_nm hp0) (hp_ne (hPo.2.2 p hp0).2.1 hPo.1 (fun q => by first | cases q | simp at q)), fun p hp0 => ⟨(fun p hp0 => u hf58_2 (po_fp_ks hp0) (hp_ne (hPo.2.2 p hp0).2.2.1 hPo.1 (fun q => by first | cases q | simp at q))) p hp0, (fun p hp0 => u hf58_3 (po_fp_wk hp0) (hp_ne (hPo.2.2 p hp0).2.2.2.1 hPo.1 (fun q => by first | cases q | simp at q))) p hp0, (fun p hp0 => u hf58_4 (po_fp_ik hp0) (hp_ne (hPo.2.2 p hp0).2.2.2.2.1 hPo.1 (fun q => by first | cases q | simp at q))) p hp0⟩, ?_, ?_⟩
    · intro p hp0 e
      have z := po_some hQ2 (po_fp_wk (po := po) (L := PL) hp0)
      rw [← e] at z
      exact z grw
    · intro e
      have e2 : rw = w := e
      rw [e2, hf61_3] at grw
      cases grw
  refine rv_vreturn ⟨rfl, (x, n, k, w, i, po, r, rw, PL), rfl, ⟨hf63_0, hf63_1, ⟨hf63_2, hf63_3, hf63_4, Nat.zero_le _⟩, hQ4, hf63_6, hf63_7, Nat.zero_le _⟩, dO, ?_, c10⟩ d_Desk_init_48 rfl
  intro b hb
  rcases hb with e | e | e | e | e | e | e | e
  · exact Or.inl e
  · exact Or.inr (by rw [show b = n from e]; exact f0)
  · exact Or.inr (by rw [show b = k from e]; exact f2)
  · exact Or.inr (by rw [show b = w from e]; exact fw)
  · exact Or.inr (by rw [show b = i from e]; exact fi)
  · exact Or.inr (by rw [show b = r from e]; exact f8)
  · exact Or.inr (by rw [show b = rw from e]; exact frw)
  · exact Or.inr (fpo e)
end
section
/-! The lowest bit; answers as options; switches. -/
section Low
theorem lw_odd : ∀ n : Nat, n ≠ 0 → ∃ p k, n = 2 ^ p * (2 * k + 1) := by
  intro n
  induction n using Nat.strongRecOn with
  | _ n ih =>
    intro h
    by_cases e : n % 2 = 1
    · exact ⟨0, n / 2, by rw [Nat.pow_zero]; omega⟩
    · obtain ⟨p, k, hk⟩ := ih (n / 2) (by omega) (by omega)
      refine ⟨p + 1, k, ?_⟩
      have h2 : n = 2 * (n / 2) := by omega
      rw [h2, hk, Nat.pow_succ]
      rw [Nat.mul_comm (2 ^ p) 2, Nat.mul_assoc]
theorem lw_and {n p k : Nat} (h : n = 2 ^ p * (2 * k + 1)) (hn : n < 2 ^ 64) (j : Nat) : (n.testBit j && (2 ^ 64 - n).testBit j) = decide (p = j) := by
  have hpos : 0 < 2 ^ p := Nat.two_pow_pos p
  have h1 : n = 2 ^ p * (2 * k + 1) + 0 := by rw [h]; rfl
  have h2 : n - 1 = 2 ^ p * (2 * k) + (2 ^ p - 1) := by
    rw [h, Nat.mul_add, Nat.mul_one]
    omega
  have hn0 : 0 < n := by
    rw [h]
    exact Nat.mul_pos hpos (by omega)
  have e1 : n.testBit j = if j < p then (0 : Nat).testBit j else (2 * k + 1).testBit (j - p) := by
    rw [h1]
    exact Nat.testBit_two_pow_mul_add _ hpos j
  have e2 : (n - 1).testBit j = if j < p then (2 ^ p - 1).testBit j else (2 * k).testBit (j - p) := by
    rw [h2]
    exact Nat.testBit_two_pow_mul_add _ (show 2 ^ p - 1 < 2 ^ p by omega) j
  have e3 : (2 ^ 64 - n).testBit j = (decide (j < 64) && !(n - 1).testBit j) := by
    have h3 : 2 ^ 64 - n = 2 ^ 64 - ((n - 1) + 1) := by omega
    rw [h3]
    exact Nat.testBit_two_pow_sub_succ (by omega) j
  rw [e3, e2, e1]
  by_cases a : j < p
  · rw [if_pos a, Nat.zero_testBit, Bool.false_and]
    exact (decide_eq_false (by omega)).symm
  · rw [if_neg a, if_neg a]
    by_cases b : p = j
    · subst b
      have hp : p < 64 := by
        rcases Nat.lt_or_ge p 64 with q | q
        · exact q
        · have := Nat.pow_le_pow_right (n := 2) (by decide) q
          have h5 : 2 ^ p * 1 ≤ 2 ^ p * (2 * k + 1) := Nat.mul_le_mul_left _ (by omega)
          omega
      rw [Nat.sub_self, decide_eq_true hp, decide_eq_true rfl]
      simp [Nat.testBit_zero]
    · obtain ⟨s, hs⟩ : ∃ s, j - p = s + 1 := ⟨j - p - 1, by omega⟩
      rw [hs, Nat.testBit_succ, Nat.testBit_succ, show (2 * k + 1) / 2 = k by omega, show 2 * k / 2 = k by omega, decide_eq_false b]
      cases k.testBit s <;> simp
theorem ct_lt (p : Nat) : ∀ n, p ≤ n → ct_n (fun i => decide (i < p)) n = p := by
  intro n
  induction n with
  | zero => intro h; show 0 = p; omega
  | succ n ih =>
    intro h
    show ct_n (fun i => decide (i < p)) n + (if decide (n < p) = true then 1 else 0) = p
    by_cases e : p ≤ n
    · rw [ih e, decide_eq_false (by omega), if_neg Bool.false_ne_true]
      rfl
    · have e1 : p = n + 1 := by omega
      subst e1
      have : ct_n (fun i => decide (i < n + 1)) n = ct_n (fun _ => true) n := ct_ext (fun i hi => decide_eq_true (by omega))
      rw [this, decide_eq_true (Nat.lt_succ_self n), if_pos rfl]
      congr 1
      clear this ih h e
      induction n with
      | zero => rfl
      | succ n ih =>
        show ct_n (fun _ => true) n + 1 = n + 1
        rw [ih]
theorem bz_low_spec (x : Int64) : (x = 0 ∧ bz_low x = 64) ∨ (bz_low x < 64 ∧ bz_t x (bz_low x) = true ∧ ∀ j, j < bz_low x → bz_t x j = false) := by
  obtain ⟨n, hn, rfl⟩ := wb_of x
  by_cases h0 : n = 0
  · subst h0
    exact Or.inl (by decide +kernel)
  · right
    obtain ⟨p, k, hk⟩ := lw_odd n h0
    have hng : (-(lN n)).toBitVec.toNat = 2 ^ 64 - n := by
      rw [Int64.toBitVec_neg, BitVec.toNat_neg, wb_tn hn, Nat.mod_eq_of_lt (by omega)]
    have hbit : ∀ j, bz_t (lN n &&& -(lN n)) j = decide (p = j) := by
      intro j
      rw [bz_and, bz_lN hn]
      have : bz_t (-(lN n)) j = (2 ^ 64 - n).testBit j := by
        unfold bz_t
        rw [← BitVec.testBit_toNat, hng]
      rw [this]
      exact lw_and hk hn j
    have hp : p < 64 := by
      rcases Nat.lt_or_ge p 64 with q | q
      · exact q
      · have := Nat.pow_le_pow_right (n := 2) (by decide) q
        have h5 : 2 ^ p * 1 ≤ 2 ^ p * (2 * k + 1) := Nat.mul_le_mul_left _ (by omega)
        omega
    have hlt : 2 ^ p < 2 ^ 64 := Nat.pow_lt_pow_right (by decide) hp
    have hand : lN n &&& -(lN n) = lN (2 ^ p) := by
      apply bz_ext
      intro j _
      rw [hbit, bz_lN hlt, Nat.testBit_two_pow]
    have hsub : lN (2 ^ p) - 1 = lN (2 ^ p - 1) := lN_sub (b := 1) (Nat.two_pow_pos p)
    have hlow : bz_low (lN n) = p := by
      unfold bz_low
      rw [hand, hsub, bz_ct]
      rw [ct_ext (R := fun i => decide (i < p)) (fun i _ => by rw [bz_lN (by omega), Nat.testBit_two_pow_sub_one])]
      exact ct_lt p 64 (by omega)
    rw [hlow]
    refine ⟨hp, ?_, fun j hj => ?_⟩
    · have := hbit p
      rw [bz_and, decide_eq_true rfl] at this
      exact (Bool.and_eq_true _ _ |>.mp this).1
    · rw [bz_lN hn, hk]
      have e1 : (2 ^ p * (2 * k + 1) + 0).testBit j = if j < p then (0 : Nat).testBit j else (2 * k + 1).testBit (j - p) := Nat.testBit_two_pow_mul_add _ (Nat.two_pow_pos p) j
      rw [Nat.add_zero] at e1
      rw [e1, if_pos hj, Nat.zero_testBit]
end Low
section Opts
/-- the first of i, i + 1, .. (m of them) at which P is so -/
def fo_find (P : Nat → Bool) : Nat → Nat → Option Nat
  | 0, _ => none
  | m + 1, i => if P i = true then some i else fo_find P m (i + 1)
theorem fo_ob {P : Nat → Bool} : ∀ (m i : Nat), lp_find P m i = ob_i (fo_find P m i) := by
  intro m
  induction m with
  | zero => intro i; rfl
  | succ m ih =>
    intro i
    show (if P i = true then nI i else lp_find P m (i + 1)) = ob_i (if P i = true then some i else fo_find P m (i + 1))
    by_cases h : P i = true
    · rw [if_pos h, if_pos h]
      rfl
    · rw [if_neg h, if_neg h]
      exact ih (i + 1)
theorem fo_some {P : Nat → Bool} : ∀ {m i p : Nat}, fo_find P m i = some p → i ≤ p ∧ p < i + m ∧ P p = true := by
  intro m
  induction m with
  | zero => intro i p h; cases h
  | succ m ih =>
    intro i p h
    have h' : (if P i = true then some i else fo_find P m (i + 1)) = some p := h
    by_cases e : P i = true
    · rw [if_pos e] at h'
      cases h'
      exact ⟨by omega, by omega, e⟩
    · rw [if_neg e] at h'
      obtain ⟨a, b, c⟩ := ih h'
      exact ⟨by omega, by omega, c⟩
theorem fo_none {P : Nat → Bool} : ∀ {m i : Nat}, fo_find P m i = none → ∀ p, i ≤ p → p < i + m → P p = false := by
  intro m
  induction m with
  | zero => intro i _ p h1 h2; omega
  | succ m ih =>
    intro i h p h1 h2
    have h' : (if P i = true then some i else fo_find P m (i + 1)) = none := h
    by_cases e : P i = true
    · rw [if_pos e] at h'
      cases h'
    · rw [if_neg e] at h'
      by_cases q : p = i
      · subst q
        exact bt_f e
      · exact ih h' p (by omega) (by omega)
def cl_findo (S : po_S) (m : nm_T) : Option Nat := fo_find (fun p => bz_t S.1 p && decide ((S.2.2 p).1 = m)) 41 0
theorem cl_find_o (S : po_S) (m : nm_T) : cl_find S m = ob_i (cl_findo S m) := fo_ob 41 0
def cl_spendero (S : po_S) (m : nm_T) (x : Int32) : Option Nat := fo_find (fun p => bz_t S.1 p && kv_has (S.2.2 p).2.1 m x) 41 0
theorem cl_spender_o (S : po_S) (m : nm_T) (x : Int32) : cl_spender S m x = ob_i (cl_spendero S m x) := fo_ob 41 0
def cl_freeo (S : po_S) : Option Nat := if bz_low (S.1 ^^^ (-1)) < 41 then some (bz_low (S.1 ^^^ (-1))) else none
theorem cl_free_o (S : po_S) : cl_free S = ob_i (cl_freeo S) := by
  unfold cl_free cl_freeo
  by_cases h : bz_low (S.1 ^^^ (-1)) < 41
  · rw [if_pos h, if_pos h]
    rfl
  · rw [if_neg h, if_neg h]
    rfl
theorem cl_freeo_some {S : po_S} {q : Nat} (h : cl_freeo S = some q) : q < 41 ∧ bz_t S.1 q = false := by
  unfold cl_freeo at h
  by_cases e : bz_low (S.1 ^^^ (-1)) < 41
  · rw [if_pos e] at h
    cases h
    refine ⟨e, ?_⟩
    rcases bz_low_spec (S.1 ^^^ (-1)) with ⟨-, z⟩ | ⟨z1, z2, -⟩
    · omega
    · rw [bz_not _ z1] at z2
      cases hb : bz_t S.1 (bz_low (S.1 ^^^ (-1))) with
      | false => rfl
      | true => rw [hb] at z2; cases z2
  · rw [if_neg e] at h
    cases h
theorem cl_findo_lt {S : po_S} {m : nm_T} {p : Nat} (h : cl_findo S m = some p) : p < 41 := by have := (fo_some h).2.1; omega
theorem cl_spendero_lt {S : po_S} {m : nm_T} {x : Int32} {p : Nat} (h : cl_spendero S m x = some p) : p < 41 := by have := (fo_some h).2.1; omega
theorem lp_fold_ob {F : Nat → Option Nat → Option Nat} (hF : ∀ i a, F i a = a ∨ F i a = some i) : ∀ (m i : Nat) (a : Option Nat) (p : Nat), lp_fold F m i a = some p → a = some p ∨ (i ≤ p ∧ p < i + m) := by
  intro m
  induction m with
  | zero => intro i a p h; exact Or.inl h
  | succ m ih =>
    intro i a p h
    rcases ih (i + 1) (F i a) p h with e | e
    · rcases hF i a with q | q
      · exact Or.inl (q ▸ e)
      · rw [q] at e
        cases e
        exact Or.inr ⟨by omega, by omega⟩
    · exact Or.inr ⟨by omega, by omega⟩
theorem cl_least_lt {S : po_S} {p : Nat} (h : cl_least S = some p) : p < 41 := by
  rcases lp_fold_ob (F := cl_leastF S) (fun i a => by unfold cl_leastF; split; exact Or.inr rfl; exact Or.inl rfl) 41 0 none p h with e | e
  · cases e
  · omega
theorem cl_best_lt {S : po_S} {dn : Int64} {rm : Int32} {p : Nat} (h : cl_best S dn rm = some p) : p < 41 := by
  rcases lp_fold_ob (F := cl_bestF S dn rm) (fun i a => by unfold cl_bestF; split; exact Or.inr rfl; exact Or.inl rfl) 41 0 none p h with e | e
  · cases e
  · omega
theorem sw_cases (x : Int32) (n : Nat) (hn : n < 2 ^ 30) : (∃ k : Nat, k ≤ n ∧ x = nI k) ∨ (x.toInt < 0 ∨ (n : Int) < x.toInt) := by
  rcases pk_ix x (n := n + 1) (by omega) with h | h | ⟨j, hj, rfl⟩
  · right
    left
    have := Int32.lt_iff_toInt_lt.mp h
    simpa using this
  · right
    right
    have := Int32.le_iff_toInt_le.mp h
    rw [nI_toInt (by omega)] at this
    omega
  · exact Or.inl ⟨j, by omega, rfl⟩
theorem sw_ne {x : Int32} {n k : Nat} (h : x.toInt < 0 ∨ (n : Int) < x.toInt) (hk : k ≤ n) (hn : n < 2 ^ 30) : ¬ x = nI k := by
  intro e
  rw [e, nI_toInt (by omega)] at h
  omega
end Opts
section DeskWords
def ds_rmf (P : po_S) (o : Option Nat) : Int32 × po_S := match o with
  | none => (nI 0, P)
  | some p => (nI (bz_c (cl_fam P (bz_b p)) 64), cl_rm P (cl_fam P (bz_b p)))
def ds_take (P : po_S) (o : Option Nat) : Int32 × po_S := match o with
  | none => (nI 0, P)
  | some p => (nI 1, cl_rm P (bz_b p))
def cl_look (P : po_S) (p : Nat) (x : Int32) : Int64 := if x = nI 0 then (P.2.2 p).2.2.1 else if x = nI 1 then (P.2.2 p).2.2.2.1.toInt64 else if x = nI 2 then (P.2.2 p).2.2.2.2.1.toInt64 else if x = nI 3 then (nI (P.2.2 p).2.1.1).toInt64 else if x = nI 4 then (nI (bz_c (P.2.2 p).2.2.2.2.2.2.1 64)).toInt64 else if x = nI 5 then (nI (bz_c (P.2.2 p).2.2.2.2.2.2.2 64)).toInt64 else if x = nI 6 then (nI (bz_c (cl_fam P (bz_b p)) 64)).toInt64 else if x = nI 7 then cl_fees P (cl_fam P (bz_b p)) else if x = nI 8 then (cl_sizes P (cl_fam P (bz_b p))).toInt64 else if x = nI 9 then (P.2.2 p).2.2.2.2.2.1.toInt64 else -1
theorem cl_look_out {P : po_S} {p : Nat} {x : Int32} (h : x.toInt < 0 ∨ ((9 : Nat) : Int) < x.toInt) : cl_look P p x = -1 := by
  have z : ∀ k : Nat, k ≤ 9 → ¬ x = nI k := fun k hk => sw_ne h hk (by decide)
  unfold cl_look
  rw [if_neg (z 0 (by decide)), if_neg (z 1 (by decide)), if_neg (z 2 (by decide)), if_neg (z 3 (by decide)), if_neg (z 4 (by decide)), if_neg (z 5 (by decide)), if_neg (z 6 (by decide)), if_neg (z 7 (by decide)), if_neg (z 8 (by decide)), if_neg (z 9 (by decide))]
def ds_look (S : dk_S) (x : Int32) : Int64 := match cl_findo S.2.2.1 S.1 with
  | none => -1
  | some p => cl_look S.2.2.1 p x
def ds_count (S : dk_S) (x : Int32) : Int32 := if x = nI 0 then nI (bz_c S.2.2.1.1 64) else if x = nI 1 then cl_keys S.2.2.1 else if x = nI 2 then cl_sizes S.2.2.1 S.2.2.1.1 else if x = nI 3 then nI S.2.1.1 else if x = nI 4 then S.2.2.1.2.1 else -1
theorem ds_count_out {S : dk_S} {x : Int32} (h : x.toInt < 0 ∨ ((4 : Nat) : Int) < x.toInt) : ds_count S x = -1 := by
  have z : ∀ k : Nat, k ≤ 4 → ¬ x = nI k := fun k hk => sw_ne h hk (by decide)
  unfold ds_count
  rw [if_neg (z 0 (by decide)), if_neg (z 1 (by decide)), if_neg (z 2 (by decide)), if_neg (z 3 (by decide)), if_neg (z 4 (by decide))]
/-- the walk of order: m steps left; what is done, the room, the row -/
def ds_ordL (P : po_S) : Nat → Int64 → Int32 → Nat × (Nat → Int64) → Nat × (Nat → Int64)
  | 0, _, _, r => r
  | m + 1, dn, rm, r => match cl_best P dn rm with
    | none => r
    | some b => ds_ordL P m (dn ||| bz_b b) (rm - (P.2.2 b).2.2.2.1) (r.1 + 1, kx_w r.2 (r.1 * 4) (P.2.2 b).1)
def ds_ord (S : dk_S) (z : Int32) : Nat × (Nat → Int64) := ds_ordL S.2.2.1 41 0 z (0, S.2.2.2.2)
/-- letIn at place q: described, settled, and, if there are too many, the least paying family goes -/
def ds_in1 (P : po_S) (q : Nat) (f : Int64) (z o : Int32) : po_S := cl_setq P q ((P.2.2 q).1, (P.2.2 q).2.1, f, z, o, (P.2.2 q).2.2.2.2.2.1, (P.2.2 q).2.2.2.2.2.2.1, (P.2.2 q).2.2.2.2.2.2.2)
def ds_in2 (P : po_S) (q : Nat) (m : nm_T) (v : kv_T) (f : Int64) (z o : Int32) : po_S := cl_st (ds_in1 P q f z o) q m v
def ds_in3 (P : po_S) (q : Nat) (m : nm_T) (v : kv_T) (f : Int64) (z o : Int32) : po_S := (ds_rmf (ds_in2 P q m v f z o) (cl_least (ds_in2 P q m v f z o))).2
def ds_in (P : po_S) (m : nm_T) (v : kv_T) (f : Int64) (z o : Int32) : Int32 × po_S := match cl_freeo P with
  | none => (-1, P)
  | some q => if bz_c (ds_in2 P q m v f z o).1 64 ≤ 40 then (nI 0, ds_in2 P q m v f z o) else (if bz_t (ds_in3 P q m v f z o).1 q = true then nI 0 else nI 5, ds_in3 P q m v f z o)
def ds_enter (S : dk_S) (f : Int64) (z o : Int32) : Int32 × dk_S := if S.2.1.1 = 0 ∨ cl_isTx f z o = false then (-1, S) else if cl_hind S.2.2.1 S.1 S.2.1 o = nI 0 then ((ds_in S.2.2.1 S.1 S.2.1 f z o).1, (S.1, (0, S.2.1.2), (ds_in S.2.2.1 S.1 S.2.1 f z o).2, S.2.2.2)) else (cl_hind S.2.2.1 S.1 S.2.1 o, (S.1, (0, S.2.1.2), S.2.2))
end DeskWords
end
section
def wl_Desk_name : List Cond := [.fieldLink "PoolDesk" 12 "PoolDesk" "hand" "LPoolDesk$Name;", .methodLink "PoolDesk" 37 y_Name_set, .instanceMethod y_Name_set, .selects "PoolDesk$Name" y_Name_set y_Name_set]
theorem wi_Desk_name : ∀ w ∈ wl_Desk_name, w ∈ ma_tbl := by decide +kernel
def wl_Desk_spend : List Cond := [.fieldLink "PoolDesk" 19 "PoolDesk" "told" "LPoolDesk$Keys;", .fieldLink "PoolDesk" 12 "PoolDesk" "hand" "LPoolDesk$Name;", .methodLink "PoolDesk" 41 y_Keys_add, .instanceMethod y_Keys_add, .selects "PoolDesk$Keys" y_Keys_add y_Keys_add]
theorem wi_Desk_spend : ∀ w ∈ wl_Desk_spend, w ∈ ma_tbl := by decide +kernel
def wl_Desk_removeFamily : List Cond := [.fieldLink "PoolDesk" 26 "PoolDesk" "pool" "LPoolDesk$Pool;", .methodLink "PoolDesk" 68 y_Desk_bit, .static y_Desk_bit, .methodLink "PoolDesk" 117 y_Pool_family, .instanceMethod y_Pool_family, .selects "PoolDesk$Pool" y_Pool_family y_Pool_family, .methodLink "PoolDesk" 72 y_Pool_remove, .instanceMethod y_Pool_remove, .selects "PoolDesk$Pool" y_Pool_remove y_Pool_remove, .methodLink "PoolDesk" 108 y_Long_bitCount, .static y_Long_bitCount]
theorem wi_Desk_removeFamily : ∀ w ∈ wl_Desk_removeFamily, w ∈ ma_tbl := by decide +kernel
def wl_Desk_drop : List Cond := [.fieldLink "PoolDesk" 26 "PoolDesk" "pool" "LPoolDesk$Pool;", .fieldLink "PoolDesk" 12 "PoolDesk" "hand" "LPoolDesk$Name;", .methodLink "PoolDesk" 64 y_Pool_find, .instanceMethod y_Pool_find, .selects "PoolDesk$Pool" y_Pool_find y_Pool_find, .methodLink "PoolDesk" 76 y_Desk_removeFamily, .instanceMethod y_Desk_removeFamily, .selects "PoolDesk" y_Desk_removeFamily y_Desk_removeFamily]
theorem wi_Desk_drop : ∀ w ∈ wl_Desk_drop, w ∈ ma_tbl := by decide +kernel
def wl_Desk_strike : List Cond := [.fieldLink "PoolDesk" 26 "PoolDesk" "pool" "LPoolDesk$Pool;", .fieldLink "PoolDesk" 12 "PoolDesk" "hand" "LPoolDesk$Name;", .methodLink "PoolDesk" 80 y_Pool_findSpender, .instanceMethod y_Pool_findSpender, .selects "PoolDesk$Pool" y_Pool_findSpender y_Pool_findSpender, .methodLink "PoolDesk" 76 y_Desk_removeFamily, .instanceMethod y_Desk_removeFamily, .selects "PoolDesk" y_Desk_removeFamily y_Desk_removeFamily]
theorem wi_Desk_strike : ∀ w ∈ wl_Desk_strike, w ∈ ma_tbl := by decide +kernel
def wl_Desk_take : List Cond := [.fieldLink "PoolDesk" 26 "PoolDesk" "pool" "LPoolDesk$Pool;", .fieldLink "PoolDesk" 12 "PoolDesk" "hand" "LPoolDesk$Name;", .methodLink "PoolDesk" 64 y_Pool_find, .instanceMethod y_Pool_find, .selects "PoolDesk$Pool" y_Pool_find y_Pool_find, .methodLink "PoolDesk" 68 y_Desk_bit, .static y_Desk_bit, .methodLink "PoolDesk" 72 y_Pool_remove, .instanceMethod y_Pool_remove, .selects "PoolDesk$Pool" y_Pool_remove y_Pool_remove]
theorem wi_Desk_take : ∀ w ∈ wl_Desk_take, w ∈ ma_tbl := by decide +kernel
def wl_Desk_count : List Cond := [.fieldLink "PoolDesk" 26 "PoolDesk" "pool" "LPoolDesk$Pool;", .fieldLink "PoolDesk" 148 "PoolDesk$Pool" "present" "J", .methodLink "PoolDesk" 108 y_Long_bitCount, .static y_Long_bitCount, .methodLink "PoolDesk" 151 y_Pool_sumOfKeys, .instanceMethod y_Pool_sumOfKeys, .selects "PoolDesk$Pool" y_Pool_sumOfKeys y_Pool_sumOfKeys, .methodLink "PoolDesk" 124 y_Pool_sumOfSizes, .instanceMethod y_Pool_sumOfSizes, .selects "PoolDesk$Pool" y_Pool_sumOfSizes y_Pool_sumOfSizes, .fieldLink "PoolDesk" 19 "PoolDesk" "told" "LPoolDesk$Keys;", .fieldLink "PoolDesk" 45 "PoolDesk$Keys" "held" "I", .fieldLink "PoolDesk" 155 "PoolDesk$Pool" "came" "I"]
theorem wi_Desk_count : ∀ w ∈ wl_Desk_count, w ∈ ma_tbl := by decide +kernel
def wl_Desk_fees : List Cond := [.fieldLink "PoolDesk" 26 "PoolDesk" "pool" "LPoolDesk$Pool;", .fieldLink "PoolDesk" 148 "PoolDesk$Pool" "present" "J", .methodLink "PoolDesk" 121 y_Pool_sumOfFees, .instanceMethod y_Pool_sumOfFees, .selects "PoolDesk$Pool" y_Pool_sumOfFees y_Pool_sumOfFees]
theorem wi_Desk_fees : ∀ w ∈ wl_Desk_fees, w ∈ ma_tbl := by decide +kernel
def wl_Desk_row : List Cond := [.fieldLink "PoolDesk" 33 "PoolDesk" "block" "LPoolDesk$Row;", .methodLink "PoolDesk" 144 y_Row_word, .instanceMethod y_Row_word, .selects "PoolDesk$Row" y_Row_word y_Row_word]
theorem wi_Desk_row : ∀ w ∈ wl_Desk_row, w ∈ ma_tbl := by decide +kernel
def wl_Desk_look : List Cond := [.fieldLink "PoolDesk" 26 "PoolDesk" "pool" "LPoolDesk$Pool;", .fieldLink "PoolDesk" 12 "PoolDesk" "hand" "LPoolDesk$Name;", .methodLink "PoolDesk" 64 y_Pool_find, .instanceMethod y_Pool_find, .selects "PoolDesk$Pool" y_Pool_find y_Pool_find, .constantLong "PoolDesk" 84 (-1), .fieldLink "PoolDesk" 86 "PoolDesk$Pool" "places" "[LPoolDesk$Transaction;", .fieldLink "PoolDesk" 90 "PoolDesk$Transaction" "fee" "J", .fieldLink "PoolDesk" 96 "PoolDesk$Transaction" "size" "I", .fieldLink "PoolDesk" 99 "PoolDesk$Transaction" "outputs" "I", .fieldLink "PoolDesk" 102 "PoolDesk$Transaction" "keys" "LPoolDesk$Keys;", .fieldLink "PoolDesk" 45 "PoolDesk$Keys" "held" "I", .fieldLink "PoolDesk" 105 "PoolDesk$Transaction" "parents" "J", .methodLink "PoolDesk" 108 y_Long_bitCount, .static y_Long_bitCount, .fieldLink "PoolDesk" 114 "PoolDesk$Transaction" "children" "J", .methodLink "PoolDesk" 68 y_Desk_bit, .static y_Desk_bit, .methodLink "PoolDesk" 117 y_Pool_family, .instanceMethod y_Pool_family, .selects "PoolDesk$Pool" y_Pool_family y_Pool_family, .methodLink "PoolDesk" 121 y_Pool_sumOfFees, .instanceMethod y_Pool_sumOfFees, .selects "PoolDesk$Pool" y_Pool_sumOfFees y_Pool_sumOfFees, .methodLink "PoolDesk" 124 y_Pool_sumOfSizes, .instanceMethod y_Pool_sumOfSizes, .selects "PoolDesk$Pool" y_Pool_sumOfSizes y_Pool_sumOfSizes, .fieldLink "PoolDesk" 127 "PoolDesk$Transaction" "coming" "I"]
theorem wi_Desk_look : ∀ w ∈ wl_Desk_look, w ∈ ma_tbl := by decide +kernel
set_option maxHeartbeats 1000000 in
set_option maxRecDepth 100000 in
theorem c_Desk_name {l : Launch} {D : va_G} {ca : Nat → ClassId} {hp : hp_T} {d : Nat} {L : dk_L} {S : dk_S} (hD : dk_At ca hp L S) (hO : dk_ok L) {m : nm_T} : ma_V l D ca ma_T M_Desk_name (d + 1) 0 0 hp (ma_qv (fun hp1 => dk_At ca hp1 L (m, S.2) ∧ dk_out L hp hp1)) 0 (lv_args 0 [.ref (dk_x L), .long m.1, .long m.2.1, .long m.2.2.1, .long m.2.2.2]) [] := by
  change ma_V l D ca ma_T M_Desk_name (d + 1) 0 0 hp (ma_qv (fun hp1 => dk_At ca hp1 L (m, S.2) ∧ dk_out L hp hp1)) 0 [(0, .ref (dk_x L)), (1, .long m.1), (3, .long m.2.1), (5, .long m.2.2.1), (7, .long m.2.2.2)] []
  refine rv_aload_n d_Desk_name_0 rfl 0 rfl ?_
  refine rv_get ka_Desk hD.1 rfl 0 (by decide) (wi_Desk_name _ (List.mem_of_getElem? (i := 0) rfl)) rfl d_Desk_name_1 ?_
  refine rv_lload_n d_Desk_name_4 rfl 1 rfl ?_
  refine rv_lload_n d_Desk_name_5 rfl 2 rfl ?_
  refine rv_lload d_Desk_name_6 3 rfl ?_
  refine rv_lload d_Desk_name_8 4 rfl ?_
  refine rv_callV (kc' := 0) (ks' := 0) (kc1 := 0) (ks1 := 0) (As := [.long m.1, .long m.2.1, .long m.2.2.1, .long m.2.2.2]) (rest := []) hD.2.1 rfl (c_Name_set (m := m) hD.2.1) ok_Name_set (wi_Desk_name _ (List.mem_of_getElem? (i := 1) rfl)) (wi_Desk_name _ (List.mem_of_getElem? (i := 2) rfl)) (wi_Desk_name _ (List.mem_of_getElem? (i := 3) rfl)) rfl rfl (Nat.le_of_ble_eq_true rfl) (Nat.le_of_ble_eq_true rfl) ⟨Nat.le_of_ble_eq_true rfl, Nat.le_of_ble_eq_true rfl⟩ d_Desk_name_10 (rv_kv (fun hp64 ehp64 => ?_))
  exact rv_vreturn ⟨rfl, by rw [ehp64]; exact dk_setN hD hO m, by rw [ehp64]; exact dk_out_up (Or.inr (Or.inl rfl))⟩ d_Desk_name_13 rfl
set_option maxHeartbeats 1000000 in
set_option maxRecDepth 100000 in
theorem c_Desk_spend {l : Launch} {D : va_G} {ca : Nat → ClassId} {hp : hp_T} {d : Nat} {L : dk_L} {S : dk_S} (hD : dk_At ca hp L S) (hO : dk_ok L) {x : Int32} : ma_V l D ca ma_T M_Desk_spend (d + 3) 0 0 hp (ma_qi (fun r hp1 => r = bI (kv_may S.2.1 S.1 x) ∧ dk_At ca hp1 L (S.1, (if kv_may S.2.1 S.1 x = true then kv_add S.2.1 S.1 x else S.2.1), S.2.2) ∧ dk_out L hp hp1)) 0 (lv_args 0 [.ref (dk_x L), .int x]) [] := by
  change ma_V l D ca ma_T M_Desk_spend (d + 3) 0 0 hp (ma_qi (fun r hp1 => r = bI (kv_may S.2.1 S.1 x) ∧ dk_At ca hp1 L (S.1, (if kv_may S.2.1 S.1 x = true then kv_add S.2.1 S.1 x else S.2.1), S.2.2) ∧ dk_out L hp hp1)) 0 [(0, .ref (dk_x L)), (1, .int x)] []
  refine rv_aload_n d_Desk_spend_0 rfl 0 rfl ?_
  refine rv_get ka_Desk hD.1 rfl 1 (by decide) (wi_Desk_spend _ (List.mem_of_getElem? (i := 0) rfl)) rfl d_Desk_spend_1 ?_
  refine rv_aload_n d_Desk_spend_4 rfl 0 rfl ?_
  refine rv_get ka_Desk hD.1 rfl 0 (by decide) (wi_Desk_spend _ (List.mem_of_getElem? (i := 1) rfl)) rfl d_Desk_spend_5 ?_
  refine rv_iload_n d_Desk_spend_8 rfl 1 rfl ?_
  refine rv_callV (kc' := 0) (ks' := 0) (kc1 := 0) (ks1 := 0) (As := [.ref (dk_n L), .int x]) (rest := []) hD.2.2.1.1 rfl (c_Keys_add hD.2.2.1 hD.2.1) ok_Keys_add (wi_Desk_spend _ (List.mem_of_getElem? (i := 2) rfl)) (wi_Desk_spend _ (List.mem_of_getElem? (i := 3) rfl)) (wi_Desk_spend _ (List.mem_of_getElem? (i := 4) rfl)) rfl rfl (Nat.le_of_ble_eq_true rfl) (Nat.le_of_ble_eq_true rfl) ⟨Nat.le_of_ble_eq_true rfl, Nat.le_of_ble_eq_true rfl⟩ d_Desk_spend_9 (rv_kie ?_)
  by_cases e : kv_may S.2.1 S.1 x = true
  · rw [if_pos e]
    have h8 : S.2.1.1 < 8 := of_decide_eq_true (Bool.and_eq_true _ _ |>.mp e).1
    refine rv_ireturn ⟨_, rfl, rfl, ?_, dk_outK⟩ d_Desk_spend_12 rfl (bI_nar _)
    rw [if_pos e]
    exact dk_setK hD hO (v := kv_add S.2.1 S.1 x) h8
  · rw [if_neg e]
    refine rv_ireturn ⟨_, rfl, rfl, ?_, dk_out_rf⟩ d_Desk_spend_12 rfl (bI_nar _)
    rw [if_neg e]
    exact hD
set_option maxHeartbeats 1000000 in
set_option maxRecDepth 100000 in
theorem c_Desk_removeFamily {l : Launch} {D : va_G} {ca : Nat → ClassId} {hp : hp_T} {d : Nat} {L : dk_L} {S : dk_S} (hD : dk_At ca hp L S) (hO : dk_ok L) {o : Option Nat} (ho : ∀ p, o = some p → p < 41) : ma_V l D ca ma_T M_Desk_removeFamily (d + 3) 0 0 hp (ma_qi (fun r hp1 => r = (ds_rmf S.2.2.1 o).1 ∧ dk_At ca hp1 L (S.1, S.2.1, (ds_rmf S.2.2.1 o).2, S.2.2.2) ∧ dk_out L hp hp1)) 0 (lv_args 0 [.ref (dk_x L), .int (ob_i o)]) [] := by
  cases o with
  | none =>
    change ma_V l D ca ma_T M_Desk_removeFamily (d + 3) 0 0 hp (ma_qi (fun r hp1 => r = (ds_rmf S.2.2.1 (none)).1 ∧ dk_At ca hp1 L (S.1, S.2.1, (ds_rmf S.2.2.1 (none)).2, S.2.2.2) ∧ dk_out L hp hp1)) 0 [(0, .ref (dk_x L)), (1, .int (-1))] []
    refine rv_iload_n d_Desk_removeFamily_0 rfl 1 rfl ?_
    refine rv_iconst (v := (-1)) d_Desk_removeFamily_1 (by decide) ?_
    refine rv_icmp_ne (tgt := 7) d_Desk_removeFamily_2 (by decide) (fun c_2 => ?_) (fun c_2 => ?_)
    · exact absurd rfl c_2
    · refine rv_iconst (v := nI 0) d_Desk_removeFamily_5 (by decide) ?_
      exact rv_ireturn ⟨_, rfl, rfl, hD, dk_out_rf⟩ d_Desk_removeFamily_6 rfl rfl
  | some p =>
    change ma_V l D ca ma_T M_Desk_removeFamily (d + 3) 0 0 hp (ma_qi (fun r hp1 => r = (ds_rmf S.2.2.1 (some p)).1 ∧ dk_At ca hp1 L (S.1, S.2.1, (ds_rmf S.2.2.1 (some p)).2, S.2.2.2) ∧ dk_out L hp hp1)) 0 [(0, .ref (dk_x L)), (1, .int (nI p))] []
    have hp0 : p < 41 := ho p rfl
    refine rv_iload_n d_Desk_removeFamily_0 rfl 1 rfl ?_
    refine rv_iconst (v := (-1)) d_Desk_removeFamily_1 (by decide) ?_
    refine rv_icmp_ne (tgt := 7) d_Desk_removeFamily_2 (by decide) (fun c_2 => ?_) (fun c_2 => ?_)
    · refine rv_aload_n d_Desk_removeFamily_7 rfl 0 rfl ?_
      refine rv_get ka_Desk hD.1 rfl 2 (by decide) (wi_Desk_removeFamily _ (List.mem_of_getElem? (i := 0) rfl)) rfl d_Desk_removeFamily_8 ?_
      refine rv_iload_n d_Desk_removeFamily_11 rfl 1 rfl ?_
      refine rv_callS (kc' := 0) (ks' := 0) (kc1 := 0) (ks1 := 0) (As := [.int (nI p)]) (rest := [.ref (dk_p L)]) (c_Desk_bit) ok_Desk_bit (wi_Desk_removeFamily _ (List.mem_of_getElem? (i := 1) rfl)) (wi_Desk_removeFamily _ (List.mem_of_getElem? (i := 2) rfl)) rfl rfl (Nat.le_of_ble_eq_true rfl) (Nat.le_of_ble_eq_true rfl) ⟨Nat.le_of_ble_eq_true rfl, Nat.le_of_ble_eq_true rfl⟩ d_Desk_removeFamily_12 (rv_kle ?_)
      refine rv_callV (kc' := 0) (ks' := 0) (kc1 := 0) (ks1 := 0) (As := [.long (bz_b p)]) (rest := []) hD.2.2.2.1.1 rfl (c_Pool_family hD.2.2.2.1) ok_Pool_family (wi_Desk_removeFamily _ (List.mem_of_getElem? (i := 3) rfl)) (wi_Desk_removeFamily _ (List.mem_of_getElem? (i := 4) rfl)) (wi_Desk_removeFamily _ (List.mem_of_getElem? (i := 5) rfl)) rfl rfl (Nat.le_of_ble_eq_true rfl) (Nat.le_of_ble_eq_true rfl) ⟨Nat.le_of_ble_eq_true rfl, Nat.le_of_ble_eq_true rfl⟩ d_Desk_removeFamily_15 (rv_kle ?_)
      refine rv_lstore_n (lv' := [(2, .long (cl_fam S.2.2.1 (bz_b p))), (0, .ref (dk_x L)), (1, .int (nI p))]) d_Desk_removeFamily_18 rfl (by decide) rfl ?_
      refine rv_aload_n d_Desk_removeFamily_19 rfl 1 rfl ?_
      refine rv_get ka_Desk hD.1 rfl 2 (by decide) (wi_Desk_removeFamily _ (List.mem_of_getElem? (i := 0) rfl)) rfl d_Desk_removeFamily_20 ?_
      refine rv_lload_n d_Desk_removeFamily_23 rfl 0 rfl ?_
      refine rv_callV (kc' := 0) (ks' := 0) (kc1 := 0) (ks1 := 0) (As := [.long (cl_fam S.2.2.1 (bz_b p))]) (rest := []) hD.2.2.2.1.1 rfl (c_Pool_remove hD.2.2.2.1 hO.1) ok_Pool_remove (wi_Desk_removeFamily _ (List.mem_of_getElem? (i := 6) rfl)) (wi_Desk_removeFamily _ (List.mem_of_getElem? (i := 7) rfl)) (wi_Desk_removeFamily _ (List.mem_of_getElem? (i := 8) rfl)) rfl rfl (Nat.le_of_ble_eq_true rfl) (Nat.le_of_ble_eq_true rfl) ⟨Nat.le_of_ble_eq_true rfl, Nat.le_of_ble_eq_true rfl⟩ d_Desk_removeFamily_24 (rv_kv (fun hp65 ehp65 => ?_))
      obtain ⟨hP1, ho1⟩ := ehp65
      refine rv_lload_n d_Desk_removeFamily_27 rfl 0 rfl ?_
      refine rv_callS (kc' := 0) (ks' := 0) (kc1 := 0) (ks1 := 0) (As := [.long (cl_fam S.2.2.1 (bz_b p))]) (rest := []) (c_Long_bitCount) ok_Long_bitCount (wi_Desk_removeFamily _ (List.mem_of_getElem? (i := 9) rfl)) (wi_Desk_removeFamily _ (List.mem_of_getElem? (i := 10) rfl)) rfl rfl (Nat.le_of_ble_eq_true rfl) (Nat.le_of_ble_eq_true rfl) ⟨Nat.le_of_ble_eq_true rfl, Nat.le_of_ble_eq_true rfl⟩ d_Desk_removeFamily_28 (rv_kie ?_)
      exact rv_ireturn ⟨_, rfl, rfl, dk_setP hD hO hP1 ho1, dk_out_po ho1⟩ d_Desk_removeFamily_31 rfl rfl
    · exact absurd c_2 (nI_m1 (by omega))
set_option maxHeartbeats 1000000 in
set_option maxRecDepth 100000 in
theorem c_Desk_drop {l : Launch} {D : va_G} {ca : Nat → ClassId} {hp : hp_T} {d : Nat} {L : dk_L} {S : dk_S} (hD : dk_At ca hp L S) (hO : dk_ok L) : ma_V l D ca ma_T M_Desk_drop (d + 4) 0 0 hp (ma_qi (fun r hp1 => r = (ds_rmf S.2.2.1 (cl_findo S.2.2.1 S.1)).1 ∧ dk_At ca hp1 L (S.1, S.2.1, (ds_rmf S.2.2.1 (cl_findo S.2.2.1 S.1)).2, S.2.2.2) ∧ dk_out L hp hp1)) 0 (lv_args 0 [.ref (dk_x L)]) [] := by
  change ma_V l D ca ma_T M_Desk_drop (d + 4) 0 0 hp (ma_qi (fun r hp1 => r = (ds_rmf S.2.2.1 (cl_findo S.2.2.1 S.1)).1 ∧ dk_At ca hp1 L (S.1, S.2.1, (ds_rmf S.2.2.1 (cl_findo S.2.2.1 S.1)).2, S.2.2.2) ∧ dk_out L hp hp1)) 0 [(0, .ref (dk_x L))] []
  refine rv_aload_n d_Desk_drop_0 rfl 0 rfl ?_
  refine rv_aload_n d_Desk_drop_1 rfl 0 rfl ?_
  refine rv_get ka_Desk hD.1 rfl 2 (by decide) (wi_Desk_drop _ (List.mem_of_getElem? (i := 0) rfl)) rfl d_Desk_drop_2 ?_
  refine rv_aload_n d_Desk_drop_5 rfl 0 rfl ?_
  refine rv_get ka_Desk hD.1 rfl 0 (by decide) (wi_Desk_drop _ (List.mem_of_getElem? (i := 1) rfl)) rfl d_Desk_drop_6 ?_
  refine rv_callV (kc' := 0) (ks' := 0) (kc1 := 0) (ks1 := 0) (As := [.ref (dk_n L)]) (rest := [.ref (dk_x L)]) hD.2.2.2.1.1 rfl (c_Pool_find hD.2.2.2.1 hD.2.1) ok_Pool_find (wi_Desk_drop _ (List.mem_of_getElem? (i := 2) rfl)) (wi_Desk_drop _ (List.mem_of_getElem? (i := 3) rfl)) (wi_Desk_drop _ (List.mem_of_getElem? (i := 4) rfl)) rfl rfl (Nat.le_of_ble_eq_true rfl) (Nat.le_of_ble_eq_true rfl) ⟨Nat.le_of_ble_eq_true rfl, Nat.le_of_ble_eq_true rfl⟩ d_Desk_drop_9 (rv_kie ?_)
  refine rv_eqi (y := ob_i (cl_findo S.2.2.1 S.1)) (cl_find_o _ _) ?_
  refine rv_callV (kc' := 0) (ks' := 0) (kc1 := 0) (ks1 := 0) (As := [.int (ob_i (cl_findo S.2.2.1 S.1))]) (rest := []) hD.1 rfl (c_Desk_removeFamily hD hO (o := cl_findo S.2.2.1 S.1) (fun p h => cl_findo_lt h)) ok_Desk_removeFamily (wi_Desk_drop _ (List.mem_of_getElem? (i := 5) rfl)) (wi_Desk_drop _ (List.mem_of_getElem? (i := 6) rfl)) (wi_Desk_drop _ (List.mem_of_getElem? (i := 7) rfl)) rfl rfl (Nat.le_of_ble_eq_true rfl) (Nat.le_of_ble_eq_true rfl) ⟨Nat.le_of_ble_eq_true rfl, Nat.le_of_ble_eq_true rfl⟩ d_Desk_drop_12 (rv_ki (fun r66 hp66 ehp66 => ?_))
  exact rv_ireturn ⟨_, rfl, ehp66⟩ d_Desk_drop_15 rfl rfl
set_option maxHeartbeats 1000000 in
set_option maxRecDepth 100000 in
theorem c_Desk_strike {l : Launch} {D : va_G} {ca : Nat → ClassId} {hp : hp_T} {d : Nat} {L : dk_L} {S : dk_S} (hD : dk_At ca hp L S) (hO : dk_ok L) {x : Int32} : ma_V l D ca ma_T M_Desk_strike (d + 4) 0 0 hp (ma_qi (fun r hp1 => r = (ds_rmf S.2.2.1 (cl_spendero S.2.2.1 S.1 x)).1 ∧ dk_At ca hp1 L (S.1, S.2.1, (ds_rmf S.2.2.1 (cl_spendero S.2.2.1 S.1 x)).2, S.2.2.2) ∧ dk_out L hp hp1)) 0 (lv_args 0 [.ref (dk_x L), .int x]) [] := by
  change ma_V l D ca ma_T M_Desk_strike (d + 4) 0 0 hp (ma_qi (fun r hp1 => r = (ds_rmf S.2.2.1 (cl_spendero S.2.2.1 S.1 x)).1 ∧ dk_At ca hp1 L (S.1, S.2.1, (ds_rmf S.2.2.1 (cl_spendero S.2.2.1 S.1 x)).2, S.2.2.2) ∧ dk_out L hp hp1)) 0 [(0, .ref (dk_x L)), (1, .int x)] []
  refine rv_aload_n d_Desk_strike_0 rfl 0 rfl ?_
  refine rv_aload_n d_Desk_strike_1 rfl 0 rfl ?_
  refine rv_get ka_Desk hD.1 rfl 2 (by decide) (wi_Desk_strike _ (List.mem_of_getElem? (i := 0) rfl)) rfl d_Desk_strike_2 ?_
  refine rv_aload_n d_Desk_strike_5 rfl 0 rfl ?_
  refine rv_get ka_Desk hD.1 rfl 0 (by decide) (wi_Desk_strike _ (List.mem_of_getElem? (i := 1) rfl)) rfl d_Desk_strike_6 ?_
  refine rv_iload_n d_Desk_strike_9 rfl 1 rfl ?_
  refine rv_callV (kc' := 0) (ks' := 0) (kc1 := 0) (ks1 := 0) (As := [.ref (dk_n L), .int x]) (rest := [.ref (dk_x L)]) hD.2.2.2.1.1 rfl (c_Pool_findSpender hD.2.2.2.1 hD.2.1) ok_Pool_findSpender (wi_Desk_strike _ (List.mem_of_getElem? (i := 2) rfl)) (wi_Desk_strike _ (List.mem_of_getElem? (i := 3) rfl)) (wi_Desk_strike _ (List.mem_of_getElem? (i := 4) rfl)) rfl rfl (Nat.le_of_ble_eq_true rfl) (Nat.le_of_ble_eq_true rfl) ⟨Nat.le_of_ble_eq_true rfl, Nat.le_of_ble_eq_true rfl⟩ d_Desk_strike_10 (rv_kie ?_)
  refine rv_eqi (y := ob_i (cl_spendero S.2.2.1 S.1 x)) (cl_spender_o _ _ _) ?_
  refine rv_callV (kc' := 0) (ks' := 0) (kc1 := 0) (ks1 := 0) (As := [.int (ob_i (cl_spendero S.2.2.1 S.1 x))]) (rest := []) hD.1 rfl (c_Desk_removeFamily hD hO (o := cl_spendero S.2.2.1 S.1 x) (fun p h => cl_spendero_lt h)) ok_Desk_removeFamily (wi_Desk_strike _ (List.mem_of_getElem? (i := 5) rfl)) (wi_Desk_strike _ (List.mem_of_getElem? (i := 6) rfl)) (wi_Desk_strike _ (List.mem_of_getElem? (i := 7) rfl)) rfl rfl (Nat.le_of_ble_eq_true rfl) (Nat.le_of_ble_eq_true rfl) ⟨Nat.le_of_ble_eq_true rfl, Nat.le_of_ble_eq_true rfl⟩ d_Desk_strike_13 (rv_ki (fun r67 hp67 ehp67 => ?_))
  exact rv_ireturn ⟨_, rfl, ehp67⟩ d_Desk_strike_16 rfl rfl
set_option maxHeartbeats 1000000 in
set_option maxRecDepth 100000 in
theorem c_Desk_take {l : Launch} {D : va_G} {ca : Nat → ClassId} {hp : hp_T} {d : Nat} {L : dk_L} {S : dk_S} (hD : dk_At ca hp L S) (hO : dk_ok L) : ma_V l D ca ma_T M_Desk_take (d + 3) 0 0 hp (ma_qi (fun r hp1 => r = (ds_take S.2.2.1 (cl_findo S.2.2.1 S.1)).1 ∧ dk_At ca hp1 L (S.1, S.2.1, (ds_take S.2.2.1 (cl_findo S.2.2.1 S.1)).2, S.2.2.2) ∧ dk_out L hp hp1)) 0 (lv_args 0 [.ref (dk_x L)]) [] := by
  change ma_V l D ca ma_T M_Desk_take (d + 3) 0 0 hp (ma_qi (fun r hp1 => r = (ds_take S.2.2.1 (cl_findo S.2.2.1 S.1)).1 ∧ dk_At ca hp1 L (S.1, S.2.1, (ds_take S.2.2.1 (cl_findo S.2.2.1 S.1)).2, S.2.2.2) ∧ dk_out L hp hp1)) 0 [(0, .ref (dk_x L))] []
  refine rv_aload_n d_Desk_take_0 rfl 0 rfl ?_
  refine rv_get ka_Desk hD.1 rfl 2 (by decide) (wi_Desk_take _ (List.mem_of_getElem? (i := 0) rfl)) rfl d_Desk_take_1 ?_
  refine rv_aload_n d_Desk_take_4 rfl 0 rfl ?_
  refine rv_get ka_Desk hD.1 rfl 0 (by decide) (wi_Desk_take _ (List.mem_of_getElem? (i := 1) rfl)) rfl d_Desk_take_5 ?_
  refine rv_callV (kc' := 0) (ks' := 0) (kc1 := 0) (ks1 := 0) (As := [.ref (dk_n L)]) (rest := []) hD.2.2.2.1.1 rfl (c_Pool_find hD.2.2.2.1 hD.2.1) ok_Pool_find (wi_Desk_take _ (List.mem_of_getElem? (i := 2) rfl)) (wi_Desk_take _ (List.mem_of_getElem? (i := 3) rfl)) (wi_Desk_take _ (List.mem_of_getElem? (i := 4) rfl)) rfl rfl (Nat.le_of_ble_eq_true rfl) (Nat.le_of_ble_eq_true rfl) ⟨Nat.le_of_ble_eq_true rfl, Nat.le_of_ble_eq_true rfl⟩ d_Desk_take_8 (rv_kie ?_)
  refine rv_eqi (y := ob_i (cl_findo S.2.2.1 S.1)) (cl_find_o _ _) ?_
  cases eo : cl_findo S.2.2.1 S.1 with
  | none =>
    refine rv_eqi (y := (-1)) rfl ?_
    refine rv_istore_n (lv' := [(1, .int (-1)), (0, .ref (dk_x L))]) d_Desk_take_11 rfl (by decide) rfl ?_
    refine rv_iload_n d_Desk_take_12 rfl 0 rfl ?_
    refine rv_iconst (v := (-1)) d_Desk_take_13 (by decide) ?_
    refine rv_icmp_ne (tgt := 19) d_Desk_take_14 (by decide) (fun c_14 => ?_) (fun c_14 => ?_)
    · exact absurd rfl c_14
    · refine rv_iconst (v := nI 0) d_Desk_take_17 (by decide) ?_
      exact rv_ireturn ⟨_, rfl, rfl, hD, dk_out_rf⟩ d_Desk_take_18 rfl (bI_nar false)
  | some p =>
    refine rv_eqi (y := nI p) rfl ?_
    have hp0 : p < 41 := cl_findo_lt eo
    refine rv_istore_n (lv' := [(1, .int (nI p)), (0, .ref (dk_x L))]) d_Desk_take_11 rfl (by decide) rfl ?_
    refine rv_iload_n d_Desk_take_12 rfl 0 rfl ?_
    refine rv_iconst (v := (-1)) d_Desk_take_13 (by decide) ?_
    refine rv_icmp_ne (tgt := 19) d_Desk_take_14 (by decide) (fun c_14 => ?_) (fun c_14 => ?_)
    · refine rv_aload_n d_Desk_take_19 rfl 1 rfl ?_
      refine rv_get ka_Desk hD.1 rfl 2 (by decide) (wi_Desk_take _ (List.mem_of_getElem? (i := 0) rfl)) rfl d_Desk_take_20 ?_
      refine rv_iload_n d_Desk_take_23 rfl 0 rfl ?_
      refine rv_callS (kc' := 0) (ks' := 0) (kc1 := 0) (ks1 := 0) (As := [.int (nI p)]) (rest := [.ref (dk_p L)]) (c_Desk_bit) ok_Desk_bit (wi_Desk_take _ (List.mem_of_getElem? (i := 5) rfl)) (wi_Desk_take _ (List.mem_of_getElem? (i := 6) rfl)) rfl rfl (Nat.le_of_ble_eq_true rfl) (Nat.le_of_ble_eq_true rfl) ⟨Nat.le_of_ble_eq_true rfl, Nat.le_of_ble_eq_true rfl⟩ d_Desk_take_24 (rv_kle ?_)
      refine rv_callV (kc' := 0) (ks' := 0) (kc1 := 0) (ks1 := 0) (As := [.long (bz_b p)]) (rest := []) hD.2.2.2.1.1 rfl (c_Pool_remove hD.2.2.2.1 hO.1) ok_Pool_remove (wi_Desk_take _ (List.mem_of_getElem? (i := 7) rfl)) (wi_Desk_take _ (List.mem_of_getElem? (i := 8) rfl)) (wi_Desk_take _ (List.mem_of_getElem? (i := 9) rfl)) rfl rfl (Nat.le_of_ble_eq_true rfl) (Nat.le_of_ble_eq_true rfl) ⟨Nat.le_of_ble_eq_true rfl, Nat.le_of_ble_eq_true rfl⟩ d_Desk_take_27 (rv_kv (fun hp68 ehp68 => ?_))
      obtain ⟨hP1, ho1⟩ := ehp68
      refine rv_iconst (v := nI 1) d_Desk_take_30 (by decide) ?_
      exact rv_ireturn ⟨_, rfl, rfl, dk_setP hD hO hP1 ho1, dk_out_po ho1⟩ d_Desk_take_31 rfl (bI_nar true)
    · exact absurd c_14 (nI_m1 (by omega))
set_option maxHeartbeats 1000000 in
set_option maxRecDepth 100000 in
theorem c_Desk_count {l : Launch} {D : va_G} {ca : Nat → ClassId} {hp : hp_T} {d : Nat} {L : dk_L} {S : dk_S} (hD : dk_At ca hp L S) (hO : dk_ok L) {x : Int32} : ma_V l D ca ma_T M_Desk_count (d + 3) 0 0 hp (ma_qi (ma_eq (ds_count S x) hp)) 0 (lv_args 0 [.ref (dk_x L), .int x]) [] := by
  change ma_V l D ca ma_T M_Desk_count (d + 3) 0 0 hp (ma_qi (ma_eq (ds_count S x) hp)) 0 [(0, .ref (dk_x L)), (1, .int x)] []
  obtain ⟨f, hf, hfp⟩ := hD.2.2.2.1.2.1
  refine rv_iload_n d_Desk_count_0 rfl 1 rfl ?_
  rcases sw_cases x 4 (by decide) with ⟨k, hk, rfl⟩ | hx
  · rcases (show k = 0 ∨ k = 1 ∨ k = 2 ∨ k = 3 ∨ k = 4 by omega) with rfl | rfl | rfl | rfl | rfl
    · refine rv_tblI (off := 35) (tgt := 36) d_Desk_count_1 (by decide) (by decide) (by decide) (by decide) ?_
      refine rv_aload_n d_Desk_count_36 rfl 0 rfl ?_
      refine rv_get ka_Desk hD.1 rfl 2 (by decide) (wi_Desk_count _ (List.mem_of_getElem? (i := 0) rfl)) rfl d_Desk_count_37 ?_
      refine rv_get ka_Pool hD.2.2.2.1.1 rfl 1 (by decide) (wi_Desk_count _ (List.mem_of_getElem? (i := 1) rfl)) rfl d_Desk_count_40 ?_
      refine rv_callS (kc' := 0) (ks' := 0) (kc1 := 0) (ks1 := 0) (As := [.long S.2.2.1.1]) (rest := []) (c_Long_bitCount) ok_Long_bitCount (wi_Desk_count _ (List.mem_of_getElem? (i := 2) rfl)) (wi_Desk_count _ (List.mem_of_getElem? (i := 3) rfl)) rfl rfl (Nat.le_of_ble_eq_true rfl) (Nat.le_of_ble_eq_true rfl) ⟨Nat.le_of_ble_eq_true rfl, Nat.le_of_ble_eq_true rfl⟩ d_Desk_count_43 (rv_kie ?_)
      exact rv_ireturn ⟨_, rfl, rfl, rfl⟩ d_Desk_count_46 rfl rfl
    · refine rv_tblI (off := 46) (tgt := 47) d_Desk_count_1 (by decide) (by decide) (by decide) (by decide) ?_
      refine rv_aload_n d_Desk_count_47 rfl 0 rfl ?_
      refine rv_get ka_Desk hD.1 rfl 2 (by decide) (wi_Desk_count _ (List.mem_of_getElem? (i := 0) rfl)) rfl d_Desk_count_48 ?_
      refine rv_callV (kc' := 0) (ks' := 0) (kc1 := 0) (ks1 := 0) (As := []) (rest := []) hD.2.2.2.1.1 rfl (c_Pool_sumOfKeys hD.2.2.2.1) ok_Pool_sumOfKeys (wi_Desk_count _ (List.mem_of_getElem? (i := 4) rfl)) (wi_Desk_count _ (List.mem_of_getElem? (i := 5) rfl)) (wi_Desk_count _ (List.mem_of_getElem? (i := 6) rfl)) rfl rfl (Nat.le_of_ble_eq_true rfl) (Nat.le_of_ble_eq_true rfl) ⟨Nat.le_of_ble_eq_true rfl, Nat.le_of_ble_eq_true rfl⟩ d_Desk_count_51 (rv_kie ?_)
      exact rv_ireturn ⟨_, rfl, rfl, rfl⟩ d_Desk_count_54 rfl rfl
    · refine rv_tblI (off := 54) (tgt := 55) d_Desk_count_1 (by decide) (by decide) (by decide) (by decide) ?_
      refine rv_aload_n d_Desk_count_55 rfl 0 rfl ?_
      refine rv_get ka_Desk hD.1 rfl 2 (by decide) (wi_Desk_count _ (List.mem_of_getElem? (i := 0) rfl)) rfl d_Desk_count_56 ?_
      refine rv_aload_n d_Desk_count_59 rfl 0 rfl ?_
      refine rv_get ka_Desk hD.1 rfl 2 (by decide) (wi_Desk_count _ (List.mem_of_getElem? (i := 0) rfl)) rfl d_Desk_count_60 ?_
      refine rv_get ka_Pool hD.2.2.2.1.1 rfl 1 (by decide) (wi_Desk_count _ (List.mem_of_getElem? (i := 1) rfl)) rfl d_Desk_count_63 ?_
      refine rv_callV (kc' := 0) (ks' := 0) (kc1 := 0) (ks1 := 0) (As := [.long S.2.2.1.1]) (rest := []) hD.2.2.2.1.1 rfl (c_Pool_sumOfSizes hD.2.2.2.1) ok_Pool_sumOfSizes (wi_Desk_count _ (List.mem_of_getElem? (i := 7) rfl)) (wi_Desk_count _ (List.mem_of_getElem? (i := 8) rfl)) (wi_Desk_count _ (List.mem_of_getElem? (i := 9) rfl)) rfl rfl (Nat.le_of_ble_eq_true rfl) (Nat.le_of_ble_eq_true rfl) ⟨Nat.le_of_ble_eq_true rfl, Nat.le_of_ble_eq_true rfl⟩ d_Desk_count_66 (rv_kie ?_)
      exact rv_ireturn ⟨_, rfl, rfl, rfl⟩ d_Desk_count_69 rfl rfl
    · refine rv_tblI (off := 69) (tgt := 70) d_Desk_count_1 (by decide) (by decide) (by decide) (by decide) ?_
      refine rv_aload_n d_Desk_count_70 rfl 0 rfl ?_
      refine rv_get ka_Desk hD.1 rfl 1 (by decide) (wi_Desk_count _ (List.mem_of_getElem? (i := 10) rfl)) rfl d_Desk_count_71 ?_
      refine rv_get ka_Keys hD.2.2.1.1 rfl 2 (by decide) (wi_Desk_count _ (List.mem_of_getElem? (i := 11) rfl)) rfl d_Desk_count_74 ?_
      exact rv_ireturn ⟨_, rfl, rfl, rfl⟩ d_Desk_count_77 rfl rfl
    · refine rv_tblI (off := 77) (tgt := 78) d_Desk_count_1 (by decide) (by decide) (by decide) (by decide) ?_
      refine rv_aload_n d_Desk_count_78 rfl 0 rfl ?_
      refine rv_get ka_Desk hD.1 rfl 2 (by decide) (wi_Desk_count _ (List.mem_of_getElem? (i := 0) rfl)) rfl d_Desk_count_79 ?_
      refine rv_get ka_Pool hD.2.2.2.1.1 rfl 2 (by decide) (wi_Desk_count _ (List.mem_of_getElem? (i := 12) rfl)) rfl d_Desk_count_82 ?_
      exact rv_ireturn ⟨_, rfl, rfl, rfl⟩ d_Desk_count_85 rfl rfl
  · refine rv_tblO (tgt := 86) d_Desk_count_1 hx (by decide) ?_
    refine rv_iconst (v := (-1)) d_Desk_count_86 (by decide) ?_
    exact rv_ireturn ⟨_, rfl, (ds_count_out hx).symm, rfl⟩ d_Desk_count_87 rfl rfl
set_option maxHeartbeats 1000000 in
set_option maxRecDepth 100000 in
theorem c_Desk_fees {l : Launch} {D : va_G} {ca : Nat → ClassId} {hp : hp_T} {d : Nat} {L : dk_L} {S : dk_S} (hD : dk_At ca hp L S) (hO : dk_ok L) : ma_V l D ca ma_T M_Desk_fees (d + 3) 0 0 hp (ma_ql (ma_eq (cl_fees S.2.2.1 S.2.2.1.1) hp)) 0 (lv_args 0 [.ref (dk_x L)]) [] := by
  change ma_V l D ca ma_T M_Desk_fees (d + 3) 0 0 hp (ma_ql (ma_eq (cl_fees S.2.2.1 S.2.2.1.1) hp)) 0 [(0, .ref (dk_x L))] []
  refine rv_aload_n d_Desk_fees_0 rfl 0 rfl ?_
  refine rv_get ka_Desk hD.1 rfl 2 (by decide) (wi_Desk_fees _ (List.mem_of_getElem? (i := 0) rfl)) rfl d_Desk_fees_1 ?_
  refine rv_aload_n d_Desk_fees_4 rfl 0 rfl ?_
  refine rv_get ka_Desk hD.1 rfl 2 (by decide) (wi_Desk_fees _ (List.mem_of_getElem? (i := 0) rfl)) rfl d_Desk_fees_5 ?_
  refine rv_get ka_Pool hD.2.2.2.1.1 rfl 1 (by decide) (wi_Desk_fees _ (List.mem_of_getElem? (i := 1) rfl)) rfl d_Desk_fees_8 ?_
  refine rv_callV (kc' := 0) (ks' := 0) (kc1 := 0) (ks1 := 0) (As := [.long S.2.2.1.1]) (rest := []) hD.2.2.2.1.1 rfl (c_Pool_sumOfFees hD.2.2.2.1) ok_Pool_sumOfFees (wi_Desk_fees _ (List.mem_of_getElem? (i := 2) rfl)) (wi_Desk_fees _ (List.mem_of_getElem? (i := 3) rfl)) (wi_Desk_fees _ (List.mem_of_getElem? (i := 4) rfl)) rfl rfl (Nat.le_of_ble_eq_true rfl) (Nat.le_of_ble_eq_true rfl) ⟨Nat.le_of_ble_eq_true rfl, Nat.le_of_ble_eq_true rfl⟩ d_Desk_fees_11 (rv_kle ?_)
  exact rv_lreturn ⟨_, rfl, rfl, rfl⟩ d_Desk_fees_14 rfl
set_option maxHeartbeats 1000000 in
set_option maxRecDepth 100000 in
theorem c_Desk_row {l : Launch} {D : va_G} {ca : Nat → ClassId} {hp : hp_T} {d : Nat} {L : dk_L} {S : dk_S} (hD : dk_At ca hp L S) (hO : dk_ok L) {x y : Int32} : ma_V l D ca ma_T M_Desk_row (d + 1) 0 0 hp (ma_ql (ma_eq (rw_word S.2.2.2.1 S.2.2.2.2 x y) hp)) 0 (lv_args 0 [.ref (dk_x L), .int x, .int y]) [] := by
  change ma_V l D ca ma_T M_Desk_row (d + 1) 0 0 hp (ma_ql (ma_eq (rw_word S.2.2.2.1 S.2.2.2.2 x y) hp)) 0 [(0, .ref (dk_x L)), (1, .int x), (2, .int y)] []
  refine rv_aload_n d_Desk_row_0 rfl 0 rfl ?_
  refine rv_get ka_Desk hD.1 rfl 3 (by decide) (wi_Desk_row _ (List.mem_of_getElem? (i := 0) rfl)) rfl d_Desk_row_1 ?_
  refine rv_iload_n d_Desk_row_4 rfl 1 rfl ?_
  refine rv_iload_n d_Desk_row_5 rfl 2 rfl ?_
  refine rv_callV (kc' := 0) (ks' := 0) (kc1 := 0) (ks1 := 0) (As := [.int x, .int y]) (rest := []) hD.2.2.2.2.1 rfl (c_Row_word hD.2.2.2.2.1 hD.2.2.2.2.2.1 hD.2.2.2.2.2.2) ok_Row_word (wi_Desk_row _ (List.mem_of_getElem? (i := 1) rfl)) (wi_Desk_row _ (List.mem_of_getElem? (i := 2) rfl)) (wi_Desk_row _ (List.mem_of_getElem? (i := 3) rfl)) rfl rfl (Nat.le_of_ble_eq_true rfl) (Nat.le_of_ble_eq_true rfl) ⟨Nat.le_of_ble_eq_true rfl, Nat.le_of_ble_eq_true rfl⟩ d_Desk_row_6 (rv_kle ?_)
  exact rv_lreturn ⟨_, rfl, rfl, rfl⟩ d_Desk_row_9 rfl
set_option maxHeartbeats 1000000 in
set_option maxRecDepth 100000 in
theorem c_Desk_look {l : Launch} {D : va_G} {ca : Nat → ClassId} {hp : hp_T} {d : Nat} {L : dk_L} {S : dk_S} (hD : dk_At ca hp L S) (hO : dk_ok L) {x : Int32} : ma_V l D ca ma_T M_Desk_look (d + 3) 0 0 hp (ma_ql (ma_eq (ds_look S x) hp)) 0 (lv_args 0 [.ref (dk_x L), .int x]) [] := by
  change ma_V l D ca ma_T M_Desk_look (d + 3) 0 0 hp (ma_ql (ma_eq (ds_look S x) hp)) 0 [(0, .ref (dk_x L)), (1, .int x)] []
  obtain ⟨f, hf, hfp⟩ := hD.2.2.2.1.2.1
  refine rv_aload_n d_Desk_look_0 rfl 0 rfl ?_
  refine rv_get ka_Desk hD.1 rfl 2 (by decide) (wi_Desk_look _ (List.mem_of_getElem? (i := 0) rfl)) rfl d_Desk_look_1 ?_
  refine rv_aload_n d_Desk_look_4 rfl 0 rfl ?_
  refine rv_get ka_Desk hD.1 rfl 0 (by decide) (wi_Desk_look _ (List.mem_of_getElem? (i := 1) rfl)) rfl d_Desk_look_5 ?_
  refine rv_callV (kc' := 0) (ks' := 0) (kc1 := 0) (ks1 := 0) (As := [.ref (dk_n L)]) (rest := []) hD.2.2.2.1.1 rfl (c_Pool_find hD.2.2.2.1 hD.2.1) ok_Pool_find (wi_Desk_look _ (List.mem_of_getElem? (i := 2) rfl)) (wi_Desk_look _ (List.mem_of_getElem? (i := 3) rfl)) (wi_Desk_look _ (List.mem_of_getElem? (i := 4) rfl)) rfl rfl (Nat.le_of_ble_eq_true rfl) (Nat.le_of_ble_eq_true rfl) ⟨Nat.le_of_ble_eq_true rfl, Nat.le_of_ble_eq_true rfl⟩ d_Desk_look_8 (rv_kie ?_)
  refine rv_eqi (y := ob_i (cl_findo S.2.2.1 S.1)) (cl_find_o _ _) ?_
  cases eo : cl_findo S.2.2.1 S.1 with
  | none =>
    refine rv_eqi (y := (-1)) rfl ?_
    have e : ds_look S x = -1 := by unfold ds_look; rw [eo]
    refine rv_istore_n (lv' := [(2, .int (-1)), (0, .ref (dk_x L)), (1, .int x)]) d_Desk_look_11 rfl (by decide) rfl ?_
    refine rv_iload_n d_Desk_look_12 rfl 0 rfl ?_
    refine rv_iconst (v := (-1)) d_Desk_look_13 (by decide) ?_
    refine rv_icmp_ne (tgt := 21) d_Desk_look_14 (by decide) (fun c_14 => ?_) (fun c_14 => ?_)
    · exact absurd rfl c_14
    · refine rv_ldc2 (v := (-1)) d_Desk_look_17 (wi_Desk_look _ (List.mem_of_getElem? (i := 5) rfl)) ?_
      exact rv_lreturn ⟨_, rfl, e.symm, rfl⟩ d_Desk_look_20 rfl
  | some p =>
    refine rv_eqi (y := nI p) rfl ?_
    have hp0 : p < 41 := cl_findo_lt eo
    have e : ds_look S x = cl_look S.2.2.1 p x := by unfold ds_look; rw [eo]
    refine rv_istore_n (lv' := [(2, .int (nI p)), (0, .ref (dk_x L)), (1, .int x)]) d_Desk_look_11 rfl (by decide) rfl ?_
    refine rv_iload_n d_Desk_look_12 rfl 0 rfl ?_
    refine rv_iconst (v := (-1)) d_Desk_look_13 (by decide) ?_
    refine rv_icmp_ne (tgt := 21) d_Desk_look_14 (by decide) (fun c_14 => ?_) (fun c_14 => ?_)
    · refine rv_aload_n d_Desk_look_21 rfl 1 rfl ?_
      refine rv_get ka_Desk hD.1 rfl 2 (by decide) (wi_Desk_look _ (List.mem_of_getElem? (i := 0) rfl)) rfl d_Desk_look_22 ?_
      refine rv_get ka_Pool hD.2.2.2.1.1 rfl 0 (by decide) (wi_Desk_look _ (List.mem_of_getElem? (i := 6) rfl)) rfl d_Desk_look_25 ?_
      refine rv_iload_n d_Desk_look_28 rfl 0 rfl ?_
      refine rv_aald hf 2 rfl hp0 (by decide) d_Desk_look_29 ?_
      refine rv_eqv (y := .ref ((dk_P L).2.1 p)) ((by rw [hfp p hp0]; rfl)) ?_
      refine rv_astore_n (lv' := [(3, .ref ((dk_P L).2.1 p)), (2, .int (nI p)), (0, .ref (dk_x L)), (1, .int x)]) d_Desk_look_30 rfl (by decide) rfl ?_
      refine rv_iload_n d_Desk_look_31 rfl 3 rfl ?_
      rcases sw_cases x 9 (by decide) with ⟨k, hk, rfl⟩ | hx
      · rcases (show k = 0 ∨ k = 1 ∨ k = 2 ∨ k = 3 ∨ k = 4 ∨ k = 5 ∨ k = 6 ∨ k = 7 ∨ k = 8 ∨ k = 9 by omega) with rfl | rfl | rfl | rfl | rfl | rfl | rfl | rfl | rfl | rfl
        · refine rv_tblI (off := 56) (tgt := 88) d_Desk_look_32 (by decide) (by decide) (by decide) (by decide) ?_
          refine rv_aload_n d_Desk_look_88 rfl 0 rfl ?_
          refine rv_get ka_Tx (hD.2.2.2.1.2.2 p hp0).1 rfl 2 (by decide) (wi_Desk_look _ (List.mem_of_getElem? (i := 7) rfl)) rfl d_Desk_look_89 ?_
          exact rv_lreturn ⟨_, rfl, by rw [e]; rfl, rfl⟩ d_Desk_look_92 rfl
        · refine rv_tblI (off := 61) (tgt := 93) d_Desk_look_32 (by decide) (by decide) (by decide) (by decide) ?_
          refine rv_aload_n d_Desk_look_93 rfl 0 rfl ?_
          refine rv_get ka_Tx (hD.2.2.2.1.2.2 p hp0).1 rfl 3 (by decide) (wi_Desk_look _ (List.mem_of_getElem? (i := 8) rfl)) rfl d_Desk_look_94 ?_
          refine rv_i2l d_Desk_look_97 ?_
          exact rv_lreturn ⟨_, rfl, by rw [e]; rfl, rfl⟩ d_Desk_look_98 rfl
        · refine rv_tblI (off := 67) (tgt := 99) d_Desk_look_32 (by decide) (by decide) (by decide) (by decide) ?_
          refine rv_aload_n d_Desk_look_99 rfl 0 rfl ?_
          refine rv_get ka_Tx (hD.2.2.2.1.2.2 p hp0).1 rfl 4 (by decide) (wi_Desk_look _ (List.mem_of_getElem? (i := 9) rfl)) rfl d_Desk_look_100 ?_
          refine rv_i2l d_Desk_look_103 ?_
          exact rv_lreturn ⟨_, rfl, by rw [e]; rfl, rfl⟩ d_Desk_look_104 rfl
        · refine rv_tblI (off := 73) (tgt := 105) d_Desk_look_32 (by decide) (by decide) (by decide) (by decide) ?_
          refine rv_aload_n d_Desk_look_105 rfl 0 rfl ?_
          refine rv_get ka_Tx (hD.2.2.2.1.2.2 p hp0).1 rfl 1 (by decide) (wi_Desk_look _ (List.mem_of_getElem? (i := 10) rfl)) rfl d_Desk_look_106 ?_
          refine rv_get ka_Keys (hD.2.2.2.1.2.2 p hp0).2.2.1 rfl 2 (by decide) (wi_Desk_look _ (List.mem_of_getElem? (i := 11) rfl)) rfl d_Desk_look_109 ?_
          refine rv_i2l d_Desk_look_112 ?_
          exact rv_lreturn ⟨_, rfl, by rw [e]; rfl, rfl⟩ d_Desk_look_113 rfl
        · refine rv_tblI (off := 82) (tgt := 114) d_Desk_look_32 (by decide) (by decide) (by decide) (by decide) ?_
          refine rv_aload_n d_Desk_look_114 rfl 0 rfl ?_
          refine rv_get ka_Tx (hD.2.2.2.1.2.2 p hp0).1 rfl 6 (by decide) (wi_Desk_look _ (List.mem_of_getElem? (i := 12) rfl)) rfl d_Desk_look_115 ?_
          refine rv_callS (kc' := 0) (ks' := 0) (kc1 := 0) (ks1 := 0) (As := [.long ((S.2.2.1.2.2 p).2.2.2.2.2.2.1)]) (rest := []) (c_Long_bitCount) ok_Long_bitCount (wi_Desk_look _ (List.mem_of_getElem? (i := 13) rfl)) (wi_Desk_look _ (List.mem_of_getElem? (i := 14) rfl)) rfl rfl (Nat.le_of_ble_eq_true rfl) (Nat.le_of_ble_eq_true rfl) ⟨Nat.le_of_ble_eq_true rfl, Nat.le_of_ble_eq_true rfl⟩ d_Desk_look_118 (rv_kie ?_)
          refine rv_i2l d_Desk_look_121 ?_
          exact rv_lreturn ⟨_, rfl, by rw [e]; rfl, rfl⟩ d_Desk_look_122 rfl
        · refine rv_tblI (off := 91) (tgt := 123) d_Desk_look_32 (by decide) (by decide) (by decide) (by decide) ?_
          refine rv_aload_n d_Desk_look_123 rfl 0 rfl ?_
          refine rv_get ka_Tx (hD.2.2.2.1.2.2 p hp0).1 rfl 7 (by decide) (wi_Desk_look _ (List.mem_of_getElem? (i := 15) rfl)) rfl d_Desk_look_124 ?_
          refine rv_callS (kc' := 0) (ks' := 0) (kc1 := 0) (ks1 := 0) (As := [.long ((S.2.2.1.2.2 p).2.2.2.2.2.2.2)]) (rest := []) (c_Long_bitCount) ok_Long_bitCount (wi_Desk_look _ (List.mem_of_getElem? (i := 13) rfl)) (wi_Desk_look _ (List.mem_of_getElem? (i := 14) rfl)) rfl rfl (Nat.le_of_ble_eq_true rfl) (Nat.le_of_ble_eq_true rfl) ⟨Nat.le_of_ble_eq_true rfl, Nat.le_of_ble_eq_true rfl⟩ d_Desk_look_127 (rv_kie ?_)
          refine rv_i2l d_Desk_look_130 ?_
          exact rv_lreturn ⟨_, rfl, by rw [e]; rfl, rfl⟩ d_Desk_look_131 rfl
        · refine rv_tblI (off := 100) (tgt := 132) d_Desk_look_32 (by decide) (by decide) (by decide) (by decide) ?_
          refine rv_aload_n d_Desk_look_132 rfl 2 rfl ?_
          refine rv_get ka_Desk hD.1 rfl 2 (by decide) (wi_Desk_look _ (List.mem_of_getElem? (i := 0) rfl)) rfl d_Desk_look_133 ?_
          refine rv_iload_n d_Desk_look_136 rfl 1 rfl ?_
          refine rv_callS (kc' := 0) (ks' := 0) (kc1 := 0) (ks1 := 0) (As := [.int (nI p)]) (rest := [.ref (dk_p L)]) (c_Desk_bit) ok_Desk_bit (wi_Desk_look _ (List.mem_of_getElem? (i := 16) rfl)) (wi_Desk_look _ (List.mem_of_getElem? (i := 17) rfl)) rfl rfl (Nat.le_of_ble_eq_true rfl) (Nat.le_of_ble_eq_true rfl) ⟨Nat.le_of_ble_eq_true rfl, Nat.le_of_ble_eq_true rfl⟩ d_Desk_look_137 (rv_kle ?_)
          refine rv_callV (kc' := 0) (ks' := 0) (kc1 := 0) (ks1 := 0) (As := [.long (bz_b p)]) (rest := []) hD.2.2.2.1.1 rfl (c_Pool_family hD.2.2.2.1) ok_Pool_family (wi_Desk_look _ (List.mem_of_getElem? (i := 18) rfl)) (wi_Desk_look _ (List.mem_of_getElem? (i := 19) rfl)) (wi_Desk_look _ (List.mem_of_getElem? (i := 20) rfl)) rfl rfl (Nat.le_of_ble_eq_true rfl) (Nat.le_of_ble_eq_true rfl) ⟨Nat.le_of_ble_eq_true rfl, Nat.le_of_ble_eq_true rfl⟩ d_Desk_look_140 (rv_kle ?_)
          refine rv_callS (kc' := 0) (ks' := 0) (kc1 := 0) (ks1 := 0) (As := [.long (cl_fam S.2.2.1 (bz_b p))]) (rest := []) (c_Long_bitCount) ok_Long_bitCount (wi_Desk_look _ (List.mem_of_getElem? (i := 13) rfl)) (wi_Desk_look _ (List.mem_of_getElem? (i := 14) rfl)) rfl rfl (Nat.le_of_ble_eq_true rfl) (Nat.le_of_ble_eq_true rfl) ⟨Nat.le_of_ble_eq_true rfl, Nat.le_of_ble_eq_true rfl⟩ d_Desk_look_143 (rv_kie ?_)
          refine rv_i2l d_Desk_look_146 ?_
          exact rv_lreturn ⟨_, rfl, by rw [e]; rfl, rfl⟩ d_Desk_look_147 rfl
        · refine rv_tblI (off := 116) (tgt := 148) d_Desk_look_32 (by decide) (by decide) (by decide) (by decide) ?_
          refine rv_aload_n d_Desk_look_148 rfl 2 rfl ?_
          refine rv_get ka_Desk hD.1 rfl 2 (by decide) (wi_Desk_look _ (List.mem_of_getElem? (i := 0) rfl)) rfl d_Desk_look_149 ?_
          refine rv_aload_n d_Desk_look_152 rfl 2 rfl ?_
          refine rv_get ka_Desk hD.1 rfl 2 (by decide) (wi_Desk_look _ (List.mem_of_getElem? (i := 0) rfl)) rfl d_Desk_look_153 ?_
          refine rv_iload_n d_Desk_look_156 rfl 1 rfl ?_
          refine rv_callS (kc' := 0) (ks' := 0) (kc1 := 0) (ks1 := 0) (As := [.int (nI p)]) (rest := [.ref (dk_p L), .ref (dk_p L)]) (c_Desk_bit) ok_Desk_bit (wi_Desk_look _ (List.mem_of_getElem? (i := 16) rfl)) (wi_Desk_look _ (List.mem_of_getElem? (i := 17) rfl)) rfl rfl (Nat.le_of_ble_eq_true rfl) (Nat.le_of_ble_eq_true rfl) ⟨Nat.le_of_ble_eq_true rfl, Nat.le_of_ble_eq_true rfl⟩ d_Desk_look_157 (rv_kle ?_)
          refine rv_callV (kc' := 0) (ks' := 0) (kc1 := 0) (ks1 := 0) (As := [.long (bz_b p)]) (rest := [.ref (dk_p L)]) hD.2.2.2.1.1 rfl (c_Pool_family hD.2.2.2.1) ok_Pool_family (wi_Desk_look _ (List.mem_of_getElem? (i := 18) rfl)) (wi_Desk_look _ (List.mem_of_getElem? (i := 19) rfl)) (wi_Desk_look _ (List.mem_of_getElem? (i := 20) rfl)) rfl rfl (Nat.le_of_ble_eq_true rfl) (Nat.le_of_ble_eq_true rfl) ⟨Nat.le_of_ble_eq_true rfl, Nat.le_of_ble_eq_true rfl⟩ d_Desk_look_160 (rv_kle ?_)
          refine rv_callV (kc' := 0) (ks' := 0) (kc1 := 0) (ks1 := 0) (As := [.long (cl_fam S.2.2.1 (bz_b p))]) (rest := []) hD.2.2.2.1.1 rfl (c_Pool_sumOfFees hD.2.2.2.1) ok_Pool_sumOfFees (wi_Desk_look _ (List.mem_of_getElem? (i := 21) rfl)) (wi_Desk_look _ (List.mem_of_getElem? (i := 22) rfl)) (wi_Desk_look _ (List.mem_of_getElem? (i := 23) rfl)) rfl rfl (Nat.le_of_ble_eq_true rfl) (Nat.le_of_ble_eq_true rfl) ⟨Nat.le_of_ble_eq_true rfl, Nat.le_of_ble_eq_true rfl⟩ d_Desk_look_163 (rv_kle ?_)
          exact rv_lreturn ⟨_, rfl, by rw [e]; rfl, rfl⟩ d_Desk_look_166 rfl
        · refine rv_tblI (off := 135) (tgt := 167) d_Desk_look_32 (by decide) (by decide) (by decide) (by decide) ?_
          refine rv_aload_n d_Desk_look_167 rfl 2 rfl ?_
          refine rv_get ka_Desk hD.1 rfl 2 (by decide) (wi_Desk_look _ (List.mem_of_getElem? (i := 0) rfl)) rfl d_Desk_look_168 ?_
          refine rv_aload_n d_Desk_look_171 rfl 2 rfl ?_
          refine rv_get ka_Desk hD.1 rfl 2 (by decide) (wi_Desk_look _ (List.mem_of_getElem? (i := 0) rfl)) rfl d_Desk_look_172 ?_
          refine rv_iload_n d_Desk_look_175 rfl 1 rfl ?_
          refine rv_callS (kc' := 0) (ks' := 0) (kc1 := 0) (ks1 := 0) (As := [.int (nI p)]) (rest := [.ref (dk_p L), .ref (dk_p L)]) (c_Desk_bit) ok_Desk_bit (wi_Desk_look _ (List.mem_of_getElem? (i := 16) rfl)) (wi_Desk_look _ (List.mem_of_getElem? (i := 17) rfl)) rfl rfl (Nat.le_of_ble_eq_true rfl) (Nat.le_of_ble_eq_true rfl) ⟨Nat.le_of_ble_eq_true rfl, Nat.le_of_ble_eq_true rfl⟩ d_Desk_look_176 (rv_kle ?_)
          refine rv_callV (kc' := 0) (ks' := 0) (kc1 := 0) (ks1 := 0) (As := [.long (bz_b p)]) (rest := [.ref (dk_p L)]) hD.2.2.2.1.1 rfl (c_Pool_family hD.2.2.2.1) ok_Pool_family (wi_Desk_look _ (List.mem_of_getElem? (i := 18) rfl)) (wi_Desk_look _ (List.mem_of_getElem? (i := 19) rfl)) (wi_Desk_look _ (List.mem_of_getElem? (i := 20) rfl)) rfl rfl (Nat.le_of_ble_eq_true rfl) (Nat.le_of_ble_eq_true rfl) ⟨Nat.le_of_ble_eq_true rfl, Nat.le_of_ble_eq_true rfl⟩ d_Desk_look_179 (rv_kle ?_)
          refine rv_callV (kc' := 0) (ks' := 0) (kc1 := 0) (ks1 := 0) (As := [.long (cl_fam S.2.2.1 (bz_b p))]) (rest := []) hD.2.2.2.1.1 rfl (c_Pool_sumOfSizes hD.2.2.2.1) ok_Pool_sumOfSizes (wi_Desk_look _ (List.mem_of_getElem? (i := 24) rfl)) (wi_Desk_look _ (List.mem_of_getElem? (i := 25) rfl)) (wi_Desk_look _ (List.mem_of_getElem? (i := 26) rfl)) rfl rfl (Nat.le_of_ble_eq_true rfl) (Nat.le_of_ble_eq_true rfl) ⟨Nat.le_of_ble_eq_true rfl, Nat.le_of_ble_eq_true rfl⟩ d_Desk_look_182 (rv_kie ?_)
          refine rv_i2l d_Desk_look_185 ?_
          exact rv_lreturn ⟨_, rfl, by rw [e]; rfl, rfl⟩ d_Desk_look_186 rfl
        · refine rv_tblI (off := 155) (tgt := 187) d_Desk_look_32 (by decide) (by decide) (by decide) (by decide) ?_
          refine rv_aload_n d_Desk_look_187 rfl 0 rfl ?_
          refine rv_get ka_Tx (hD.2.2.2.1.2.2 p hp0).1 rfl 5 (by decide) (wi_Desk_look _ (List.mem_of_getElem? (i := 27) rfl)) rfl d_Desk_look_188 ?_
          refine rv_i2l d_Desk_look_191 ?_
          exact rv_lreturn ⟨_, rfl, by rw [e]; rfl, rfl⟩ d_Desk_look_192 rfl
      · refine rv_tblO (tgt := 193) d_Desk_look_32 hx (by decide) ?_
        refine rv_ldc2 (v := (-1)) d_Desk_look_193 (wi_Desk_look _ (List.mem_of_getElem? (i := 5) rfl)) ?_
        exact rv_lreturn ⟨_, rfl, by rw [e, cl_look_out hx], rfl⟩ d_Desk_look_196 rfl
    · exact absurd c_14 (nI_m1 (by omega))
end
section
def wl_Desk_order : List Cond := [.fieldLink "PoolDesk" 33 "PoolDesk" "block" "LPoolDesk$Row;", .fieldLink "PoolDesk" 141 "PoolDesk$Row" "length" "I", .fieldLink "PoolDesk" 26 "PoolDesk" "pool" "LPoolDesk$Pool;", .methodLink "PoolDesk" 131 y_Pool_bestPaying, .instanceMethod y_Pool_bestPaying, .selects "PoolDesk$Pool" y_Pool_bestPaying y_Pool_bestPaying, .fieldLink "PoolDesk" 86 "PoolDesk$Pool" "places" "[LPoolDesk$Transaction;", .fieldLink "PoolDesk" 135 "PoolDesk$Transaction" "ownName" "LPoolDesk$Name;", .methodLink "PoolDesk" 138 y_Row_add, .instanceMethod y_Row_add, .selects "PoolDesk$Row" y_Row_add y_Row_add, .methodLink "PoolDesk" 68 y_Desk_bit, .static y_Desk_bit, .fieldLink "PoolDesk" 96 "PoolDesk$Transaction" "size" "I", .methodLink "PoolDesk" 130 y_Row_clear, .instanceMethod y_Row_clear, .selects "PoolDesk$Row" y_Row_clear y_Row_clear]
theorem wi_Desk_order : ∀ w ∈ wl_Desk_order, w ∈ ma_tbl := by decide +kernel
def wl_Desk_letIn : List Cond := [.fieldLink "PoolDesk" 26 "PoolDesk" "pool" "LPoolDesk$Pool;", .methodLink "PoolDesk" 160 y_Pool_freePlace, .instanceMethod y_Pool_freePlace, .selects "PoolDesk$Pool" y_Pool_freePlace y_Pool_freePlace, .fieldLink "PoolDesk" 86 "PoolDesk$Pool" "places" "[LPoolDesk$Transaction;", .methodLink "PoolDesk" 163 y_Tx_describe, .instanceMethod y_Tx_describe, .selects "PoolDesk$Transaction" y_Tx_describe y_Tx_describe, .fieldLink "PoolDesk" 12 "PoolDesk" "hand" "LPoolDesk$Name;", .fieldLink "PoolDesk" 19 "PoolDesk" "told" "LPoolDesk$Keys;", .methodLink "PoolDesk" 167 y_Pool_settle, .instanceMethod y_Pool_settle, .selects "PoolDesk$Pool" y_Pool_settle y_Pool_settle, .fieldLink "PoolDesk" 148 "PoolDesk$Pool" "present" "J", .methodLink "PoolDesk" 108 y_Long_bitCount, .static y_Long_bitCount, .methodLink "PoolDesk" 171 y_Pool_leastPaying, .instanceMethod y_Pool_leastPaying, .selects "PoolDesk$Pool" y_Pool_leastPaying y_Pool_leastPaying, .methodLink "PoolDesk" 76 y_Desk_removeFamily, .instanceMethod y_Desk_removeFamily, .selects "PoolDesk" y_Desk_removeFamily y_Desk_removeFamily, .methodLink "PoolDesk" 174 y_Desk_has, .static y_Desk_has]
theorem wi_Desk_letIn : ∀ w ∈ wl_Desk_letIn, w ∈ ma_tbl := by decide +kernel
def wl_Desk_enter : List Cond := [.fieldLink "PoolDesk" 19 "PoolDesk" "told" "LPoolDesk$Keys;", .fieldLink "PoolDesk" 45 "PoolDesk$Keys" "held" "I", .methodLink "PoolDesk" 49 y_Desk_isTransaction, .static y_Desk_isTransaction, .fieldLink "PoolDesk" 26 "PoolDesk" "pool" "LPoolDesk$Pool;", .fieldLink "PoolDesk" 12 "PoolDesk" "hand" "LPoolDesk$Name;", .methodLink "PoolDesk" 53 y_Pool_hindrance, .instanceMethod y_Pool_hindrance, .selects "PoolDesk$Pool" y_Pool_hindrance y_Pool_hindrance, .methodLink "PoolDesk" 61 y_Keys_clear, .instanceMethod y_Keys_clear, .selects "PoolDesk$Keys" y_Keys_clear y_Keys_clear, .methodLink "PoolDesk" 57 y_Desk_letIn, .instanceMethod y_Desk_letIn, .selects "PoolDesk" y_Desk_letIn y_Desk_letIn]
theorem wi_Desk_enter : ∀ w ∈ wl_Desk_enter, w ∈ ma_tbl := by decide +kernel
set_option maxHeartbeats 1000000 in
set_option maxRecDepth 100000 in
theorem c_Desk_order_l {l : Launch} {D : va_G} {ca : Nat → ClassId} {d : Nat} {L : dk_L} {S : dk_S} {hp0 : hp_T} (hO : dk_ok L) {z : Int32} : ∀ (m i : Nat) (hp : hp_T) (dn : Int64) (rm : Int32) (r : Nat × (Nat → Int64)), i + m = 41 → r.1 = i → dk_At ca hp L (S.1, S.2.1, S.2.2.1, r) → dk_out L hp0 hp → ma_V l D ca ma_T M_Desk_order (d + 4) 0 0 hp (ma_qi (fun x hp1 => x = nI (ds_ordL S.2.2.1 m dn rm r).1 ∧ dk_At ca hp1 L (S.1, S.2.1, S.2.2.1, (ds_ordL S.2.2.1 m dn rm r)) ∧ dk_out L hp0 hp1)) 15 [(5, .int (nI i)), (4, .int rm), (2, .long dn), (0, .ref (dk_x L)), (1, .int z)] [] := by
  intro m
  induction m with
  | zero =>
    intro i hp dn rm r hi hr hD hu
    refine rv_iload d_Desk_order_15 0 rfl ?_
    refine rv_bipush (v := nI 41) d_Desk_order_17 (by decide) ?_
    refine rv_icmp_ge (tgt := 91) d_Desk_order_19 (by decide) (fun c_19 => ?_) (fun c_19 => ?_)
    · refine rv_aload_n d_Desk_order_91 rfl 3 rfl ?_
      refine rv_get ka_Desk hD.1 rfl 3 (by decide) (wi_Desk_order _ (List.mem_of_getElem? (i := 0) rfl)) rfl d_Desk_order_92 ?_
      refine rv_get ka_Row hD.2.2.2.2.1 rfl 1 (by decide) (wi_Desk_order _ (List.mem_of_getElem? (i := 1) rfl)) rfl d_Desk_order_95 ?_
      exact rv_ireturn ⟨_, rfl, rfl, hD, hu⟩ d_Desk_order_98 rfl rfl
    · exact absurd (nI_le (by omega) (by omega)) c_19
  | succ m ih =>
    intro i hp dn rm r hi hr hD hu
    obtain ⟨f, hf, hfp⟩ := hD.2.2.2.1.2.1
    refine rv_iload d_Desk_order_15 0 rfl ?_
    refine rv_bipush (v := nI 41) d_Desk_order_17 (by decide) ?_
    refine rv_icmp_ge (tgt := 91) d_Desk_order_19 (by decide) (fun c_19 => ?_) (fun c_19 => ?_)
    · exact absurd c_19 (nI_ge (by omega) (by omega))
    · refine rv_aload_n d_Desk_order_22 rfl 3 rfl ?_
      refine rv_get ka_Desk hD.1 rfl 2 (by decide) (wi_Desk_order _ (List.mem_of_getElem? (i := 2) rfl)) rfl d_Desk_order_23 ?_
      refine rv_lload_n d_Desk_order_26 rfl 2 rfl ?_
      refine rv_iload d_Desk_order_27 1 rfl ?_
      refine rv_callV (kc' := 0) (ks' := 0) (kc1 := 0) (ks1 := 0) (As := [.long dn, .int rm]) (rest := []) hD.2.2.2.1.1 rfl (c_Pool_bestPaying hD.2.2.2.1) ok_Pool_bestPaying (wi_Desk_order _ (List.mem_of_getElem? (i := 3) rfl)) (wi_Desk_order _ (List.mem_of_getElem? (i := 4) rfl)) (wi_Desk_order _ (List.mem_of_getElem? (i := 5) rfl)) rfl rfl (Nat.le_of_ble_eq_true rfl) (Nat.le_of_ble_eq_true rfl) ⟨Nat.le_of_ble_eq_true rfl, Nat.le_of_ble_eq_true rfl⟩ d_Desk_order_29 (rv_kie ?_)
      cases eo : cl_best S.2.2.1 dn rm with
      | none =>
        refine rv_eqi (y := (-1)) rfl ?_
        have e : ds_ordL S.2.2.1 (m + 1) dn rm r = r := by unfold ds_ordL; rw [eo]
        rw [e]
        refine rv_istore (lv' := [(6, .int (-1)), (5, .int (nI i)), (4, .int rm), (2, .long dn), (0, .ref (dk_x L)), (1, .int z)]) d_Desk_order_32 (by decide) rfl ?_
        refine rv_iload d_Desk_order_34 0 rfl ?_
        refine rv_iconst (v := (-1)) d_Desk_order_36 (by decide) ?_
        refine rv_icmp_ne (tgt := 43) d_Desk_order_37 (by decide) (fun c_37 => ?_) (fun c_37 => ?_)
        · exact absurd rfl c_37
        · refine rv_goto (tgt := 91) d_Desk_order_40 (by decide) ?_
          refine rv_aload_n d_Desk_order_91 rfl 4 rfl ?_
          refine rv_get ka_Desk hD.1 rfl 3 (by decide) (wi_Desk_order _ (List.mem_of_getElem? (i := 0) rfl)) rfl d_Desk_order_92 ?_
          refine rv_get ka_Row hD.2.2.2.2.1 rfl 1 (by decide) (wi_Desk_order _ (List.mem_of_getElem? (i := 1) rfl)) rfl d_Desk_order_95 ?_
          exact rv_ireturn ⟨_, rfl, rfl, hD, hu⟩ d_Desk_order_98 rfl rfl
      | some p =>
        refine rv_eqi (y := nI p) rfl ?_
        have e : ds_ordL S.2.2.1 (m + 1) dn rm r = ds_ordL S.2.2.1 m (dn ||| bz_b p) (rm - (S.2.2.1.2.2 p).2.2.2.1) (r.1 + 1, kx_w r.2 (r.1 * 4) (S.2.2.1.2.2 p).1) := by
          rw [ds_ordL, eo]
        have hp0 : p < 41 := cl_best_lt eo
        refine rv_istore (lv' := [(6, .int (nI p)), (5, .int (nI i)), (4, .int rm), (2, .long dn), (0, .ref (dk_x L)), (1, .int z)]) d_Desk_order_32 (by decide) rfl ?_
        refine rv_iload d_Desk_order_34 0 rfl ?_
        refine rv_iconst (v := (-1)) d_Desk_order_36 (by decide) ?_
        refine rv_icmp_ne (tgt := 43) d_Desk_order_37 (by decide) (fun c_37 => ?_) (fun c_37 => ?_)
        · refine rv_aload_n d_Desk_order_43 rfl 4 rfl ?_
          refine rv_get ka_Desk hD.1 rfl 2 (by decide) (wi_Desk_order _ (List.mem_of_getElem? (i := 2) rfl)) rfl d_Desk_order_44 ?_
          refine rv_get ka_Pool hD.2.2.2.1.1 rfl 0 (by decide) (wi_Desk_order _ (List.mem_of_getElem? (i := 6) rfl)) rfl d_Desk_order_47 ?_
          refine rv_iload d_Desk_order_50 0 rfl ?_
          refine rv_aald hf 2 rfl hp0 (by decide) d_Desk_order_52 ?_
          refine rv_eqv (y := .ref ((dk_P L).2.1 p)) ((by rw [hfp p hp0]; rfl)) ?_
          refine rv_astore (lv' := [(7, .ref ((dk_P L).2.1 p)), (6, .int (nI p)), (5, .int (nI i)), (4, .int rm), (2, .long dn), (0, .ref (dk_x L)), (1, .int z)]) d_Desk_order_53 (by decide) rfl ?_
          refine rv_aload_n d_Desk_order_55 rfl 5 rfl ?_
          refine rv_get ka_Desk hD.1 rfl 3 (by decide) (wi_Desk_order _ (List.mem_of_getElem? (i := 0) rfl)) rfl d_Desk_order_56 ?_
          refine rv_aload d_Desk_order_59 0 rfl ?_
          refine rv_get ka_Tx (hD.2.2.2.1.2.2 p hp0).1 rfl 0 (by decide) (wi_Desk_order _ (List.mem_of_getElem? (i := 7) rfl)) rfl d_Desk_order_61 ?_
          refine rv_callV (kc' := 0) (ks' := 0) (kc1 := 0) (ks1 := 0) (As := [.ref ((dk_P L).2.2.1 p)]) (rest := []) hD.2.2.2.2.1 rfl (c_Row_add hD.2.2.2.2.1 hD.2.2.2.2.2.1 (hD.2.2.2.1.2.2 p hp0).2.1 (show r.1 < 41 by omega)) ok_Row_add (wi_Desk_order _ (List.mem_of_getElem? (i := 8) rfl)) (wi_Desk_order _ (List.mem_of_getElem? (i := 9) rfl)) (wi_Desk_order _ (List.mem_of_getElem? (i := 10) rfl)) rfl rfl (Nat.le_of_ble_eq_true rfl) (Nat.le_of_ble_eq_true rfl) ⟨Nat.le_of_ble_eq_true rfl, Nat.le_of_ble_eq_true rfl⟩ d_Desk_order_64 (rv_kv (fun hp69 ehp69 => ?_))
          have hD1 : dk_At ca hp69 L (S.1, S.2.1, S.2.2.1, r.1 + 1, kx_w r.2 (r.1 * 4) (S.2.2.1.2.2 p).1) := by rw [ehp69]; exact dk_setR hD hO (n := r.1 + 1) (by omega)
          have hu1 : dk_out L hp hp69 := by rw [ehp69]; exact dk_outR
          obtain ⟨f1, hf1, hfp1⟩ := hD1.2.2.2.1.2.1
          refine rv_lload_n d_Desk_order_67 rfl 4 rfl ?_
          refine rv_iload d_Desk_order_68 1 rfl ?_
          refine rv_callS (kc' := 0) (ks' := 0) (kc1 := 0) (ks1 := 0) (As := [.int (nI p)]) (rest := [.long dn]) (c_Desk_bit) ok_Desk_bit (wi_Desk_order _ (List.mem_of_getElem? (i := 11) rfl)) (wi_Desk_order _ (List.mem_of_getElem? (i := 12) rfl)) rfl rfl (Nat.le_of_ble_eq_true rfl) (Nat.le_of_ble_eq_true rfl) ⟨Nat.le_of_ble_eq_true rfl, Nat.le_of_ble_eq_true rfl⟩ d_Desk_order_70 (rv_kle ?_)
          refine rv_lor d_Desk_order_73 ?_
          refine rv_lstore_n (lv' := [(2, .long (dn ||| (bz_b p))), (7, .ref ((dk_P L).2.1 p)), (6, .int (nI p)), (5, .int (nI i)), (4, .int rm), (0, .ref (dk_x L)), (1, .int z)]) d_Desk_order_74 rfl (by decide) rfl ?_
          refine rv_iload d_Desk_order_75 4 rfl ?_
          refine rv_aload d_Desk_order_77 1 rfl ?_
          refine rv_get ka_Tx (hD1.2.2.2.1.2.2 p hp0).1 rfl 3 (by decide) (wi_Desk_order _ (List.mem_of_getElem? (i := 13) rfl)) rfl d_Desk_order_79 ?_
          refine rv_isub d_Desk_order_82 ?_
          refine rv_istore (lv' := [(4, .int (rm - ((S.2.2.1.2.2 p).2.2.2.1))), (2, .long (dn ||| (bz_b p))), (7, .ref ((dk_P L).2.1 p)), (6, .int (nI p)), (5, .int (nI i)), (0, .ref (dk_x L)), (1, .int z)]) d_Desk_order_83 (by decide) rfl ?_
          refine rv_iinc (k := 4) (v := nI (i + 1)) (lv' := [(5, .int (nI (i + 1))), (4, .int (rm - ((S.2.2.1.2.2 p).2.2.2.1))), (2, .long (dn ||| (bz_b p))), (7, .ref ((dk_P L).2.1 p)), (6, .int (nI p)), (0, .ref (dk_x L)), (1, .int z)]) d_Desk_order_85 rfl (nI_1 _) (by decide) rfl ?_
          refine rv_goto (tgt := 15) d_Desk_order_88 (by decide) ?_
          rw [e]
          exact rv_lv [0, 1, 2, 5, 6] rfl (ih (i + 1) hp69 _ _ (r.1 + 1, kx_w r.2 (r.1 * 4) (S.2.2.1.2.2 p).1) (by omega) (by show r.1 + 1 = i + 1; rw [hr]) hD1 (dk_out_tr hu hu1))
        · exact absurd c_37 (nI_m1 (by omega))
set_option maxHeartbeats 1000000 in
set_option maxRecDepth 100000 in
theorem c_Desk_order {l : Launch} {D : va_G} {ca : Nat → ClassId} {hp : hp_T} {d : Nat} {L : dk_L} {S : dk_S} (hD : dk_At ca hp L S) (hO : dk_ok L) {z : Int32} : ma_V l D ca ma_T M_Desk_order (d + 4) 0 0 hp (ma_qi (fun x hp1 => x = nI (ds_ord S z).1 ∧ dk_At ca hp1 L (S.1, S.2.1, S.2.2.1, ds_ord S z) ∧ dk_out L hp hp1)) 0 (lv_args 0 [.ref (dk_x L), .int z]) [] := by
  change ma_V l D ca ma_T M_Desk_order (d + 4) 0 0 hp (ma_qi (fun x hp1 => x = nI (ds_ord S z).1 ∧ dk_At ca hp1 L (S.1, S.2.1, S.2.2.1, ds_ord S z) ∧ dk_out L hp hp1)) 0 [(0, .ref (dk_x L)), (1, .int z)] []
  refine rv_aload_n d_Desk_order_0 rfl 0 rfl ?_
  refine rv_get ka_Desk hD.1 rfl 3 (by decide) (wi_Desk_order _ (List.mem_of_getElem? (i := 0) rfl)) rfl d_Desk_order_1 ?_
  refine rv_callV (kc' := 0) (ks' := 0) (kc1 := 0) (ks1 := 0) (As := []) (rest := []) hD.2.2.2.2.1 rfl (c_Row_clear hD.2.2.2.2.1 hD.2.2.2.2.2.1) ok_Row_clear (wi_Desk_order _ (List.mem_of_getElem? (i := 14) rfl)) (wi_Desk_order _ (List.mem_of_getElem? (i := 15) rfl)) (wi_Desk_order _ (List.mem_of_getElem? (i := 16) rfl)) rfl rfl (Nat.le_of_ble_eq_true rfl) (Nat.le_of_ble_eq_true rfl) ⟨Nat.le_of_ble_eq_true rfl, Nat.le_of_ble_eq_true rfl⟩ d_Desk_order_4 (rv_kv (fun hp70 ehp70 => ?_))
  rw [dk_clearR hD] at ehp70
  have hD1 : dk_At ca hp70 L (S.1, S.2.1, S.2.2.1, 0, S.2.2.2.2) := by rw [ehp70]; exact dk_setR hD hO (n := 0) (by omega)
  have hu1 : dk_out L hp hp70 := by rw [ehp70]; exact dk_outR
  refine rv_lconst (v := 0) d_Desk_order_7 (by decide) ?_
  refine rv_lstore_n (lv' := [(2, .long 0), (0, .ref (dk_x L)), (1, .int z)]) d_Desk_order_8 rfl (by decide) rfl ?_
  refine rv_iload_n d_Desk_order_9 rfl 2 rfl ?_
  refine rv_istore (lv' := [(4, .int z), (2, .long 0), (0, .ref (dk_x L)), (1, .int z)]) d_Desk_order_10 (by decide) rfl ?_
  refine rv_iconst (v := nI 0) d_Desk_order_12 (by decide) ?_
  refine rv_istore (lv' := [(5, .int (nI 0)), (4, .int z), (2, .long 0), (0, .ref (dk_x L)), (1, .int z)]) d_Desk_order_13 (by decide) rfl ?_
  exact rv_lv [0, 1, 2, 3, 4] rfl (c_Desk_order_l hO 41 0 hp70 0 z (0, S.2.2.2.2) (Nat.zero_add _) rfl hD1 hu1)
set_option maxHeartbeats 1000000 in
set_option maxRecDepth 100000 in
theorem c_Desk_letIn {l : Launch} {D : va_G} {ca : Nat → ClassId} {hp : hp_T} {d : Nat} {L : dk_L} {S : dk_S} (hD : dk_At ca hp L S) (hO : dk_ok L) {f0 : Int64} {z o : Int32} : ma_V l D ca ma_T M_Desk_letIn (d + 5) 0 0 hp (ma_qi (fun x hp1 => x = (ds_in S.2.2.1 S.1 S.2.1 f0 z o).1 ∧ dk_At ca hp1 L (S.1, S.2.1, (ds_in S.2.2.1 S.1 S.2.1 f0 z o).2, S.2.2.2) ∧ dk_out L hp hp1)) 0 (lv_args 0 [.ref (dk_x L), .long f0, .int z, .int o]) [] := by
  change ma_V l D ca ma_T M_Desk_letIn (d + 5) 0 0 hp (ma_qi (fun x hp1 => x = (ds_in S.2.2.1 S.1 S.2.1 f0 z o).1 ∧ dk_At ca hp1 L (S.1, S.2.1, (ds_in S.2.2.1 S.1 S.2.1 f0 z o).2, S.2.2.2) ∧ dk_out L hp hp1)) 0 [(0, .ref (dk_x L)), (1, .long f0), (3, .int z), (4, .int o)] []
  obtain ⟨f, hf, hfp⟩ := hD.2.2.2.1.2.1
  refine rv_aload_n d_Desk_letIn_0 rfl 0 rfl ?_
  refine rv_get ka_Desk hD.1 rfl 2 (by decide) (wi_Desk_letIn _ (List.mem_of_getElem? (i := 0) rfl)) rfl d_Desk_letIn_1 ?_
  refine rv_callV (kc' := 0) (ks' := 0) (kc1 := 0) (ks1 := 0) (As := []) (rest := []) hD.2.2.2.1.1 rfl (c_Pool_freePlace hD.2.2.2.1) ok_Pool_freePlace (wi_Desk_letIn _ (List.mem_of_getElem? (i := 1) rfl)) (wi_Desk_letIn _ (List.mem_of_getElem? (i := 2) rfl)) (wi_Desk_letIn _ (List.mem_of_getElem? (i := 3) rfl)) rfl rfl (Nat.le_of_ble_eq_true rfl) (Nat.le_of_ble_eq_true rfl) ⟨Nat.le_of_ble_eq_true rfl, Nat.le_of_ble_eq_true rfl⟩ d_Desk_letIn_4 (rv_kie ?_)
  refine rv_eqi (y := ob_i (cl_freeo S.2.2.1)) (cl_free_o _) ?_
  cases eo : cl_freeo S.2.2.1 with
  | none =>
    refine rv_eqi (y := (-1)) rfl ?_
    have e : (ds_in S.2.2.1 S.1 S.2.1 f0 z o) = (-1, S.2.2.1) := by unfold ds_in; rw [eo]
    rw [e]
    refine rv_istore (lv' := [(5, .int (-1)), (0, .ref (dk_x L)), (1, .long f0), (3, .int z), (4, .int o)]) d_Desk_letIn_7 (by decide) rfl ?_
    refine rv_iload d_Desk_letIn_9 0 rfl ?_
    refine rv_iconst (v := (-1)) d_Desk_letIn_11 (by decide) ?_
    refine rv_icmp_ne (tgt := 17) d_Desk_letIn_12 (by decide) (fun c_12 => ?_) (fun c_12 => ?_)
    · exact absurd rfl c_12
    · refine rv_iconst (v := (-1)) d_Desk_letIn_15 (by decide) ?_
      exact rv_ireturn ⟨_, rfl, rfl, hD, dk_out_rf⟩ d_Desk_letIn_16 rfl rfl
  | some q =>
    refine rv_eqi (y := nI q) rfl ?_
    obtain ⟨hq, hfree⟩ := cl_freeo_some eo
    have e : (ds_in S.2.2.1 S.1 S.2.1 f0 z o) = if bz_c (ds_in2 S.2.2.1 q S.1 S.2.1 f0 z o).1 64 ≤ 40 then (nI 0, (ds_in2 S.2.2.1 q S.1 S.2.1 f0 z o)) else (if bz_t (ds_in3 S.2.2.1 q S.1 S.2.1 f0 z o).1 q = true then nI 0 else nI 5, (ds_in3 S.2.2.1 q S.1 S.2.1 f0 z o)) := by unfold ds_in; rw [eo]
    refine rv_istore (lv' := [(5, .int (nI q)), (0, .ref (dk_x L)), (1, .long f0), (3, .int z), (4, .int o)]) d_Desk_letIn_7 (by decide) rfl ?_
    refine rv_iload d_Desk_letIn_9 0 rfl ?_
    refine rv_iconst (v := (-1)) d_Desk_letIn_11 (by decide) ?_
    refine rv_icmp_ne (tgt := 17) d_Desk_letIn_12 (by decide) (fun c_12 => ?_) (fun c_12 => ?_)
    · refine rv_aload_n d_Desk_letIn_17 rfl 1 rfl ?_
      refine rv_get ka_Desk hD.1 rfl 2 (by decide) (wi_Desk_letIn _ (List.mem_of_getElem? (i := 0) rfl)) rfl d_Desk_letIn_18 ?_
      refine rv_get ka_Pool hD.2.2.2.1.1 rfl 0 (by decide) (wi_Desk_letIn _ (List.mem_of_getElem? (i := 4) rfl)) rfl d_Desk_letIn_21 ?_
      refine rv_iload d_Desk_letIn_24 0 rfl ?_
      refine rv_aald hf 2 rfl hq (by decide) d_Desk_letIn_26 ?_
      refine rv_eqv (y := .ref ((dk_P L).2.1 q)) ((by rw [hfp q hq]; rfl)) ?_
      refine rv_lload_n d_Desk_letIn_27 rfl 2 rfl ?_
      refine rv_iload_n d_Desk_letIn_28 rfl 3 rfl ?_
      refine rv_iload d_Desk_letIn_29 4 rfl ?_
      refine rv_callV (kc' := 0) (ks' := 0) (kc1 := 0) (ks1 := 0) (As := [.long f0, .int z, .int o]) (rest := []) (hD.2.2.2.1.2.2 q hq).1 rfl (c_Tx_describe (hD.2.2.2.1.2.2 q hq).1) ok_Tx_describe (wi_Desk_letIn _ (List.mem_of_getElem? (i := 5) rfl)) (wi_Desk_letIn _ (List.mem_of_getElem? (i := 6) rfl)) (wi_Desk_letIn _ (List.mem_of_getElem? (i := 7) rfl)) rfl rfl (Nat.le_of_ble_eq_true rfl) (Nat.le_of_ble_eq_true rfl) ⟨Nat.le_of_ble_eq_true rfl, Nat.le_of_ble_eq_true rfl⟩ d_Desk_letIn_31 (rv_kv (fun hp71 ehp71 => ?_))
      have hP1 : po_At ca hp71 (dk_p L) (dk_P L) (ds_in1 S.2.2.1 q f0 z o) := by rw [ehp71]; exact po_setTx hD.2.2.2.1 hO.1 hq rfl rfl
      have ho1 : po_out (dk_p L) (dk_P L) hp hp71 := by rw [ehp71]; exact po_out_up po_out_rf (po_fp_tx hq)
      have hD1 := dk_setP hD hO hP1 ho1
      have hu1 : dk_out L hp hp71 := dk_out_po ho1
      obtain ⟨f1, hf1, hfp1⟩ := hD1.2.2.2.1.2.1
      refine rv_aload_n d_Desk_letIn_34 rfl 1 rfl ?_
      refine rv_get ka_Desk hD1.1 rfl 2 (by decide) (wi_Desk_letIn _ (List.mem_of_getElem? (i := 0) rfl)) rfl d_Desk_letIn_35 ?_
      refine rv_iload d_Desk_letIn_38 0 rfl ?_
      refine rv_aload_n d_Desk_letIn_40 rfl 1 rfl ?_
      refine rv_get ka_Desk hD1.1 rfl 0 (by decide) (wi_Desk_letIn _ (List.mem_of_getElem? (i := 8) rfl)) rfl d_Desk_letIn_41 ?_
      refine rv_aload_n d_Desk_letIn_44 rfl 1 rfl ?_
      refine rv_get ka_Desk hD1.1 rfl 1 (by decide) (wi_Desk_letIn _ (List.mem_of_getElem? (i := 9) rfl)) rfl d_Desk_letIn_45 ?_
      refine rv_callV (kc' := 0) (ks' := 0) (kc1 := 0) (ks1 := 0) (As := [.int (nI q), .ref (dk_n L), .ref (dk_k L)]) (rest := []) hD1.2.2.2.1.1 rfl (c_Pool_settle hP1 hO.1 hq hfree hD1.2.1 hO.2.1 hD1.2.2.1 hO.2.2.1) ok_Pool_settle (wi_Desk_letIn _ (List.mem_of_getElem? (i := 10) rfl)) (wi_Desk_letIn _ (List.mem_of_getElem? (i := 11) rfl)) (wi_Desk_letIn _ (List.mem_of_getElem? (i := 12) rfl)) rfl rfl (Nat.le_of_ble_eq_true rfl) (Nat.le_of_ble_eq_true rfl) ⟨Nat.le_of_ble_eq_true rfl, Nat.le_of_ble_eq_true rfl⟩ d_Desk_letIn_48 (rv_kv (fun hp72 ehp72 => ?_))
      obtain ⟨hP2, ho2⟩ := ehp72
      have hD2 : dk_At ca hp72 L (S.1, S.2.1, (ds_in2 S.2.2.1 q S.1 S.2.1 f0 z o), S.2.2.2) := dk_setP hD1 hO hP2 ho2
      have hu2 : dk_out L hp hp72 := dk_out_tr hu1 (dk_out_po ho2)
      obtain ⟨f2, hf2, hfp2⟩ := hD2.2.2.2.1.2.1
      have hc64 := bz_c_le (ds_in2 S.2.2.1 q S.1 S.2.1 f0 z o).1 64
      refine rv_aload_n d_Desk_letIn_51 rfl 1 rfl ?_
      refine rv_get ka_Desk hD2.1 rfl 2 (by decide) (wi_Desk_letIn _ (List.mem_of_getElem? (i := 0) rfl)) rfl d_Desk_letIn_52 ?_
      refine rv_get ka_Pool hD2.2.2.2.1.1 rfl 1 (by decide) (wi_Desk_letIn _ (List.mem_of_getElem? (i := 13) rfl)) rfl d_Desk_letIn_55 ?_
      refine rv_callS (kc' := 0) (ks' := 0) (kc1 := 0) (ks1 := 0) (As := [.long ((ds_in2 S.2.2.1 q S.1 S.2.1 f0 z o).1)]) (rest := []) (c_Long_bitCount) ok_Long_bitCount (wi_Desk_letIn _ (List.mem_of_getElem? (i := 14) rfl)) (wi_Desk_letIn _ (List.mem_of_getElem? (i := 15) rfl)) rfl rfl (Nat.le_of_ble_eq_true rfl) (Nat.le_of_ble_eq_true rfl) ⟨Nat.le_of_ble_eq_true rfl, Nat.le_of_ble_eq_true rfl⟩ d_Desk_letIn_58 (rv_kie ?_)
      refine rv_bipush (v := nI 40) d_Desk_letIn_61 (by decide) ?_
      refine rv_icmp_gt (tgt := 68) d_Desk_letIn_63 (by decide) (fun c_63 => ?_) (fun c_63 => ?_)
      · have hgt : ¬ bz_c (ds_in2 S.2.2.1 q S.1 S.2.1 f0 z o).1 64 ≤ 40 := Nat.not_le.mpr ((nI_ltI (by decide) (by omega)).mp c_63)
        rw [if_neg hgt] at e
        rw [e]
        refine rv_aload_n d_Desk_letIn_68 rfl 1 rfl ?_
        refine rv_aload_n d_Desk_letIn_69 rfl 1 rfl ?_
        refine rv_get ka_Desk hD2.1 rfl 2 (by decide) (wi_Desk_letIn _ (List.mem_of_getElem? (i := 0) rfl)) rfl d_Desk_letIn_70 ?_
        refine rv_callV (kc' := 0) (ks' := 0) (kc1 := 0) (ks1 := 0) (As := []) (rest := [.ref (dk_x L)]) hD2.2.2.2.1.1 rfl (c_Pool_leastPaying hP2) ok_Pool_leastPaying (wi_Desk_letIn _ (List.mem_of_getElem? (i := 16) rfl)) (wi_Desk_letIn _ (List.mem_of_getElem? (i := 17) rfl)) (wi_Desk_letIn _ (List.mem_of_getElem? (i := 18) rfl)) rfl rfl (Nat.le_of_ble_eq_true rfl) (Nat.le_of_ble_eq_true rfl) ⟨Nat.le_of_ble_eq_true rfl, Nat.le_of_ble_eq_true rfl⟩ d_Desk_letIn_73 (rv_kie ?_)
        refine rv_callV (kc' := 0) (ks' := 0) (kc1 := 0) (ks1 := 0) (As := [.int (ob_i (cl_least (ds_in2 S.2.2.1 q S.1 S.2.1 f0 z o)))]) (rest := []) hD2.1 rfl (c_Desk_removeFamily hD2 hO (o := cl_least (ds_in2 S.2.2.1 q S.1 S.2.1 f0 z o)) (fun p h => cl_least_lt h)) ok_Desk_removeFamily (wi_Desk_letIn _ (List.mem_of_getElem? (i := 19) rfl)) (wi_Desk_letIn _ (List.mem_of_getElem? (i := 20) rfl)) (wi_Desk_letIn _ (List.mem_of_getElem? (i := 21) rfl)) rfl rfl (Nat.le_of_ble_eq_true rfl) (Nat.le_of_ble_eq_true rfl) ⟨Nat.le_of_ble_eq_true rfl, Nat.le_of_ble_eq_true rfl⟩ d_Desk_letIn_76 (rv_ki (fun r73 hp73 ehp73 => ?_))
        obtain ⟨-, hD3, hu3⟩ := ehp73
        have hD3 : dk_At ca hp73 L (S.1, S.2.1, (ds_in3 S.2.2.1 q S.1 S.2.1 f0 z o), S.2.2.2) := hD3
        obtain ⟨f3, hf3, hfp3⟩ := hD3.2.2.2.1.2.1
        refine rv_pop d_Desk_letIn_79 rfl ?_
        refine rv_aload_n d_Desk_letIn_80 rfl 1 rfl ?_
        refine rv_get ka_Desk hD3.1 rfl 2 (by decide) (wi_Desk_letIn _ (List.mem_of_getElem? (i := 0) rfl)) rfl d_Desk_letIn_81 ?_
        refine rv_get ka_Pool hD3.2.2.2.1.1 rfl 1 (by decide) (wi_Desk_letIn _ (List.mem_of_getElem? (i := 13) rfl)) rfl d_Desk_letIn_84 ?_
        refine rv_iload d_Desk_letIn_87 0 rfl ?_
        refine rv_callS (kc' := 0) (ks' := 0) (kc1 := 0) (ks1 := 0) (As := [.long ((ds_in3 S.2.2.1 q S.1 S.2.1 f0 z o).1), .int (nI q)]) (rest := []) (c_Desk_has (by omega)) ok_Desk_has (wi_Desk_letIn _ (List.mem_of_getElem? (i := 22) rfl)) (wi_Desk_letIn _ (List.mem_of_getElem? (i := 23) rfl)) rfl rfl (Nat.le_of_ble_eq_true rfl) (Nat.le_of_ble_eq_true rfl) ⟨Nat.le_of_ble_eq_true rfl, Nat.le_of_ble_eq_true rfl⟩ d_Desk_letIn_89 (rv_kie ?_)
        refine rv_if_eq (tgt := 99) d_Desk_letIn_92 (by decide) (fun c_92 => ?_) (fun c_92 => ?_)
        · have r0 := bI_0.mp c_92
          refine rv_iconst (v := nI 5) d_Desk_letIn_99 (by decide) ?_
          exact rv_ireturn ⟨_, rfl, by rw [r0]; rfl, hD3, dk_out_tr hu2 hu3⟩ d_Desk_letIn_100 rfl rfl
        · have r0 := bI_n.mp c_92
          refine rv_iconst (v := nI 0) d_Desk_letIn_95 (by decide) ?_
          refine rv_goto (tgt := 100) d_Desk_letIn_96 (by decide) ?_
          exact rv_ireturn ⟨_, rfl, by rw [r0]; rfl, hD3, dk_out_tr hu2 hu3⟩ d_Desk_letIn_100 rfl rfl
      · have hle : bz_c (ds_in2 S.2.2.1 q S.1 S.2.1 f0 z o).1 64 ≤ 40 := Nat.not_lt.mp (fun z => c_63 (nI_lt z (by omega)))
        rw [if_pos hle] at e
        rw [e]
        refine rv_iconst (v := nI 0) d_Desk_letIn_66 (by decide) ?_
        exact rv_ireturn ⟨_, rfl, rfl, hD2, hu2⟩ d_Desk_letIn_67 rfl rfl
    · exact absurd c_12 (nI_m1 (by omega))
set_option maxHeartbeats 1000000 in
set_option maxRecDepth 100000 in
theorem c_Desk_enter {l : Launch} {D : va_G} {ca : Nat → ClassId} {hp : hp_T} {d : Nat} {L : dk_L} {S : dk_S} (hD : dk_At ca hp L S) (hO : dk_ok L) {f0 : Int64} {z o : Int32} : ma_V l D ca ma_T M_Desk_enter (d + 6) 0 0 hp (ma_qi (fun x hp1 => x = (ds_enter S f0 z o).1 ∧ dk_At ca hp1 L (ds_enter S f0 z o).2 ∧ dk_out L hp hp1)) 0 (lv_args 0 [.ref (dk_x L), .long f0, .int z, .int o]) [] := by
  change ma_V l D ca ma_T M_Desk_enter (d + 6) 0 0 hp (ma_qi (fun x hp1 => x = (ds_enter S f0 z o).1 ∧ dk_At ca hp1 L (ds_enter S f0 z o).2 ∧ dk_out L hp hp1)) 0 [(0, .ref (dk_x L)), (1, .long f0), (3, .int z), (4, .int o)] []
  have h8 := hD.2.2.1.2.2.2
  refine rv_aload_n d_Desk_enter_0 rfl 0 rfl ?_
  refine rv_get ka_Desk hD.1 rfl 1 (by decide) (wi_Desk_enter _ (List.mem_of_getElem? (i := 0) rfl)) rfl d_Desk_enter_1 ?_
  refine rv_get ka_Keys hD.2.2.1.1 rfl 2 (by decide) (wi_Desk_enter _ (List.mem_of_getElem? (i := 1) rfl)) rfl d_Desk_enter_4 ?_
  refine rv_if_eq (tgt := 20) d_Desk_enter_7 (by decide) (fun c_7 => ?_) (fun c_7 => ?_)
  · have e0 : S.2.1.1 = 0 := (nI_eq (b := 0) (by omega) (by decide)).mp c_7
    have e : (ds_enter S f0 z o) = (-1, S) := if_pos (Or.inl e0)
    rw [e]
    refine rv_iconst (v := (-1)) d_Desk_enter_20 (by decide) ?_
    exact rv_ireturn ⟨_, rfl, rfl, hD, dk_out_rf⟩ d_Desk_enter_21 rfl rfl
  · have e0 : ¬ S.2.1.1 = 0 := fun z => c_7 (by rw [z]; rfl)
    refine rv_lload_n d_Desk_enter_10 rfl 1 rfl ?_
    refine rv_iload_n d_Desk_enter_11 rfl 2 rfl ?_
    refine rv_iload d_Desk_enter_12 3 rfl ?_
    refine rv_callS (kc' := 0) (ks' := 0) (kc1 := 0) (ks1 := 0) (As := [.long f0, .int z, .int o]) (rest := []) (c_Desk_isTransaction) ok_Desk_isTransaction (wi_Desk_enter _ (List.mem_of_getElem? (i := 2) rfl)) (wi_Desk_enter _ (List.mem_of_getElem? (i := 3) rfl)) rfl rfl (Nat.le_of_ble_eq_true rfl) (Nat.le_of_ble_eq_true rfl) ⟨Nat.le_of_ble_eq_true rfl, Nat.le_of_ble_eq_true rfl⟩ d_Desk_enter_14 (rv_kie ?_)
    refine rv_if_ne (tgt := 22) d_Desk_enter_17 (by decide) (fun c_17 => ?_) (fun c_17 => ?_)
    · have e1 : (ds_enter S f0 z o) = (if cl_hind S.2.2.1 S.1 S.2.1 o = nI 0 then ((ds_in S.2.2.1 S.1 S.2.1 f0 z o).1, (S.1, (0, S.2.1.2), (ds_in S.2.2.1 S.1 S.2.1 f0 z o).2, S.2.2.2)) else (cl_hind S.2.2.1 S.1 S.2.1 o, (S.1, (0, S.2.1.2), S.2.2))) := if_neg (by rintro (z | z); exact e0 z; rw [bI_n.mp c_17] at z; cases z)
      refine rv_aload_n d_Desk_enter_22 rfl 0 rfl ?_
      refine rv_get ka_Desk hD.1 rfl 2 (by decide) (wi_Desk_enter _ (List.mem_of_getElem? (i := 4) rfl)) rfl d_Desk_enter_23 ?_
      refine rv_aload_n d_Desk_enter_26 rfl 0 rfl ?_
      refine rv_get ka_Desk hD.1 rfl 0 (by decide) (wi_Desk_enter _ (List.mem_of_getElem? (i := 5) rfl)) rfl d_Desk_enter_27 ?_
      refine rv_aload_n d_Desk_enter_30 rfl 0 rfl ?_
      refine rv_get ka_Desk hD.1 rfl 1 (by decide) (wi_Desk_enter _ (List.mem_of_getElem? (i := 0) rfl)) rfl d_Desk_enter_31 ?_
      refine rv_iload d_Desk_enter_34 3 rfl ?_
      refine rv_callV (kc' := 0) (ks' := 0) (kc1 := 0) (ks1 := 0) (As := [.ref (dk_n L), .ref (dk_k L), .int o]) (rest := []) hD.2.2.2.1.1 rfl (c_Pool_hindrance hD.2.2.2.1 hD.2.1 hD.2.2.1) ok_Pool_hindrance (wi_Desk_enter _ (List.mem_of_getElem? (i := 6) rfl)) (wi_Desk_enter _ (List.mem_of_getElem? (i := 7) rfl)) (wi_Desk_enter _ (List.mem_of_getElem? (i := 8) rfl)) rfl rfl (Nat.le_of_ble_eq_true rfl) (Nat.le_of_ble_eq_true rfl) ⟨Nat.le_of_ble_eq_true rfl, Nat.le_of_ble_eq_true rfl⟩ d_Desk_enter_36 (rv_kie ?_)
      refine rv_istore (lv' := [(5, .int (cl_hind S.2.2.1 S.1 S.2.1 o)), (0, .ref (dk_x L)), (1, .long f0), (3, .int z), (4, .int o)]) d_Desk_enter_39 (by decide) rfl ?_
      refine rv_iload d_Desk_enter_41 0 rfl ?_
      refine rv_if_ne (tgt := 56) d_Desk_enter_43 (by decide) (fun c_43 => ?_) (fun c_43 => ?_)
      · have e2 : ¬ cl_hind S.2.2.1 S.1 S.2.1 o = nI 0 := c_43
        rw [if_neg e2] at e1
        rw [e1]
        refine rv_aload_n d_Desk_enter_56 rfl 1 rfl ?_
        refine rv_get ka_Desk hD.1 rfl 1 (by decide) (wi_Desk_enter _ (List.mem_of_getElem? (i := 0) rfl)) rfl d_Desk_enter_57 ?_
        refine rv_callV (kc' := 0) (ks' := 0) (kc1 := 0) (ks1 := 0) (As := []) (rest := []) hD.2.2.1.1 rfl (c_Keys_clear hD.2.2.1) ok_Keys_clear (wi_Desk_enter _ (List.mem_of_getElem? (i := 9) rfl)) (wi_Desk_enter _ (List.mem_of_getElem? (i := 10) rfl)) (wi_Desk_enter _ (List.mem_of_getElem? (i := 11) rfl)) rfl rfl (Nat.le_of_ble_eq_true rfl) (Nat.le_of_ble_eq_true rfl) ⟨Nat.le_of_ble_eq_true rfl, Nat.le_of_ble_eq_true rfl⟩ d_Desk_enter_60 (rv_kv (fun hp74 ehp74 => ?_))
        rw [dk_clear hD] at ehp74
        have hDz := dk_setK hD hO (v := (0, S.2.1.2)) (Nat.zero_le _)
        rw [← ehp74] at hDz
        have huz : dk_out L hp hp74 := by rw [ehp74]; exact dk_outK
        refine rv_iload d_Desk_enter_63 0 rfl ?_
        exact rv_ireturn ⟨_, rfl, rfl, hDz, huz⟩ d_Desk_enter_65 rfl rfl
      · have e2 : cl_hind S.2.2.1 S.1 S.2.1 o = nI 0 := c_43
        rw [if_pos e2] at e1
        rw [e1]
        refine rv_aload_n d_Desk_enter_46 rfl 1 rfl ?_
        refine rv_lload_n d_Desk_enter_47 rfl 2 rfl ?_
        refine rv_iload_n d_Desk_enter_48 rfl 3 rfl ?_
        refine rv_iload d_Desk_enter_49 4 rfl ?_
        refine rv_callV (kc' := 0) (ks' := 0) (kc1 := 0) (ks1 := 0) (As := [.long f0, .int z, .int o]) (rest := []) hD.1 rfl (c_Desk_letIn hD hO) ok_Desk_letIn (wi_Desk_enter _ (List.mem_of_getElem? (i := 12) rfl)) (wi_Desk_enter _ (List.mem_of_getElem? (i := 13) rfl)) (wi_Desk_enter _ (List.mem_of_getElem? (i := 14) rfl)) rfl rfl (Nat.le_of_ble_eq_true rfl) (Nat.le_of_ble_eq_true rfl) ⟨Nat.le_of_ble_eq_true rfl, Nat.le_of_ble_eq_true rfl⟩ d_Desk_enter_51 (rv_ki (fun r75 hp75 ehp75 => ?_))
        obtain ⟨er, hD1, hu1⟩ := ehp75
        refine rv_istore (lv' := [(5, .int r75), (0, .ref (dk_x L)), (1, .long f0), (3, .int z), (4, .int o)]) d_Desk_enter_54 (by decide) rfl ?_
        refine rv_aload_n d_Desk_enter_56 rfl 1 rfl ?_
        refine rv_get ka_Desk hD1.1 rfl 1 (by decide) (wi_Desk_enter _ (List.mem_of_getElem? (i := 0) rfl)) rfl d_Desk_enter_57 ?_
        refine rv_callV (kc' := 0) (ks' := 0) (kc1 := 0) (ks1 := 0) (As := []) (rest := []) hD1.2.2.1.1 rfl (c_Keys_clear hD1.2.2.1) ok_Keys_clear (wi_Desk_enter _ (List.mem_of_getElem? (i := 9) rfl)) (wi_Desk_enter _ (List.mem_of_getElem? (i := 10) rfl)) (wi_Desk_enter _ (List.mem_of_getElem? (i := 11) rfl)) rfl rfl (Nat.le_of_ble_eq_true rfl) (Nat.le_of_ble_eq_true rfl) ⟨Nat.le_of_ble_eq_true rfl, Nat.le_of_ble_eq_true rfl⟩ d_Desk_enter_60 (rv_kv (fun hp76 ehp76 => ?_))
        rw [dk_clear hD1] at ehp76
        have hDz := dk_setK hD1 hO (v := (0, S.2.1.2)) (Nat.zero_le _)
        rw [← ehp76] at hDz
        have huz : dk_out L hp75 hp76 := by rw [ehp76]; exact dk_outK
        refine rv_iload d_Desk_enter_63 0 rfl ?_
        exact rv_ireturn ⟨_, rfl, er, hDz, dk_out_tr hu1 huz⟩ d_Desk_enter_65 rfl rfl
    · have e : (ds_enter S f0 z o) = (-1, S) := if_pos (Or.inr (bI_0.mp c_17))
      rw [e]
      refine rv_iconst (v := (-1)) d_Desk_enter_20 (by decide) ?_
      exact rv_ireturn ⟨_, rfl, rfl, hD, dk_out_rf⟩ d_Desk_enter_21 rfl rfl
end
