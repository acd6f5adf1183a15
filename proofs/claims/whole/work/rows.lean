section
-- ===== PART A: goes FIRST, ahead of the names: the tables' words, and 'selects' of the private methods out of them =====
/-- a private method of a class that the tables say can be made, by its rows of tables_1 -/
def lw_okq (q : MethodName × Nat) : Prop := (q.1.cls ≠ "java/lang/invoke/MethodHandle" ∧ q.1.cls ≠ "java/lang/invoke/VarHandle") ∧ Cond.instantiable q.1.cls q.2 ∈ tables_1 ∧ Cond.privateMethod q.1 ∈ tables_1 ∧ Cond.instanceMethod q.1 ∈ tables_1
theorem lw_p0 : lw_okq (⟨"PoolDesk$Keys", "isOf", "(ILPoolDesk$Name;)Z"⟩, 3) := ⟨⟨by decide +kernel, by decide +kernel⟩, List.mem_of_getElem? (i := 46) (by decide +kernel), List.mem_of_getElem? (i := 181) (by decide +kernel), List.mem_of_getElem? (i := 182) (by decide +kernel)⟩
theorem lw_p1 : lw_okq (⟨"PoolDesk$Pool", "isSpent", "(LPoolDesk$Keys;)Z"⟩, 3) := ⟨⟨by decide +kernel, by decide +kernel⟩, List.mem_of_getElem? (i := 66) (by decide +kernel), List.mem_of_getElem? (i := 215) (by decide +kernel), List.mem_of_getElem? (i := 216) (by decide +kernel)⟩
theorem lw_p2 : lw_okq (⟨"PoolDesk$Keys", "sameName", "(ILPoolDesk$Keys;I)Z"⟩, 3) := ⟨⟨by decide +kernel, by decide +kernel⟩, List.mem_of_getElem? (i := 46) (by decide +kernel), List.mem_of_getElem? (i := 223) (by decide +kernel), List.mem_of_getElem? (i := 224) (by decide +kernel)⟩
theorem lw_p3 : lw_okq (⟨"PoolDesk$Pool", "missesOutput", "(LPoolDesk$Name;LPoolDesk$Keys;I)Z"⟩, 3) := ⟨⟨by decide +kernel, by decide +kernel⟩, List.mem_of_getElem? (i := 66) (by decide +kernel), List.mem_of_getElem? (i := 227) (by decide +kernel), List.mem_of_getElem? (i := 228) (by decide +kernel)⟩
theorem lw_p4 : lw_okq (⟨"PoolDesk$Pool", "hangsOnItself", "(LPoolDesk$Name;LPoolDesk$Keys;)Z"⟩, 3) := ⟨⟨by decide +kernel, by decide +kernel⟩, List.mem_of_getElem? (i := 66) (by decide +kernel), List.mem_of_getElem? (i := 235) (by decide +kernel), List.mem_of_getElem? (i := 236) (by decide +kernel)⟩
theorem lw_p5 : lw_okq (⟨"PoolDesk$Pool", "spendersOf", "(LPoolDesk$Name;)J"⟩, 3) := ⟨⟨by decide +kernel, by decide +kernel⟩, List.mem_of_getElem? (i := 66) (by decide +kernel), List.mem_of_getElem? (i := 243) (by decide +kernel), List.mem_of_getElem? (i := 244) (by decide +kernel)⟩
theorem lw_p6 : lw_okq (⟨"PoolDesk$Pool", "named", "(LPoolDesk$Keys;)J"⟩, 3) := ⟨⟨by decide +kernel, by decide +kernel⟩, List.mem_of_getElem? (i := 66) (by decide +kernel), List.mem_of_getElem? (i := 262) (by decide +kernel), List.mem_of_getElem? (i := 263) (by decide +kernel)⟩
theorem lw_p7 : lw_okq (⟨"PoolDesk", "letIn", "(JII)I"⟩, 4) := ⟨⟨by decide +kernel, by decide +kernel⟩, List.mem_of_getElem? (i := 11) (by decide +kernel), List.mem_of_getElem? (i := 266) (by decide +kernel), List.mem_of_getElem? (i := 267) (by decide +kernel)⟩
theorem lw_p8 : lw_okq (⟨"PoolDesk", "removeFamily", "(I)I"⟩, 4) := ⟨⟨by decide +kernel, by decide +kernel⟩, List.mem_of_getElem? (i := 11) (by decide +kernel), List.mem_of_getElem? (i := 308) (by decide +kernel), List.mem_of_getElem? (i := 309) (by decide +kernel)⟩
theorem lw_p9 : lw_okq (⟨"PoolDeskModel", "come", "(I)I"⟩, 17) := ⟨⟨by decide +kernel, by decide +kernel⟩, List.mem_of_getElem? (i := 387) (by decide +kernel), List.mem_of_getElem? (i := 459) (by decide +kernel), List.mem_of_getElem? (i := 460) (by decide +kernel)⟩
theorem lw_p10 : lw_okq (⟨"PoolDeskModel", "find", "()I"⟩, 17) := ⟨⟨by decide +kernel, by decide +kernel⟩, List.mem_of_getElem? (i := 387) (by decide +kernel), List.mem_of_getElem? (i := 463) (by decide +kernel), List.mem_of_getElem? (i := 464) (by decide +kernel)⟩
theorem lw_p11 : lw_okq (⟨"PoolDeskModel", "isNamed", "(I)Z"⟩, 17) := ⟨⟨by decide +kernel, by decide +kernel⟩, List.mem_of_getElem? (i := 387) (by decide +kernel), List.mem_of_getElem? (i := 467) (by decide +kernel), List.mem_of_getElem? (i := 468) (by decide +kernel)⟩
theorem lw_p12 : lw_okq (⟨"PoolDeskModel", "clash", "(II)Z"⟩, 17) := ⟨⟨by decide +kernel, by decide +kernel⟩, List.mem_of_getElem? (i := 387) (by decide +kernel), List.mem_of_getElem? (i := 471) (by decide +kernel), List.mem_of_getElem? (i := 472) (by decide +kernel)⟩
theorem lw_p13 : lw_okq (⟨"PoolDeskModel", "sameKey", "(IIII)Z"⟩, 17) := ⟨⟨by decide +kernel, by decide +kernel⟩, List.mem_of_getElem? (i := 387) (by decide +kernel), List.mem_of_getElem? (i := 475) (by decide +kernel), List.mem_of_getElem? (i := 476) (by decide +kernel)⟩
theorem lw_p14 : lw_okq (⟨"PoolDeskModel", "misses", "(II)Z"⟩, 17) := ⟨⟨by decide +kernel, by decide +kernel⟩, List.mem_of_getElem? (i := 387) (by decide +kernel), List.mem_of_getElem? (i := 479) (by decide +kernel), List.mem_of_getElem? (i := 480) (by decide +kernel)⟩
theorem lw_p15 : lw_okq (⟨"PoolDeskModel", "hasName", "(III)Z"⟩, 17) := ⟨⟨by decide +kernel, by decide +kernel⟩, List.mem_of_getElem? (i := 387) (by decide +kernel), List.mem_of_getElem? (i := 483) (by decide +kernel), List.mem_of_getElem? (i := 484) (by decide +kernel)⟩
def lw_privs_1 : List (MethodName × Nat) := [(⟨"PoolDesk$Keys", "isOf", "(ILPoolDesk$Name;)Z"⟩, 3), (⟨"PoolDesk$Pool", "isSpent", "(LPoolDesk$Keys;)Z"⟩, 3), (⟨"PoolDesk$Keys", "sameName", "(ILPoolDesk$Keys;I)Z"⟩, 3), (⟨"PoolDesk$Pool", "missesOutput", "(LPoolDesk$Name;LPoolDesk$Keys;I)Z"⟩, 3), (⟨"PoolDesk$Pool", "hangsOnItself", "(LPoolDesk$Name;LPoolDesk$Keys;)Z"⟩, 3), (⟨"PoolDesk$Pool", "spendersOf", "(LPoolDesk$Name;)J"⟩, 3), (⟨"PoolDesk$Pool", "named", "(LPoolDesk$Keys;)J"⟩, 3), (⟨"PoolDesk", "letIn", "(JII)I"⟩, 4), (⟨"PoolDesk", "removeFamily", "(I)I"⟩, 4), (⟨"PoolDeskModel", "come", "(I)I"⟩, 17), (⟨"PoolDeskModel", "find", "()I"⟩, 17), (⟨"PoolDeskModel", "isNamed", "(I)Z"⟩, 17), (⟨"PoolDeskModel", "clash", "(II)Z"⟩, 17), (⟨"PoolDeskModel", "sameKey", "(IIII)Z"⟩, 17), (⟨"PoolDeskModel", "misses", "(II)Z"⟩, 17), (⟨"PoolDeskModel", "hasName", "(III)Z"⟩, 17)]
theorem lw_r1 : ∀ q ∈ lw_privs_1, lw_okq q := List.forall_mem_cons.mpr ⟨lw_p0, List.forall_mem_cons.mpr ⟨lw_p1, List.forall_mem_cons.mpr ⟨lw_p2, List.forall_mem_cons.mpr ⟨lw_p3, List.forall_mem_cons.mpr ⟨lw_p4, List.forall_mem_cons.mpr ⟨lw_p5, List.forall_mem_cons.mpr ⟨lw_p6, List.forall_mem_cons.mpr ⟨lw_p7, List.forall_mem_cons.mpr ⟨lw_p8, List.forall_mem_cons.mpr ⟨lw_p9, List.forall_mem_cons.mpr ⟨lw_p10, List.forall_mem_cons.mpr ⟨lw_p11, List.forall_mem_cons.mpr ⟨lw_p12, List.forall_mem_cons.mpr ⟨lw_p13, List.forall_mem_cons.mpr ⟨lw_p14, List.forall_mem_cons.mpr ⟨lw_p15, fun _ h => absurd h List.not_mem_nil⟩⟩⟩⟩⟩⟩⟩⟩⟩⟩⟩⟩⟩⟩⟩⟩
theorem lw_p16 : lw_okq (⟨"PoolDeskModel", "family", "(II)V"⟩, 17) := ⟨⟨by decide +kernel, by decide +kernel⟩, List.mem_of_getElem? (i := 387) (by decide +kernel), List.mem_of_getElem? (i := 487) (by decide +kernel), List.mem_of_getElem? (i := 488) (by decide +kernel)⟩
theorem lw_p17 : lw_okq (⟨"PoolDeskModel", "hangs", "(II)Z"⟩, 17) := ⟨⟨by decide +kernel, by decide +kernel⟩, List.mem_of_getElem? (i := 387) (by decide +kernel), List.mem_of_getElem? (i := 491) (by decide +kernel), List.mem_of_getElem? (i := 492) (by decide +kernel)⟩
theorem lw_p18 : lw_okq (⟨"PoolDeskModel", "copy", "(II)V"⟩, 17) := ⟨⟨by decide +kernel, by decide +kernel⟩, List.mem_of_getElem? (i := 387) (by decide +kernel), List.mem_of_getElem? (i := 495) (by decide +kernel), List.mem_of_getElem? (i := 496) (by decide +kernel)⟩
theorem lw_p19 : lw_okq (⟨"PoolDeskModel", "least", "()I"⟩, 17) := ⟨⟨by decide +kernel, by decide +kernel⟩, List.mem_of_getElem? (i := 387) (by decide +kernel), List.mem_of_getElem? (i := 499) (by decide +kernel), List.mem_of_getElem? (i := 500) (by decide +kernel)⟩
theorem lw_p20 : lw_okq (⟨"PoolDeskModel", "feesOf", "(Z)J"⟩, 17) := ⟨⟨by decide +kernel, by decide +kernel⟩, List.mem_of_getElem? (i := 387) (by decide +kernel), List.mem_of_getElem? (i := 503) (by decide +kernel), List.mem_of_getElem? (i := 504) (by decide +kernel)⟩
theorem lw_p21 : lw_okq (⟨"PoolDeskModel", "sizesOf", "(Z)J"⟩, 17) := ⟨⟨by decide +kernel, by decide +kernel⟩, List.mem_of_getElem? (i := 387) (by decide +kernel), List.mem_of_getElem? (i := 507) (by decide +kernel), List.mem_of_getElem? (i := 508) (by decide +kernel)⟩
theorem lw_p22 : lw_okq (⟨"PoolDeskModel", "remove", "()I"⟩, 17) := ⟨⟨by decide +kernel, by decide +kernel⟩, List.mem_of_getElem? (i := 387) (by decide +kernel), List.mem_of_getElem? (i := 514) (by decide +kernel), List.mem_of_getElem? (i := 515) (by decide +kernel)⟩
theorem lw_p23 : lw_okq (⟨"PoolDeskModel", "kin", "(IZ)I"⟩, 17) := ⟨⟨by decide +kernel, by decide +kernel⟩, List.mem_of_getElem? (i := 387) (by decide +kernel), List.mem_of_getElem? (i := 535) (by decide +kernel), List.mem_of_getElem? (i := 536) (by decide +kernel)⟩
theorem lw_p24 : lw_okq (⟨"PoolDeskModel", "isFree", "(I)Z"⟩, 17) := ⟨⟨by decide +kernel, by decide +kernel⟩, List.mem_of_getElem? (i := 387) (by decide +kernel), List.mem_of_getElem? (i := 543) (by decide +kernel), List.mem_of_getElem? (i := 544) (by decide +kernel)⟩
def lw_privs_2 : List (MethodName × Nat) := [(⟨"PoolDeskModel", "family", "(II)V"⟩, 17), (⟨"PoolDeskModel", "hangs", "(II)Z"⟩, 17), (⟨"PoolDeskModel", "copy", "(II)V"⟩, 17), (⟨"PoolDeskModel", "least", "()I"⟩, 17), (⟨"PoolDeskModel", "feesOf", "(Z)J"⟩, 17), (⟨"PoolDeskModel", "sizesOf", "(Z)J"⟩, 17), (⟨"PoolDeskModel", "remove", "()I"⟩, 17), (⟨"PoolDeskModel", "kin", "(IZ)I"⟩, 17), (⟨"PoolDeskModel", "isFree", "(I)Z"⟩, 17)]
theorem lw_r2 : ∀ q ∈ lw_privs_2, lw_okq q := List.forall_mem_cons.mpr ⟨lw_p16, List.forall_mem_cons.mpr ⟨lw_p17, List.forall_mem_cons.mpr ⟨lw_p18, List.forall_mem_cons.mpr ⟨lw_p19, List.forall_mem_cons.mpr ⟨lw_p20, List.forall_mem_cons.mpr ⟨lw_p21, List.forall_mem_cons.mpr ⟨lw_p22, List.forall_mem_cons.mpr ⟨lw_p23, List.forall_mem_cons.mpr ⟨lw_p24, fun _ h => absurd h List.not_mem_nil⟩⟩⟩⟩⟩⟩⟩⟩⟩
def lw_privs : List (MethodName × Nat) := lw_privs_1 ++ (lw_privs_2)
def lw_tbl : List Cond := k2_sels lw_privs ++ tables_1
theorem lw_privs_ok : ∀ q ∈ lw_privs, lw_okq q := by
  show ∀ q ∈ lw_privs_1 ++ (lw_privs_2), lw_okq q
  exact List.forall_mem_append.mpr ⟨lw_r1, lw_r2⟩
/-! Names, by program (wip/gen/names.py) out of the tables: classes, fields, methods, nest links. -/
def F_Name : u_T := fun k => match k with
  | 0 => ("PoolDesk$Name", "a", "J", false)
  | 1 => ("PoolDesk$Name", "b", "J", false)
  | 2 => ("PoolDesk$Name", "c", "J", false)
  | _ => ("PoolDesk$Name", "d", "J", false)
def t_Name : Nat → FieldType := fun k => match k with
  | 0 => .long
  | 1 => .long
  | 2 => .long
  | _ => .long
def F_Keys : u_T := fun k => match k with
  | 0 => ("PoolDesk$Keys", "words", "[J", true)
  | 1 => ("PoolDesk$Keys", "indexes", "[I", true)
  | _ => ("PoolDesk$Keys", "held", "I", false)
def t_Keys : Nat → FieldType := fun k => match k with
  | 0 => .array .long
  | 1 => .array .int
  | _ => .int
def F_Tx : u_T := fun k => match k with
  | 0 => ("PoolDesk$Transaction", "ownName", "LPoolDesk$Name;", true)
  | 1 => ("PoolDesk$Transaction", "keys", "LPoolDesk$Keys;", true)
  | 2 => ("PoolDesk$Transaction", "fee", "J", false)
  | 3 => ("PoolDesk$Transaction", "size", "I", false)
  | 4 => ("PoolDesk$Transaction", "outputs", "I", false)
  | 5 => ("PoolDesk$Transaction", "coming", "I", false)
  | 6 => ("PoolDesk$Transaction", "parents", "J", false)
  | _ => ("PoolDesk$Transaction", "children", "J", false)
def t_Tx : Nat → FieldType := fun k => match k with
  | 0 => .object "PoolDesk$Name"
  | 1 => .object "PoolDesk$Keys"
  | 2 => .long
  | 3 => .int
  | 4 => .int
  | 5 => .int
  | 6 => .long
  | _ => .long
def F_Pool : u_T := fun k => match k with
  | 0 => ("PoolDesk$Pool", "places", "[LPoolDesk$Transaction;", true)
  | 1 => ("PoolDesk$Pool", "present", "J", false)
  | _ => ("PoolDesk$Pool", "came", "I", false)
def t_Pool : Nat → FieldType := fun k => match k with
  | 0 => .array (.object "PoolDesk$Transaction")
  | 1 => .long
  | _ => .int
def F_Row : u_T := fun k => match k with
  | 0 => ("PoolDesk$Row", "words", "[J", true)
  | _ => ("PoolDesk$Row", "length", "I", false)
def t_Row : Nat → FieldType := fun k => match k with
  | 0 => .array .long
  | _ => .int
def F_Desk : u_T := fun k => match k with
  | 0 => ("PoolDesk", "hand", "LPoolDesk$Name;", true)
  | 1 => ("PoolDesk", "told", "LPoolDesk$Keys;", true)
  | 2 => ("PoolDesk", "pool", "LPoolDesk$Pool;", true)
  | _ => ("PoolDesk", "block", "LPoolDesk$Row;", true)
def t_Desk : Nat → FieldType := fun k => match k with
  | 0 => .object "PoolDesk$Name"
  | 1 => .object "PoolDesk$Keys"
  | 2 => .object "PoolDesk$Pool"
  | _ => .object "PoolDesk$Row"
def F_Model : u_T := fun k => match k with
  | 0 => ("PoolDeskModel", "size", "I", false)
  | 1 => ("PoolDeskModel", "names", "[J", true)
  | 2 => ("PoolDeskModel", "spends", "[I", true)
  | 3 => ("PoolDeskModel", "keys", "[J", true)
  | 4 => ("PoolDeskModel", "indexes", "[I", true)
  | 5 => ("PoolDeskModel", "fees", "[J", true)
  | 6 => ("PoolDeskModel", "sizes", "[I", true)
  | 7 => ("PoolDeskModel", "outputs", "[I", true)
  | 8 => ("PoolDeskModel", "coming", "[I", true)
  | 9 => ("PoolDeskModel", "came", "I", false)
  | 10 => ("PoolDeskModel", "name", "[J", true)
  | 11 => ("PoolDeskModel", "told", "I", false)
  | 12 => ("PoolDeskModel", "toldKeys", "[J", true)
  | 13 => ("PoolDeskModel", "toldIndexes", "[I", true)
  | 14 => ("PoolDeskModel", "marks", "[Z", true)
  | 15 => ("PoolDeskModel", "row", "[J", true)
  | _ => ("PoolDeskModel", "rowSize", "I", false)
def t_Model : Nat → FieldType := fun k => match k with
  | 0 => .int
  | 1 => .array .long
  | 2 => .array .int
  | 3 => .array .long
  | 4 => .array .int
  | 5 => .array .long
  | 6 => .array .int
  | 7 => .array .int
  | 8 => .array .int
  | 9 => .int
  | 10 => .array .long
  | 11 => .int
  | 12 => .array .long
  | 13 => .array .int
  | 14 => .array .boolean
  | 15 => .array .long
  | _ => .int
abbrev classes : List vw_C := [("PoolDesk$Name", F_Name, 4), ("PoolDesk$Keys", F_Keys, 3), ("PoolDesk$Transaction", F_Tx, 8), ("PoolDesk$Pool", F_Pool, 3), ("PoolDesk$Row", F_Row, 2), ("PoolDesk", F_Desk, 4), ("PoolDeskModel", F_Model, 17)]
abbrev ma_tys : List FieldType := [.int, .long, .object "PoolDesk$Transaction", .boolean]
def y_Desk_init : MethodName := ⟨"PoolDesk", "<init>", "()V"⟩
abbrev M_Desk_init : MethodName × ByteArray × Nat × Option FieldType := (y_Desk_init, prog_1_method_1_code, 1, none)
def y_Name_init : MethodName := ⟨"PoolDesk$Name", "<init>", "()V"⟩
abbrev M_Name_init : MethodName × ByteArray × Nat × Option FieldType := (y_Name_init, prog_3_method_1_code, 1, none)
def y_Keys_init : MethodName := ⟨"PoolDesk$Keys", "<init>", "()V"⟩
abbrev M_Keys_init : MethodName × ByteArray × Nat × Option FieldType := (y_Keys_init, prog_2_method_1_code, 1, none)
def y_Pool_init : MethodName := ⟨"PoolDesk$Pool", "<init>", "()V"⟩
abbrev M_Pool_init : MethodName × ByteArray × Nat × Option FieldType := (y_Pool_init, prog_4_method_1_code, 2, none)
def y_Tx_init : MethodName := ⟨"PoolDesk$Transaction", "<init>", "()V"⟩
abbrev M_Tx_init : MethodName × ByteArray × Nat × Option FieldType := (y_Tx_init, prog_6_method_1_code, 1, none)
def y_Row_init : MethodName := ⟨"PoolDesk$Row", "<init>", "()V"⟩
abbrev M_Row_init : MethodName × ByteArray × Nat × Option FieldType := (y_Row_init, prog_5_method_1_code, 1, none)
def y_Desk_name : MethodName := ⟨"PoolDesk", "name", "(JJJJ)V"⟩
abbrev M_Desk_name : MethodName × ByteArray × Nat × Option FieldType := (y_Desk_name, prog_1_method_2_code, 9, none)
def y_Name_set : MethodName := ⟨"PoolDesk$Name", "set", "(JJJJ)V"⟩
abbrev M_Name_set : MethodName × ByteArray × Nat × Option FieldType := (y_Name_set, prog_3_method_2_code, 9, none)
def y_Desk_spend : MethodName := ⟨"PoolDesk", "spend", "(I)Z"⟩
abbrev M_Desk_spend : MethodName × ByteArray × Nat × Option FieldType := (y_Desk_spend, prog_1_method_3_code, 2, (some .boolean))
def y_Keys_add : MethodName := ⟨"PoolDesk$Keys", "add", "(LPoolDesk$Name;I)Z"⟩
abbrev M_Keys_add : MethodName × ByteArray × Nat × Option FieldType := (y_Keys_add, prog_2_method_3_code, 3, (some .boolean))
def y_Keys_contains : MethodName := ⟨"PoolDesk$Keys", "contains", "(LPoolDesk$Name;I)Z"⟩
abbrev M_Keys_contains : MethodName × ByteArray × Nat × Option FieldType := (y_Keys_contains, prog_2_method_5_code, 4, (some .boolean))
def y_Keys_isOf : MethodName := ⟨"PoolDesk$Keys", "isOf", "(ILPoolDesk$Name;)Z"⟩
abbrev M_Keys_isOf : MethodName × ByteArray × Nat × Option FieldType := (y_Keys_isOf, prog_2_method_9_code, 4, (some .boolean))
def y_Name_write : MethodName := ⟨"PoolDesk$Name", "write", "([JI)V"⟩
abbrev M_Name_write : MethodName × ByteArray × Nat × Option FieldType := (y_Name_write, prog_3_method_3_code, 3, none)
def y_Desk_enter : MethodName := ⟨"PoolDesk", "enter", "(JII)I"⟩
abbrev M_Desk_enter : MethodName × ByteArray × Nat × Option FieldType := (y_Desk_enter, prog_1_method_4_code, 6, (some .int))
def y_Desk_isTransaction : MethodName := ⟨"PoolDesk", "isTransaction", "(JII)Z"⟩
abbrev M_Desk_isTransaction : MethodName × ByteArray × Nat × Option FieldType := (y_Desk_isTransaction, prog_1_method_13_code, 4, (some .boolean))
def y_Pool_hindrance : MethodName := ⟨"PoolDesk$Pool", "hindrance", "(LPoolDesk$Name;LPoolDesk$Keys;I)I"⟩
abbrev M_Pool_hindrance : MethodName × ByteArray × Nat × Option FieldType := (y_Pool_hindrance, prog_4_method_5_code, 4, (some .int))
def y_Pool_find : MethodName := ⟨"PoolDesk$Pool", "find", "(LPoolDesk$Name;)I"⟩
abbrev M_Pool_find : MethodName × ByteArray × Nat × Option FieldType := (y_Pool_find, prog_4_method_2_code, 3, (some .int))
def y_Desk_has : MethodName := ⟨"PoolDesk", "has", "(JI)Z"⟩
abbrev M_Desk_has : MethodName × ByteArray × Nat × Option FieldType := (y_Desk_has, prog_1_method_17_code, 3, (some .boolean))
def y_Desk_bit : MethodName := ⟨"PoolDesk", "bit", "(I)J"⟩
abbrev M_Desk_bit : MethodName × ByteArray × Nat × Option FieldType := (y_Desk_bit, prog_1_method_16_code, 1, (some .long))
def y_Name_same : MethodName := ⟨"PoolDesk$Name", "same", "(LPoolDesk$Name;)Z"⟩
abbrev M_Name_same : MethodName × ByteArray × Nat × Option FieldType := (y_Name_same, prog_3_method_4_code, 2, (some .boolean))
def y_Pool_isSpent : MethodName := ⟨"PoolDesk$Pool", "isSpent", "(LPoolDesk$Keys;)Z"⟩
abbrev M_Pool_isSpent : MethodName × ByteArray × Nat × Option FieldType := (y_Pool_isSpent, prog_4_method_6_code, 3, (some .boolean))
def y_Keys_containsOneOf : MethodName := ⟨"PoolDesk$Keys", "containsOneOf", "(LPoolDesk$Keys;)Z"⟩
abbrev M_Keys_containsOneOf : MethodName × ByteArray × Nat × Option FieldType := (y_Keys_containsOneOf, prog_2_method_6_code, 4, (some .boolean))
def y_Keys_sameName : MethodName := ⟨"PoolDesk$Keys", "sameName", "(ILPoolDesk$Keys;I)Z"⟩
abbrev M_Keys_sameName : MethodName × ByteArray × Nat × Option FieldType := (y_Keys_sameName, prog_2_method_10_code, 5, (some .boolean))
def y_Pool_missesOutput : MethodName := ⟨"PoolDesk$Pool", "missesOutput", "(LPoolDesk$Name;LPoolDesk$Keys;I)Z"⟩
abbrev M_Pool_missesOutput : MethodName × ByteArray × Nat × Option FieldType := (y_Pool_missesOutput, prog_4_method_7_code, 6, (some .boolean))
def y_Keys_misses : MethodName := ⟨"PoolDesk$Keys", "misses", "(LPoolDesk$Name;I)Z"⟩
abbrev M_Keys_misses : MethodName × ByteArray × Nat × Option FieldType := (y_Keys_misses, prog_2_method_8_code, 4, (some .boolean))
def y_Pool_hangsOnItself : MethodName := ⟨"PoolDesk$Pool", "hangsOnItself", "(LPoolDesk$Name;LPoolDesk$Keys;)Z"⟩
abbrev M_Pool_hangsOnItself : MethodName × ByteArray × Nat × Option FieldType := (y_Pool_hangsOnItself, prog_4_method_8_code, 3, (some .boolean))
def y_Keys_bears : MethodName := ⟨"PoolDesk$Keys", "bears", "(LPoolDesk$Name;)Z"⟩
abbrev M_Keys_bears : MethodName × ByteArray × Nat × Option FieldType := (y_Keys_bears, prog_2_method_7_code, 3, (some .boolean))
def y_Pool_spendersOf : MethodName := ⟨"PoolDesk$Pool", "spendersOf", "(LPoolDesk$Name;)J"⟩
abbrev M_Pool_spendersOf : MethodName × ByteArray × Nat × Option FieldType := (y_Pool_spendersOf, prog_4_method_9_code, 5, (some .long))
def y_Pool_family : MethodName := ⟨"PoolDesk$Pool", "family", "(J)J"⟩
abbrev M_Pool_family : MethodName × ByteArray × Nat × Option FieldType := (y_Pool_family, prog_4_method_13_code, 11, (some .long))
def y_Desk_lowest : MethodName := ⟨"PoolDesk", "lowest", "(J)I"⟩
abbrev M_Desk_lowest : MethodName × ByteArray × Nat × Option FieldType := (y_Desk_lowest, prog_1_method_18_code, 2, (some .int))
def y_Long_bitCount : MethodName := ⟨"java/lang/Long", "bitCount", "(J)I"⟩
abbrev M_Long_bitCount : MethodName × ByteArray × Nat × Option FieldType := (y_Long_bitCount, prog_9_method_50_code, 2, (some .int))
def y_Pool_named : MethodName := ⟨"PoolDesk$Pool", "named", "(LPoolDesk$Keys;)J"⟩
abbrev M_Pool_named : MethodName × ByteArray × Nat × Option FieldType := (y_Pool_named, prog_4_method_10_code, 5, (some .long))
def y_Desk_letIn : MethodName := ⟨"PoolDesk", "letIn", "(JII)I"⟩
abbrev M_Desk_letIn : MethodName × ByteArray × Nat × Option FieldType := (y_Desk_letIn, prog_1_method_14_code, 6, (some .int))
def y_Pool_freePlace : MethodName := ⟨"PoolDesk$Pool", "freePlace", "()I"⟩
abbrev M_Pool_freePlace : MethodName × ByteArray × Nat × Option FieldType := (y_Pool_freePlace, prog_4_method_4_code, 2, (some .int))
def y_Tx_describe : MethodName := ⟨"PoolDesk$Transaction", "describe", "(JII)V"⟩
abbrev M_Tx_describe : MethodName × ByteArray × Nat × Option FieldType := (y_Tx_describe, prog_6_method_2_code, 5, none)
def y_Pool_settle : MethodName := ⟨"PoolDesk$Pool", "settle", "(ILPoolDesk$Name;LPoolDesk$Keys;)V"⟩
abbrev M_Pool_settle : MethodName × ByteArray × Nat × Option FieldType := (y_Pool_settle, prog_4_method_11_code, 6, none)
def y_Keys_copy : MethodName := ⟨"PoolDesk$Keys", "copy", "(LPoolDesk$Keys;)V"⟩
abbrev M_Keys_copy : MethodName × ByteArray × Nat × Option FieldType := (y_Keys_copy, prog_2_method_4_code, 2, none)
def y_Pool_leastPaying : MethodName := ⟨"PoolDesk$Pool", "leastPaying", "()I"⟩
abbrev M_Pool_leastPaying : MethodName × ByteArray × Nat × Option FieldType := (y_Pool_leastPaying, prog_4_method_17_code, 13, (some .int))
def y_Pool_sumOfFees : MethodName := ⟨"PoolDesk$Pool", "sumOfFees", "(J)J"⟩
abbrev M_Pool_sumOfFees : MethodName × ByteArray × Nat × Option FieldType := (y_Pool_sumOfFees, prog_4_method_14_code, 6, (some .long))
def y_Pool_sumOfSizes : MethodName := ⟨"PoolDesk$Pool", "sumOfSizes", "(J)I"⟩
abbrev M_Pool_sumOfSizes : MethodName × ByteArray × Nat × Option FieldType := (y_Pool_sumOfSizes, prog_4_method_15_code, 5, (some .int))
def y_Desk_compareRates : MethodName := ⟨"PoolDesk", "compareRates", "(JJJJ)I"⟩
abbrev M_Desk_compareRates : MethodName × ByteArray × Nat × Option FieldType := (y_Desk_compareRates, prog_1_method_19_code, 9, (some .int))
def y_Long_compare : MethodName := ⟨"java/lang/Long", "compare", "(JJ)I"⟩
abbrev M_Long_compare : MethodName × ByteArray × Nat × Option FieldType := (y_Long_compare, prog_9_method_42_code, 4, (some .int))
def y_Desk_removeFamily : MethodName := ⟨"PoolDesk", "removeFamily", "(I)I"⟩
abbrev M_Desk_removeFamily : MethodName × ByteArray × Nat × Option FieldType := (y_Desk_removeFamily, prog_1_method_15_code, 4, (some .int))
def y_Pool_remove : MethodName := ⟨"PoolDesk$Pool", "remove", "(J)V"⟩
abbrev M_Pool_remove : MethodName × ByteArray × Nat × Option FieldType := (y_Pool_remove, prog_4_method_12_code, 4, none)
def y_Keys_clear : MethodName := ⟨"PoolDesk$Keys", "clear", "()V"⟩
abbrev M_Keys_clear : MethodName × ByteArray × Nat × Option FieldType := (y_Keys_clear, prog_2_method_2_code, 1, none)
def y_Desk_take : MethodName := ⟨"PoolDesk", "take", "()Z"⟩
abbrev M_Desk_take : MethodName × ByteArray × Nat × Option FieldType := (y_Desk_take, prog_1_method_5_code, 2, (some .boolean))
def y_Desk_drop : MethodName := ⟨"PoolDesk", "drop", "()I"⟩
abbrev M_Desk_drop : MethodName × ByteArray × Nat × Option FieldType := (y_Desk_drop, prog_1_method_6_code, 1, (some .int))
def y_Desk_strike : MethodName := ⟨"PoolDesk", "strike", "(I)I"⟩
abbrev M_Desk_strike : MethodName × ByteArray × Nat × Option FieldType := (y_Desk_strike, prog_1_method_7_code, 2, (some .int))
def y_Pool_findSpender : MethodName := ⟨"PoolDesk$Pool", "findSpender", "(LPoolDesk$Name;I)I"⟩
abbrev M_Pool_findSpender : MethodName × ByteArray × Nat × Option FieldType := (y_Pool_findSpender, prog_4_method_3_code, 4, (some .int))
def y_Desk_look : MethodName := ⟨"PoolDesk", "look", "(I)J"⟩
abbrev M_Desk_look : MethodName × ByteArray × Nat × Option FieldType := (y_Desk_look, prog_1_method_8_code, 4, (some .long))
def y_Desk_order : MethodName := ⟨"PoolDesk", "order", "(I)I"⟩
abbrev M_Desk_order : MethodName × ByteArray × Nat × Option FieldType := (y_Desk_order, prog_1_method_9_code, 8, (some .int))
def y_Row_clear : MethodName := ⟨"PoolDesk$Row", "clear", "()V"⟩
abbrev M_Row_clear : MethodName × ByteArray × Nat × Option FieldType := (y_Row_clear, prog_5_method_2_code, 1, none)
def y_Pool_bestPaying : MethodName := ⟨"PoolDesk$Pool", "bestPaying", "(JI)I"⟩
abbrev M_Pool_bestPaying : MethodName × ByteArray × Nat × Option FieldType := (y_Pool_bestPaying, prog_4_method_18_code, 8, (some .int))
def y_Pool_paysBetter : MethodName := ⟨"PoolDesk$Pool", "paysBetter", "(LPoolDesk$Transaction;LPoolDesk$Transaction;)Z"⟩
abbrev M_Pool_paysBetter : MethodName × ByteArray × Nat × Option FieldType := (y_Pool_paysBetter, prog_4_method_19_code, 3, (some .boolean))
def y_Row_add : MethodName := ⟨"PoolDesk$Row", "add", "(LPoolDesk$Name;)V"⟩
abbrev M_Row_add : MethodName × ByteArray × Nat × Option FieldType := (y_Row_add, prog_5_method_3_code, 2, none)
def y_Desk_row : MethodName := ⟨"PoolDesk", "row", "(II)J"⟩
abbrev M_Desk_row : MethodName × ByteArray × Nat × Option FieldType := (y_Desk_row, prog_1_method_10_code, 3, (some .long))
def y_Row_word : MethodName := ⟨"PoolDesk$Row", "word", "(II)J"⟩
abbrev M_Row_word : MethodName × ByteArray × Nat × Option FieldType := (y_Row_word, prog_5_method_4_code, 3, (some .long))
def y_Desk_count : MethodName := ⟨"PoolDesk", "count", "(I)I"⟩
abbrev M_Desk_count : MethodName × ByteArray × Nat × Option FieldType := (y_Desk_count, prog_1_method_11_code, 2, (some .int))
def y_Pool_sumOfKeys : MethodName := ⟨"PoolDesk$Pool", "sumOfKeys", "()I"⟩
abbrev M_Pool_sumOfKeys : MethodName × ByteArray × Nat × Option FieldType := (y_Pool_sumOfKeys, prog_4_method_16_code, 3, (some .int))
def y_Desk_fees : MethodName := ⟨"PoolDesk", "fees", "()J"⟩
abbrev M_Desk_fees : MethodName × ByteArray × Nat × Option FieldType := (y_Desk_fees, prog_1_method_12_code, 1, (some .long))
def y_Model_init : MethodName := ⟨"PoolDeskModel", "<init>", "()V"⟩
abbrev M_Model_init : MethodName × ByteArray × Nat × Option FieldType := (y_Model_init, prog_8_method_1_code, 1, none)
def y_Model_name : MethodName := ⟨"PoolDeskModel", "name", "(JJJJ)V"⟩
abbrev M_Model_name : MethodName × ByteArray × Nat × Option FieldType := (y_Model_name, prog_8_method_2_code, 9, none)
def y_Model_spend : MethodName := ⟨"PoolDeskModel", "spend", "(I)Z"⟩
abbrev M_Model_spend : MethodName × ByteArray × Nat × Option FieldType := (y_Model_spend, prog_8_method_5_code, 5, (some .boolean))
def y_Model_enter : MethodName := ⟨"PoolDeskModel", "enter", "(JII)I"⟩
abbrev M_Model_enter : MethodName × ByteArray × Nat × Option FieldType := (y_Model_enter, prog_8_method_18_code, 7, (some .int))
def y_Model_come : MethodName := ⟨"PoolDeskModel", "come", "(I)I"⟩
abbrev M_Model_come : MethodName × ByteArray × Nat × Option FieldType := (y_Model_come, prog_8_method_19_code, 5, (some .int))
def y_Model_find : MethodName := ⟨"PoolDeskModel", "find", "()I"⟩
abbrev M_Model_find : MethodName × ByteArray × Nat × Option FieldType := (y_Model_find, prog_8_method_4_code, 2, (some .int))
def y_Model_isNamed : MethodName := ⟨"PoolDeskModel", "isNamed", "(I)Z"⟩
abbrev M_Model_isNamed : MethodName × ByteArray × Nat × Option FieldType := (y_Model_isNamed, prog_8_method_3_code, 4, (some .boolean))
def y_Model_clash : MethodName := ⟨"PoolDeskModel", "clash", "(II)Z"⟩
abbrev M_Model_clash : MethodName × ByteArray × Nat × Option FieldType := (y_Model_clash, prog_8_method_9_code, 6, (some .boolean))
def y_Model_sameKey : MethodName := ⟨"PoolDeskModel", "sameKey", "(IIII)Z"⟩
abbrev M_Model_sameKey : MethodName × ByteArray × Nat × Option FieldType := (y_Model_sameKey, prog_8_method_8_code, 7, (some .boolean))
def y_Model_misses : MethodName := ⟨"PoolDeskModel", "misses", "(II)Z"⟩
abbrev M_Model_misses : MethodName × ByteArray × Nat × Option FieldType := (y_Model_misses, prog_8_method_10_code, 6, (some .boolean))
def y_Model_hasName : MethodName := ⟨"PoolDeskModel", "hasName", "(III)Z"⟩
abbrev M_Model_hasName : MethodName × ByteArray × Nat × Option FieldType := (y_Model_hasName, prog_8_method_6_code, 6, (some .boolean))
def y_Model_family : MethodName := ⟨"PoolDeskModel", "family", "(II)V"⟩
abbrev M_Model_family : MethodName × ByteArray × Nat × Option FieldType := (y_Model_family, prog_8_method_11_code, 6, none)
def y_Model_hangs : MethodName := ⟨"PoolDeskModel", "hangs", "(II)Z"⟩
abbrev M_Model_hangs : MethodName × ByteArray × Nat × Option FieldType := (y_Model_hangs, prog_8_method_7_code, 5, (some .boolean))
def y_Model_copy : MethodName := ⟨"PoolDeskModel", "copy", "(II)V"⟩
abbrev M_Model_copy : MethodName × ByteArray × Nat × Option FieldType := (y_Model_copy, prog_8_method_12_code, 4, none)
def y_Model_least : MethodName := ⟨"PoolDeskModel", "least", "()I"⟩
abbrev M_Model_least : MethodName × ByteArray × Nat × Option FieldType := (y_Model_least, prog_8_method_17_code, 11, (some .int))
def y_Model_feesOf : MethodName := ⟨"PoolDeskModel", "feesOf", "(Z)J"⟩
abbrev M_Model_feesOf : MethodName × ByteArray × Nat × Option FieldType := (y_Model_feesOf, prog_8_method_15_code, 5, (some .long))
def y_Model_sizesOf : MethodName := ⟨"PoolDeskModel", "sizesOf", "(Z)J"⟩
abbrev M_Model_sizesOf : MethodName × ByteArray × Nat × Option FieldType := (y_Model_sizesOf, prog_8_method_16_code, 5, (some .long))
def y_Model_compare : MethodName := ⟨"PoolDeskModel", "compare", "(JJJJ)I"⟩
abbrev M_Model_compare : MethodName × ByteArray × Nat × Option FieldType := (y_Model_compare, prog_8_method_14_code, 21, (some .int))
def y_Model_remove : MethodName := ⟨"PoolDeskModel", "remove", "()I"⟩
abbrev M_Model_remove : MethodName × ByteArray × Nat × Option FieldType := (y_Model_remove, prog_8_method_13_code, 4, (some .int))
def y_Model_take : MethodName := ⟨"PoolDeskModel", "take", "()Z"⟩
abbrev M_Model_take : MethodName × ByteArray × Nat × Option FieldType := (y_Model_take, prog_8_method_20_code, 3, (some .boolean))
def y_Model_drop : MethodName := ⟨"PoolDeskModel", "drop", "()I"⟩
abbrev M_Model_drop : MethodName × ByteArray × Nat × Option FieldType := (y_Model_drop, prog_8_method_21_code, 2, (some .int))
def y_Model_strike : MethodName := ⟨"PoolDeskModel", "strike", "(I)I"⟩
abbrev M_Model_strike : MethodName × ByteArray × Nat × Option FieldType := (y_Model_strike, prog_8_method_22_code, 6, (some .int))
def y_Model_look : MethodName := ⟨"PoolDeskModel", "look", "(I)J"⟩
abbrev M_Model_look : MethodName × ByteArray × Nat × Option FieldType := (y_Model_look, prog_8_method_24_code, 5, (some .long))
def y_Model_kin : MethodName := ⟨"PoolDeskModel", "kin", "(IZ)I"⟩
abbrev M_Model_kin : MethodName × ByteArray × Nat × Option FieldType := (y_Model_kin, prog_8_method_23_code, 5, (some .int))
def y_Model_order : MethodName := ⟨"PoolDeskModel", "order", "(I)I"⟩
abbrev M_Model_order : MethodName × ByteArray × Nat × Option FieldType := (y_Model_order, prog_8_method_26_code, 7, (some .int))
def y_Model_isFree : MethodName := ⟨"PoolDeskModel", "isFree", "(I)Z"⟩
abbrev M_Model_isFree : MethodName × ByteArray × Nat × Option FieldType := (y_Model_isFree, prog_8_method_25_code, 3, (some .boolean))
def y_Model_row : MethodName := ⟨"PoolDeskModel", "row", "(II)J"⟩
abbrev M_Model_row : MethodName × ByteArray × Nat × Option FieldType := (y_Model_row, prog_8_method_27_code, 3, (some .long))
def y_Model_count : MethodName := ⟨"PoolDeskModel", "count", "(I)I"⟩
abbrev M_Model_count : MethodName × ByteArray × Nat × Option FieldType := (y_Model_count, prog_8_method_28_code, 4, (some .int))
def y_Model_fees : MethodName := ⟨"PoolDeskModel", "fees", "()J"⟩
abbrev M_Model_fees : MethodName × ByteArray × Nat × Option FieldType := (y_Model_fees, prog_8_method_29_code, 1, (some .long))
def y_Law_law : MethodName := ⟨"PoolDeskLaw", "law", "([I)Z"⟩
abbrev M_Law_law : MethodName × ByteArray × Nat × Option FieldType := (y_Law_law, code, 4, (some .boolean))
def ma_N : List (String × Nat × MethodName × String) := [("PoolDesk", 11, y_Name_init, "PoolDesk"), ("PoolDesk", 18, y_Keys_init, "PoolDesk"), ("PoolDesk$Pool", 17, y_Tx_init, "PoolDesk"), ("PoolDesk$Transaction", 9, y_Name_init, "PoolDesk"), ("PoolDesk$Transaction", 18, y_Keys_init, "PoolDesk"), ("PoolDesk", 32, y_Row_init, "PoolDesk"), ("PoolDesk$Pool", 22, y_Desk_has, "PoolDesk"), ("PoolDesk$Pool", 93, y_Desk_bit, "PoolDesk"), ("PoolDesk$Pool", 48, y_Desk_lowest, "PoolDesk"), ("PoolDesk$Pool", 144, y_Desk_compareRates, "PoolDesk")]
def ma_AO : List String := ["PoolDesk$Transaction"]
end
section
/-! The judgement ma_V: method M stands at pc with locals lv and stack st over the picture hp of the heap, and will return with Q; at every context. Rows: an instruction a row. -/
section Pic
abbrev hp_T : Type := Nat → Option va_E
def hp_up (hp : hp_T) (a : Nat) (x : va_E) : hp_T := fun b => if b = a then some x else hp b
theorem hp_us {hp : hp_T} {a : Nat} {x : va_E} : hp_up hp a x a = some x := by simp [hp_up]
theorem hp_un {hp : hp_T} {a b : Nat} {x : va_E} (h : b ≠ a) : hp_up hp a x b = hp b := by simp [hp_up, h]
theorem hp_ne {hp : hp_T} {a b : Nat} {x y : va_E} (ha : hp a = some x) (hb : hp b = some y) (h : x ≠ y) : a ≠ b := by
  intro q
  subst q
  exact h (Option.some.inj (ha.symm.trans hb))
theorem hp_uu {hp : hp_T} {a : Nat} {x y : va_E} : hp_up (hp_up hp a x) a y = hp_up hp a y := by
  funext b
  by_cases h : b = a <;> simp [hp_up, h]
theorem hp_self {hp : hp_T} {a : Nat} {x : va_E} (h : hp a = some x) : hp_up hp a x = hp := by
  funext b
  by_cases e : b = a
  · subst e; simp [hp_up, h]
  · simp [hp_up, e]
def hp_W (hp : hp_T) (ws : va_W) : Prop := ∀ (a : Nat) (x : va_E), hp a = some x → ∃ k : Nat, ws[k]? = some (a, x)
theorem hp_W.set {hp : hp_T} {ws : va_W} {A : Nat → Prop} {a k : Nat} {x x' : va_E} (h : hp_W hp ws) (hk : ws[k]? = some (a, x)) : hp_W (hp_up hp a x') (ws.set k (a, x')) := by
  intro b y hb
  have hl := (List.getElem?_eq_some_iff.mp hk).1
  by_cases hba : b = a
  · subst hba
    rw [hp_us] at hb
    cases hb
    exact ⟨k, List.getElem?_set_self hl⟩
  · rw [hp_un hba] at hb
    obtain ⟨j, hj⟩ := h b y hb
    have hjk : k ≠ j := fun q => by
      subst q
      rw [hk] at hj
      cases hj
      exact hba rfl
    exact ⟨j, by rw [List.getElem?_set_ne hjk]; exact hj⟩
theorem hp_W.push {hp : hp_T} {ws : va_W} {q : Nat} {x : va_E} (h : hp_W hp ws) : hp_W (hp_up hp q x) (ws ++ [(q, x)]) := by
  intro b y hb
  by_cases hbq : b = q
  · subst hbq
    rw [hp_us] at hb
    cases hb
    exact ⟨ws.length, by simp⟩
  · rw [hp_un hbq] at hb
    obtain ⟨j, hj⟩ := h b y hb
    have hl := (List.getElem?_eq_some_iff.mp hj).1
    exact ⟨j, by rw [List.getElem?_append_left hl]; exact hj⟩
theorem hp_W.fresh {hp : hp_T} {ws : va_W} {A : Nat → Prop} {q : Nat} {x : va_E} (h : hp_W hp ws) (hD : va_D A (ws ++ [(q, x)])) : hp q = none := by
  cases hq : hp q with
  | none => rfl
  | some y =>
    obtain ⟨j, hj⟩ := h q y hq
    have hl := (List.getElem?_eq_some_iff.mp hj).1
    have h1 : (ws ++ [(q, x)])[j]? = some (q, y) := by rw [List.getElem?_append_left hl]; exact hj
    have h2 : (ws ++ [(q, x)])[ws.length]? = some (q, x) := by simp
    have := hD.1 j ws.length (q, y) (q, x) h1 h2 rfl
    omega
def hp_R (D : va_G) (A : Nat → Prop) (hp : hp_T) (H : Heap) : Prop := ∃ ws : va_W, va_P D classes ws H ∧ va_D A ws ∧ hp_W hp ws
end Pic
section Mach
/-- a method: name, bytes, locals, what it returns -/
abbrev ma_M : Type := MethodName × ByteArray × Nat × Option FieldType
def ma_good (w : Cond) : Bool := (w.onTables && w.keeps) || (match w with | .arrayClass _ => true | _ => false)
def ma_tbl : List Cond := lw_tbl.filter ma_good
theorem ma_good_of {w : Cond} (h : ma_good w = true) : (w.onTables && w.keeps) = true ∨ ∃ ty, w = .arrayClass ty := by
  unfold ma_good at h
  rcases Bool.or_eq_true _ _ |>.mp h with h | h
  · exact Or.inl h
  · right
    cases w <;> first | exact ⟨_, rfl⟩ | cases h
theorem ma_tbl_good {w : Cond} (h : w ∈ ma_tbl) : (w.onTables && w.keeps) = true ∨ ∃ ty, w = .arrayClass ty := ma_good_of (List.mem_filter.mp h).2
abbrev ma_ty (ca : Nat → ClassId) : List (ClassId × FieldType) := (List.range ma_tys.length).map (fun k => (ca k, ma_tys.getD k .int))
def ma_Ns (U : State) : Prop := ∀ q ∈ ma_N, va_Nw (.methodLinkNest q.1 q.2.1 q.2.2.1 q.2.2.2) U
def ma_AOs (U : State) : Prop := ∀ C ∈ ma_AO, va_AO C U
def ma_W (D : va_G) (ca : Nat → ClassId) (U : State) : Prop := va_K D classes (ma_ty ca) U ∧ ma_Ns U ∧ ma_AOs U
theorem ma_W.warm {D : va_G} {ca : Nat → ClassId} {s U : State} (hW : s.WarmedH U.vm) (h : ma_W D ca s) : ma_W D ca U := ⟨va_K.moved hW.alike h.1, fun q hq => va_Nw.warmM hW (h.2.1 q hq), fun C hC => (h.2.2 C hC).moved hW.alike⟩
theorem ma_W.same {D : va_G} {ca : Nat → ClassId} {s U : State} (hv : s.vm = U.vm) (h : ma_W D ca s) : ma_W D ca U := by
  have ha : s.vm.Alike U.vm := hv ▸ Vm.Alike.refl s.vm
  exact ⟨va_K.moved ha h.1, fun q hq => va_Nw.same rfl hv (h.2.1 q hq), fun C hC => (h.2.2 C hC).moved ha⟩
def ma_C (D : va_G) (ca : Nat → ClassId) (M : ma_M) (d : Nat) (p : Program) (R : Room) (s : State) (m : MethodId) (args : Array Value) (meth : Method) (c : Code) : Prop :=
  p.tables.exec = Jvm.exec ∧ c.code = M.2.1 ∧ c.maxLocals = M.2.2.1 ∧ s.vm.findClass M.1.cls = some m.cls ∧ (∀ w ∈ ma_tbl, w.before args s = true) ∧ ma_W D ca s ∧ meth.name = M.1.name ∧ d ≤ R.frames ∧ 45 * d ≤ R.locals
def ma_ret (M : ma_M) (pc : Nat) (v : Option Value) : Prop :=
  (v = none ∧ decode M.2.1 pc = .ok (.return_, 1) ∧ M.2.2.2 = none) ∨ (∃ (x : Int32) (ty : FieldType), v = some (.int x) ∧ decode M.2.1 pc = .ok (.ireturn, 1) ∧ M.2.2.2 = some ty ∧ narrow ty (.int x) = .int x) ∨
  (∃ x : Int64, v = some (.long x) ∧ decode M.2.1 pc = .ok (.lreturn, 1) ∧ M.2.2.2 = some .long) ∨ (∃ (x : Value) (ty : FieldType), v = some x ∧ decode M.2.1 pc = .ok (.areturn, 1) ∧ M.2.2.2 = some ty ∧ ((∃ n, ty = .object n) ∨ ∃ t, ty = .array t) ∧ (x = .null ∨ ∃ a, x = .ref a))
def ma_E (l : Launch) (D : va_G) (M : ma_M) (Q : Option Value → hp_T → Prop) (p : Program) (e : Env) (R : Room) (s : State) (m : MethodId) (args : Array Value) (below : List Frame) (meth : Method) (c : Code) (A : Nat → Prop) (Z : State → Prop) : Prop :=
  ∀ (pc : Nat) (ls : Array Slot) (v : Option Value) (hp' : hp_T) (H' : Heap) (locs' : List Loc) (cells' slots' : Nat), ma_ret M pc v → Q v hp' → hp_R D A hp' H' → va_S A s.heap H' locs' → cells' ≤ R.cells → slots' ≤ R.slots →
    W p l e R s m args below meth c H' locs' cells' slots' Z (F0 m pc ls v.toList)
def ma_V (l : Launch) (D : va_G) (ca : Nat → ClassId) (EX : State → (Nat → Prop) → Prop) (M : ma_M) (d kc ks : Nat) (hp : hp_T) (Q : Option Value → hp_T → Prop) (pc : Nat) (lv : List (Nat × Value)) (st : List Value) : Prop :=
  ∀ (p : Program) (e : Env) (R : Room) (s : State) (m : MethodId) (args : Array Value) (below : List Frame) (meth : Method) (c : Code) (A : Nat → Prop) (Z : State → Prop) (H : Heap) (locs : List Loc) (cells slots : Nat) (ls : Array Slot),
    ma_C D ca M d p R s m args meth c → EX s A → (∀ q, s.heap.size ≤ q → A q) → ma_E l D M Q p e R s m args below meth c A Z →
    hp_R D A hp H → va_S A s.heap H locs → cells + kc ≤ R.cells → slots + ks ≤ R.slots → lv_has ls M.2.2.1 lv →
    W p l e R s m args below meth c H locs cells slots Z (F0 m pc ls st)
def ma_T : State → (Nat → Prop) → Prop := fun _ _ => True
def ma_qi (q : Int32 → hp_T → Prop) : Option Value → hp_T → Prop := fun v hp => ∃ x, v = some (.int x) ∧ q x hp
def ma_ql (q : Int64 → hp_T → Prop) : Option Value → hp_T → Prop := fun v hp => ∃ x, v = some (.long x) ∧ q x hp
def ma_qv (q : hp_T → Prop) : Option Value → hp_T → Prop := fun v hp => v = none ∧ q hp
def ma_qr (q : Nat → hp_T → Prop) : Option Value → hp_T → Prop := fun v hp => ∃ x, v = some (.ref x) ∧ q x hp
def ma_eq {α : Type} (r : α) (hp0 : hp_T) : α → hp_T → Prop := fun x hp => x = r ∧ hp = hp0
abbrev ma_ws (M : ma_M) : List Cond := Cond.code M.1 M.2.1 M.2.2.1 M.2.2.2 :: ma_tbl
def ma_rm (d kc ks : Nat) : Room := { frames := d, cells := kc, slots := ks, locals := 45 * d }
def ma_B (D : va_G) (ca : Nat → ClassId) (A : Nat → Prop) (hp : hp_T) (U : State) : Prop := hp_R D A hp U.heap ∧ ma_W D ca U ∧ ∀ q, U.heap.size ≤ q → A q
def ma_Qc (D : va_G) (A : Nat → Prop) (Q : Option Value → hp_T → Prop) : Array Value → State → Outcome → State → Prop := fun _ st oc t => (∃ (v : Option Value) (hp' : hp_T), oc = .returned v ∧ Q v hp' ∧ hp_R D A hp' t.heap) ∧ va_F A st t
variable {l : Launch} {D : va_G} {ca : Nat → ClassId} {EX : State → (Nat → Prop) → Prop} {M M' : ma_M} {d kc ks : Nat} {hp : hp_T} {Q Q' : Option Value → hp_T → Prop} {pc : Nat} {lv : List (Nat × Value)} {st : List Value}
theorem ma_met {av : List Value} (hV : ma_V l D ca ma_T M d kc ks hp Q 0 (lv_args 0 av) []) (hy : plainName M.1.cls = true) (hn : (lg_sl av).length ≤ M.2.2.1) (A : Nat → Prop) :
    Met l M.1 (ma_ws M) (ma_rm d kc ks) (va_Pc av (ma_B D ca A hp)) (ma_Qc D A Q) kc ks A := by
  refine Met.ofW (cc := M.2.1) (maxL := M.2.2.1) (ret := M.2.2.2) hy rfl ?_
  intro p e s m args below meth c s₁ B hml hv
  obtain ⟨rfl, hR, hW, hA⟩ := hv
  have hts := atoms_spec (ws := ma_ws M) B.pre
  rw [lg_entry_eq]
  refine hV p e (headSpec (ma_ws M) (ma_rm d kc ks)).room s m _ below meth c A _ s.heap [] 0 0 _ ⟨B.exec, B.bytes, hml, findClass_of_methodNamed B.named, fun w h => hts w (List.mem_cons_of_mem _ h), hW, (name_of_methodNamed B.named B.method).1, Nat.le_refl _, Nat.le_refl _⟩ trivial hA ?_ hR va_S.rf (by show 0 + kc ≤ kc; omega) (by show 0 + ks ≤ ks; omega) (lv_entry av hn)
  intro pc ls v hp' H' locs' cells' slots' hr hQ hR' hS' hc hs
  refine W.widen (k := kc) (n := ks) hc hs ?_
  have fin : ∀ t : State, t.heap = H' → s.WarmedH t.vm → ma_Qc D A Q av.toArray s (.returned v) t := fun t ht _ => ⟨⟨v, hp', rfl, hQ, by rw [ht]; exact hR'⟩, hS'.F ht⟩
  have hl := B.notSynchronized
  rcases hr with ⟨rfl, h1, h2⟩ | ⟨x, ty, rfl, h1, h2, h3⟩ | ⟨x, rfl, h1, h2⟩ | ⟨x, ty, rfl, h1, h2, h3, h4⟩
  · exact W.vret B.exec B.bytes (B.returns.trans h2) fin hS'.2.2 h1 hl
  · exact W.zret B.exec B.bytes (B.returns.trans h2) h3 fin hS'.2.2 h1 hl
  · exact W.lret B.exec B.bytes (B.returns.trans h2) fin hS'.2.2 h1 hl
  · exact W.aret B.exec B.bytes (B.returns.trans h2) h3 h4 fin hS'.2.2 h1 hl
theorem ma_blind {av : List Value} {A : Nat → Prop} : FrameBlind (va_Pc av (ma_B D ca A hp)) := fun a U g mk h => ⟨h.1, h.2.1, ma_W.same (U := U.calling g mk a) rfl h.2.2.1, h.2.2.2⟩

section Go
variable {p : Program} {e : Env} {R : Room} {s : State} {m : MethodId} {args : Array Value} {below : List Frame} {meth : Method} {c : Code} {H : Heap} {locs : List Loc} {cells slots : Nat} {Z : State → Prop} {A : Nat → Prop}
theorem ma_go {mc ms : Nat} {ls : Array Slot} {st0 rest : List Value} {a : Array Value} (hr : va_Run p l e R s m args below meth c H locs cells slots mc ms (F0 m pc ls st0) rest (ma_Qc D A Q' a) A) (hS : va_S A s.heap H locs)
    (kk : ∀ (v : Option Value) (hp' : hp_T) (H1 : Heap) (locs1 : List Loc), Q' v hp' → hp_R D A hp' H1 → va_S A s.heap H1 locs1 → W p l e R s m args below meth c H1 locs1 (cells + mc) (slots + ms) Z (F0 m (pc + 3) ls (v.toList ++ rest))) :
    W p l e R s m args below meth c H locs cells slots Z (F0 m pc ls st0) := by
  intro T hT X
  obtain ⟨v, st₀, t, T', L, h0, X', hL, e1, e2, ⟨⟨v', hp', hv, hq, hR⟩, hz, hk⟩, st⟩ := hr T hT X
  cases hv
  rw [h0] at hz hk
  obtain ⟨t2, a1, b1⟩ := kk v hp' T'.heap (locs ++ L) hq (by rw [e1]; exact hR) ⟨Nat.le_trans hS.1 (by rw [e1]; exact hz), fun q h1 h2 => by rw [e1, hk q (Nat.lt_of_lt_of_le h1 hS.1) h2]; exact hS.2.1 q h1 h2, fun q hq => by
      rcases List.mem_append.mp hq with h | h
      · exact hS.2.2 q h
      · exact hL q h⟩ T' rfl X'
  exact ⟨t2, st t2 a1, b1⟩
theorem ma_pre {av : List Value} (hC : ma_C D ca M d p R s m args meth c) (hA : ∀ q, s.heap.size ≤ q → A q) (hR : hp_R D A hp H) (hS : va_S A s.heap H locs) : ∀ U : State, U.heap = H → s.WarmedH U.vm → va_Pc av (ma_B D ca A hp) av.toArray U := by
  intro U hU hW
  refine ⟨rfl, by rw [hU]; exact hR, hC.2.2.2.2.2.1.warm hW, fun q hq => hA q (Nat.le_trans hS.1 (by rw [← hU]; exact hq))⟩
end Go
/-- a method that may be called: its words stand in the tables -/
def ma_Ok (M : ma_M) (n : Nat) : Prop := plainName M.1.cls = true ∧ (M.1.cls ≠ "java/lang/invoke/MethodHandle" ∧ M.1.cls ≠ "java/lang/invoke/VarHandle" ∧ (parseMethodDescriptor M.1.desc).map (fun d => d.parameters.length) = some n) ∧ Cond.code M.1 M.2.1 M.2.2.1 M.2.2.2 ∈ ma_tbl ∧ Cond.initialized M.1.cls ∈ ma_tbl ∧ M.2.2.1 ≤ 26
theorem ma_Ok.good {n : Nat} (h : ma_Ok M n) : GoodIn ma_tbl (ma_ws M) := fun w hw => by
  rcases List.mem_cons.mp hw with rfl | hw
  · exact ⟨h.2.2.1, ma_tbl_good h.2.2.1⟩
  · exact ⟨hw, ma_tbl_good hw⟩
theorem ma_room {R : Room} {d kc ks n : Nat} (h : n ≤ 26) (h1 : d + 1 ≤ R.frames) (h2 : 45 * (d + 1) ≤ R.locals) : (ma_rm d kc ks).frames + 1 ≤ R.frames ∧ 8 + (n + 11) + (ma_rm d kc ks).locals ≤ R.locals := by
  refine ⟨h1, ?_⟩
  show 8 + (n + 11) + 45 * d ≤ R.locals
  omega

theorem rv_callV {kc' ks' kc1 ks1 n index : Nat} {As rest : List Value} {b ci N : Nat} {T : u_T} {fs : List Value} (hb : hp b = some (.inr (ci, fs))) (hcl : classes[ci]? = some (M'.1.cls, T, N)) (hV : ma_V l D ca ma_T M' d kc' ks' hp Q' 0 (lv_args 0 (.ref b :: As)) []) (hok : ma_Ok M' n) (hlk : Cond.methodLink M.1.cls index M'.1 ∈ ma_tbl) (hin : Cond.instanceMethod M'.1 ∈ ma_tbl) (hse : Cond.selects M'.1.cls M'.1 M'.1 ∈ ma_tbl) (hst0 : st = As.reverse ++ .ref b :: rest) (hn : As.length = n) (hlen : (lg_sl (.ref b :: As)).length ≤ M'.2.2.1) (hrs : (rest.map fun v => v.category).sum ≤ 8) (hk : kc1 + kc' ≤ kc ∧ ks1 + ks' ≤ ks) (hd : decode M.2.1 pc = .ok (.invokevirtual index, 3))
    (K : ∀ (v : Option Value) (hp' : hp_T), Q' v hp' → ma_V l D ca EX M (d + 1) kc1 ks1 hp' Q (pc + 3) lv (v.toList ++ rest)) : ma_V l D ca EX M (d + 1) kc ks hp Q pc lv st := by
  intro p e R s m args below meth c A Z H locs cells slots ls hC hX hA hE hR hS hc hs hl
  subst hst0
  obtain ⟨hx, hb0, hml, hown, hts, hW, hnm, hfr, hlo⟩ := id hC
  obtain ⟨ws, hP, hD, hw⟩ := id hR
  obtain ⟨k, hkk⟩ := hw _ _ hb
  have hpre : PreV s H M'.1.cls b (va_Pc (.ref b :: As) (ma_B D ca A hp)) As := ⟨ma_blind, va_recv hW.1 hP hcl hkk, ma_pre hC hA hR hS⟩
  have hg : GoodIn ma_tbl (wsV M.1.cls index M'.1.cls M'.1 (ma_ws M')) := fun w h => by
    unfold wsV at h
    rcases List.mem_append.mp h with h | h
    · simp only [List.mem_cons, List.not_mem_nil, or_false] at h
      rcases h with rfl | rfl | rfl | rfl
      · exact ⟨hlk, ma_tbl_good hlk⟩
      · exact ⟨hin, ma_tbl_good hin⟩
      · exact ⟨hse, ma_tbl_good hse⟩
      · exact ⟨hok.2.2.2.1, ma_tbl_good hok.2.2.2.1⟩
    · exact hok.good w h
  have cw := cwV (R := R) (s := s) (args := args) (own := M.1.cls) (C := M'.1.cls) (index := index) (y := M'.1) (rm := ma_rm d kc' ks') n hts hg rfl rfl rfl ⟨rfl, hok.2.1⟩ (ma_room hok.2.2.2.2 hfr hlo)
  have hr := va_runV (below := below) (p := p) (e := e) (meth := meth) (locs := locs) (cells := cells) (slots := slots) (rest := rest) (g := F0 m pc ls (As.reverse ++ .ref b :: rest)) ⟨hx, hb0, hml, hown, hts⟩ (ma_met hV hok.1 hlen A) cw hpre rfl hn hl.1 rfl (lv_room hrs) hd ⟨by omega, by omega⟩
  exact ma_go hr hS (fun v hp' H1 locs1 hq hR1 hS1 => K v hp' hq p e R s m args below meth c A Z H1 locs1 (cells + kc') (slots + ks') ls hC hX hA hE hR1 hS1 (by omega) (by omega) hl)
theorem rv_callVN {kc' ks' kc1 ks1 n index : Nat} {As rest : List Value} {b ci N : Nat} {T : u_T} {fs : List Value} (hb : hp b = some (.inr (ci, fs))) (hcl : classes[ci]? = some (M'.1.cls, T, N)) (hV : ma_V l D ca ma_T M' d kc' ks' hp Q' 0 (lv_args 0 (.ref b :: As)) []) (hok : ma_Ok M' n) {host : String} (hlk : (M.1.cls, index, M'.1, host) ∈ ma_N) (hin : Cond.instanceMethod M'.1 ∈ ma_tbl) (hse : Cond.selects M'.1.cls M'.1 M'.1 ∈ ma_tbl) (hst0 : st = As.reverse ++ .ref b :: rest) (hn : As.length = n) (hlen : (lg_sl (.ref b :: As)).length ≤ M'.2.2.1) (hrs : (rest.map fun v => v.category).sum ≤ 8) (hk : kc1 + kc' ≤ kc ∧ ks1 + ks' ≤ ks) (hd : decode M.2.1 pc = .ok (.invokevirtual index, 3))
    (K : ∀ (v : Option Value) (hp' : hp_T), Q' v hp' → ma_V l D ca EX M (d + 1) kc1 ks1 hp' Q (pc + 3) lv (v.toList ++ rest)) : ma_V l D ca EX M (d + 1) kc ks hp Q pc lv st := by
  intro p e R s m args below meth c A Z H locs cells slots ls hC hX hA hE hR hS hc hs hl
  subst hst0
  obtain ⟨hx, hb0, hml, hown, hts, hW, hnm, hfr, hlo⟩ := id hC
  obtain ⟨ws, hP, hD, hw⟩ := id hR
  obtain ⟨k, hkk⟩ := hw _ _ hb
  have hpre : PreV s H M'.1.cls b (va_Pc (.ref b :: As) (ma_B D ca A hp)) As := ⟨ma_blind, va_recv hW.1 hP hcl hkk, ma_pre hC hA hR hS⟩
  have cw := va_cnB (R := R) (s := s) (args := args) (own := M.1.cls) (host := host) (index := index) (y := M'.1) (rm := ma_rm d kc' ks') n hts hok.good rfl rfl rfl (hW.2.1 _ hlk) (hts _ hok.2.2.2.1) hok.2.1 (ma_room hok.2.2.2.2 hfr hlo)
  have hr := va_runVN (below := below) (p := p) (e := e) (meth := meth) (locs := locs) (cells := cells) (slots := slots) (rest := rest) (g := F0 m pc ls (As.reverse ++ .ref b :: rest)) ⟨hx, hb0, hml, hown, hts⟩ (ma_met hV hok.1 hlen A) ⟨cw, hts _ hin, hts _ hse⟩ hpre rfl hn hl.1 rfl (lv_room hrs) hd ⟨by omega, by omega⟩
  exact ma_go hr hS (fun v hp' H1 locs1 hq hR1 hS1 => K v hp' hq p e R s m args below meth c A Z H1 locs1 (cells + kc') (slots + ks') ls hC hX hA hE hR1 hS1 (by omega) (by omega) hl)
theorem rv_callS {kc' ks' kc1 ks1 n index : Nat} {As rest : List Value} (hV : ma_V l D ca ma_T M' d kc' ks' hp Q' 0 (lv_args 0 (As)) []) (hok : ma_Ok M' n) (hlk : Cond.methodLink M.1.cls index M'.1 ∈ ma_tbl) (hst : Cond.static M'.1 ∈ ma_tbl) (hst0 : st = As.reverse ++ rest) (hn : As.length = n) (hlen : (lg_sl (As)).length ≤ M'.2.2.1) (hrs : (rest.map fun v => v.category).sum ≤ 8) (hk : kc1 + kc' ≤ kc ∧ ks1 + ks' ≤ ks) (hd : decode M.2.1 pc = .ok (.invokestatic index, 3))
    (K : ∀ (v : Option Value) (hp' : hp_T), Q' v hp' → ma_V l D ca EX M (d + 1) kc1 ks1 hp' Q (pc + 3) lv (v.toList ++ rest)) : ma_V l D ca EX M (d + 1) kc ks hp Q pc lv st := by
  intro p e R s m args below meth c A Z H locs cells slots ls hC hX hA hE hR hS hc hs hl
  subst hst0
  obtain ⟨hx, hb0, hml, hown, hts, hW, hnm, hfr, hlo⟩ := id hC
  have hpre : PreS s H (va_Pc (As) (ma_B D ca A hp)) As := ⟨ma_blind, ma_pre hC hA hR hS⟩
  have hg : GoodIn ma_tbl (va_wsS M.1.cls index M'.1 (ma_ws M')) := fun w h => by
    unfold va_wsS at h
    rcases List.mem_append.mp h with h | h
    · simp only [List.mem_cons, List.not_mem_nil, or_false] at h
      rcases h with rfl | rfl | rfl
      · exact ⟨hlk, ma_tbl_good hlk⟩
      · exact ⟨hst, ma_tbl_good hst⟩
      · exact ⟨hok.2.2.2.1, ma_tbl_good hok.2.2.2.1⟩
    · exact hok.good w h
  have cw := va_cwS (R := R) (s := s) (args := args) (own := M.1.cls) (index := index) (y := M'.1) (rm := ma_rm d kc' ks') n hts hg rfl rfl rfl hok.2.1 (ma_room hok.2.2.2.2 hfr hlo)
  have hr := va_runS (below := below) (p := p) (e := e) (meth := meth) (locs := locs) (cells := cells) (slots := slots) (rest := rest) (g := F0 m pc ls (As.reverse ++ rest)) ⟨hx, hb0, hml, hown, hts⟩ (ma_met hV hok.1 hlen A) cw hpre rfl hn hl.1 rfl (lv_room hrs) hd ⟨by omega, by omega⟩
  exact ma_go hr hS (fun v hp' H1 locs1 hq hR1 hS1 => K v hp' hq p e R s m args below meth c A Z H1 locs1 (cells + kc') (slots + ks') ls hC hX hA hE hR1 hS1 (by omega) (by omega) hl)
theorem rv_callSN {kc' ks' kc1 ks1 n index : Nat} {As rest : List Value} (hV : ma_V l D ca ma_T M' d kc' ks' hp Q' 0 (lv_args 0 (As)) []) (hok : ma_Ok M' n) {host : String} (hlk : (M.1.cls, index, M'.1, host) ∈ ma_N) (hst : Cond.static M'.1 ∈ ma_tbl) (hst0 : st = As.reverse ++ rest) (hn : As.length = n) (hlen : (lg_sl (As)).length ≤ M'.2.2.1) (hrs : (rest.map fun v => v.category).sum ≤ 8) (hk : kc1 + kc' ≤ kc ∧ ks1 + ks' ≤ ks) (hd : decode M.2.1 pc = .ok (.invokestatic index, 3))
    (K : ∀ (v : Option Value) (hp' : hp_T), Q' v hp' → ma_V l D ca EX M (d + 1) kc1 ks1 hp' Q (pc + 3) lv (v.toList ++ rest)) : ma_V l D ca EX M (d + 1) kc ks hp Q pc lv st := by
  intro p e R s m args below meth c A Z H locs cells slots ls hC hX hA hE hR hS hc hs hl
  subst hst0
  obtain ⟨hx, hb0, hml, hown, hts, hW, hnm, hfr, hlo⟩ := id hC
  have hpre : PreS s H (va_Pc (As) (ma_B D ca A hp)) As := ⟨ma_blind, ma_pre hC hA hR hS⟩
  have cw := va_cnB (R := R) (s := s) (args := args) (own := M.1.cls) (host := host) (index := index) (y := M'.1) (rm := ma_rm d kc' ks') n hts hok.good rfl rfl rfl (hW.2.1 _ hlk) (hts _ hok.2.2.2.1) hok.2.1 (ma_room hok.2.2.2.2 hfr hlo)
  have hr := va_runSN (below := below) (p := p) (e := e) (meth := meth) (locs := locs) (cells := cells) (slots := slots) (rest := rest) (g := F0 m pc ls (As.reverse ++ rest)) ⟨hx, hb0, hml, hown, hts⟩ (ma_met hV hok.1 hlen A) ⟨cw, hts _ hst, trivial⟩ hpre rfl hn hl.1 rfl (lv_room hrs) hd ⟨by omega, by omega⟩
  exact ma_go hr hS (fun v hp' H1 locs1 hq hR1 hS1 => K v hp' hq p e R s m args below meth c A Z H1 locs1 (cells + kc') (slots + ks') ls hC hX hA hE hR1 hS1 (by omega) (by omega) hl)
theorem rv_callI {kc' ks' kc1 ks1 n index : Nat} {As rest : List Value} {b : Nat} (hV : ma_V l D ca ma_T M' d kc' ks' hp Q' 0 (lv_args 0 (.ref b :: As)) []) (hok : ma_Ok M' n) (hlk : Cond.methodLink M.1.cls index M'.1 ∈ ma_tbl) (hin : Cond.instanceMethod M'.1 ∈ ma_tbl) (hy1 : M'.1.name = "<init>") (hrn : M'.2.2.2 = none) (hst0 : st = As.reverse ++ .ref b :: rest) (hn : As.length = n) (hlen : (lg_sl (.ref b :: As)).length ≤ M'.2.2.1) (hrs : (rest.map fun v => v.category).sum ≤ 8) (hk : kc1 + kc' ≤ kc ∧ ks1 + ks' ≤ ks) (hd : decode M.2.1 pc = .ok (.invokespecial index, 3))
    (K : ∀ (v : Option Value) (hp' : hp_T), Q' v hp' → ma_V l D ca EX M (d + 1) kc1 ks1 hp' Q (pc + 3) lv (v.toList ++ rest)) : ma_V l D ca EX M (d + 1) kc ks hp Q pc lv st := by
  intro p e R s m args below meth c A Z H locs cells slots ls hC hX hA hE hR hS hc hs hl
  subst hst0
  obtain ⟨hx, hb0, hml, hown, hts, hW, hnm, hfr, hlo⟩ := id hC
  obtain ⟨y, bs, mL, rt⟩ := M'
  dsimp only at hrn
  subst hrn
  have hpre : PreS s H (va_Pc (.ref b :: As) (ma_B D ca A hp)) (.ref b :: As) := ⟨ma_blind, ma_pre hC hA hR hS⟩
  have cw := cwI (R := R) (s := s) (args := args) (own := M.1.cls) (index := index) (y := y) (rm := ma_rm d kc' ks') n hts hok.good rfl rfl rfl (hts _ hok.2.2.2.1) (hts _ hlk) (hts _ hin) hy1 hok.2.1 (ma_room hok.2.2.2.2 hfr hlo)
  have hr := va_runI (below := below) (p := p) (e := e) (meth := meth) (locs := locs) (cells := cells) (slots := slots) (rest := rest) (g := F0 m pc ls (As.reverse ++ .ref b :: rest)) ⟨hx, hb0, hml, hown, hts⟩ (ma_met hV hok.1 hlen A) cw hpre rfl hn hl.1 rfl (lv_room hrs) hd ⟨by omega, by omega⟩
  exact ma_go hr hS (fun v hp' H1 locs1 hq hR1 hS1 => K v hp' hq p e R s m args below meth c A Z H1 locs1 (cells + kc') (slots + ks') ls hC hX hA hE hR1 hS1 (by omega) (by omega) hl)
theorem rv_callIN {kc' ks' kc1 ks1 n index : Nat} {As rest : List Value} {b : Nat} (hV : ma_V l D ca ma_T M' d kc' ks' hp Q' 0 (lv_args 0 (.ref b :: As)) []) (hok : ma_Ok M' n) {host : String} (hlk : (M.1.cls, index, M'.1, host) ∈ ma_N) (hin : Cond.instanceMethod M'.1 ∈ ma_tbl) (hy1 : M'.1.name = "<init>") (hrn : M'.2.2.2 = none) (hst0 : st = As.reverse ++ .ref b :: rest) (hn : As.length = n) (hlen : (lg_sl (.ref b :: As)).length ≤ M'.2.2.1) (hrs : (rest.map fun v => v.category).sum ≤ 8) (hk : kc1 + kc' ≤ kc ∧ ks1 + ks' ≤ ks) (hd : decode M.2.1 pc = .ok (.invokespecial index, 3))
    (K : ∀ (v : Option Value) (hp' : hp_T), Q' v hp' → ma_V l D ca EX M (d + 1) kc1 ks1 hp' Q (pc + 3) lv (v.toList ++ rest)) : ma_V l D ca EX M (d + 1) kc ks hp Q pc lv st := by
  intro p e R s m args below meth c A Z H locs cells slots ls hC hX hA hE hR hS hc hs hl
  subst hst0
  obtain ⟨hx, hb0, hml, hown, hts, hW, hnm, hfr, hlo⟩ := id hC
  obtain ⟨y, bs, mL, rt⟩ := M'
  dsimp only at hrn
  subst hrn
  have hpre : PreS s H (va_Pc (.ref b :: As) (ma_B D ca A hp)) (.ref b :: As) := ⟨ma_blind, ma_pre hC hA hR hS⟩
  have cw := va_cnB (R := R) (s := s) (args := args) (own := M.1.cls) (host := host) (index := index) (y := y) (rm := ma_rm d kc' ks') n hts hok.good rfl rfl rfl (hW.2.1 _ hlk) (hts _ hok.2.2.2.1) hok.2.1 (ma_room hok.2.2.2.2 hfr hlo)
  have hr := va_runIN (below := below) (p := p) (e := e) (meth := meth) (locs := locs) (cells := cells) (slots := slots) (rest := rest) (g := F0 m pc ls (As.reverse ++ .ref b :: rest)) ⟨hx, hb0, hml, hown, hts⟩ (ma_met hV hok.1 hlen A) ⟨cw, hy1, hts _ hin⟩ hpre rfl hn hl.1 rfl (lv_room hrs) hd ⟨by omega, by omega⟩
  exact ma_go hr hS (fun v hp' H1 locs1 hq hR1 hS1 => K v hp' hq p e R s m args below meth c A Z H1 locs1 (cells + kc') (slots + ks') ls hC hX hA hE hR1 hS1 (by omega) (by omega) hl)
theorem rv_ki {d1 : Nat} {q : Int32 → hp_T → Prop} (K : ∀ (x : Int32) (hp' : hp_T), q x hp' → ma_V l D ca EX M d1 kc ks hp' Q pc lv (.int x :: st)) : ∀ (v : Option Value) (hp' : hp_T), ma_qi q v hp' → ma_V l D ca EX M d1 kc ks hp' Q pc lv (v.toList ++ st) := by
  rintro v hp' ⟨x, rfl, h⟩
  exact K x hp' h
theorem rv_kl {d1 : Nat} {q : Int64 → hp_T → Prop} (K : ∀ (x : Int64) (hp' : hp_T), q x hp' → ma_V l D ca EX M d1 kc ks hp' Q pc lv (.long x :: st)) : ∀ (v : Option Value) (hp' : hp_T), ma_ql q v hp' → ma_V l D ca EX M d1 kc ks hp' Q pc lv (v.toList ++ st) := by
  rintro v hp' ⟨x, rfl, h⟩
  exact K x hp' h
theorem rv_kv {d1 : Nat} {q : hp_T → Prop} (K : ∀ (hp' : hp_T), q hp' → ma_V l D ca EX M d1 kc ks hp' Q pc lv st) : ∀ (v : Option Value) (hp' : hp_T), ma_qv q v hp' → ma_V l D ca EX M d1 kc ks hp' Q pc lv (v.toList ++ st) := by
  rintro v hp' ⟨rfl, h⟩
  exact K hp' h
theorem rv_kr {d1 : Nat} {q : Nat → hp_T → Prop} (K : ∀ (x : Nat) (hp' : hp_T), q x hp' → ma_V l D ca EX M d1 kc ks hp' Q pc lv (.ref x :: st)) : ∀ (v : Option Value) (hp' : hp_T), ma_qr q v hp' → ma_V l D ca EX M d1 kc ks hp' Q pc lv (v.toList ++ st) := by
  rintro v hp' ⟨x, rfl, h⟩
  exact K x hp' h
theorem rv_kie {d1 : Nat} {r : Int32} (K : ma_V l D ca EX M d1 kc ks hp Q pc lv (.int r :: st)) : ∀ (v : Option Value) (hp' : hp_T), ma_qi (ma_eq r hp) v hp' → ma_V l D ca EX M d1 kc ks hp' Q pc lv (v.toList ++ st) := rv_ki (fun x hp' h => by
  obtain ⟨rfl, rfl⟩ := h
  exact K)
theorem rv_kle {d1 : Nat} {r : Int64} (K : ma_V l D ca EX M d1 kc ks hp Q pc lv (.long r :: st)) : ∀ (v : Option Value) (hp' : hp_T), ma_ql (ma_eq r hp) v hp' → ma_V l D ca EX M d1 kc ks hp' Q pc lv (v.toList ++ st) := rv_kl (fun x hp' h => by
  obtain ⟨rfl, rfl⟩ := h
  exact K)
theorem rv_mono {kc1 ks1 : Nat} (h1 : kc1 ≤ kc) (h2 : ks1 ≤ ks) (K : ma_V l D ca EX M d kc1 ks1 hp Q pc lv st) : ma_V l D ca EX M d kc ks hp Q pc lv st := by
  intro p e R s m args below meth c A Z H locs cells slots ls hC hX hA hE hR hS hc hs hl
  exact K p e R s m args below meth c A Z H locs cells slots ls hC hX hA hE hR hS (by omega) (by omega) hl
theorem rv_post (h : ∀ v hp', Q' v hp' → Q v hp') (K : ma_V l D ca EX M d kc ks hp Q' pc lv st) : ma_V l D ca EX M d kc ks hp Q pc lv st := by
  intro p e R s m args below meth c A Z H locs cells slots ls hC hX hA hE hR hS hc hs hl
  exact K p e R s m args below meth c A Z H locs cells slots ls hC hX hA (fun a b v hp' c1 d1 e1 f1 g1 h1 => hE a b v hp' c1 d1 e1 f1 g1 (h _ _ h1)) hR hS hc hs hl
theorem rv_lv {lv' : List (Nat × Value)} (ps : List Nat) (h : lv_pick lv ps = lv') (K : ma_V l D ca EX M d kc ks hp Q pc lv' st) : ma_V l D ca EX M d kc ks hp Q pc lv st := by
  intro p e R s m args below meth c A Z H locs cells slots ls hC hX hA hE hR hS hc hs hl
  exact K p e R s m args below meth c A Z H locs cells slots ls hC hX hA hE hR hS hc hs (lv_sub hl ps h)
theorem rv_st {st' : List Value} (h : st = st') (K : ma_V l D ca EX M d kc ks hp Q pc lv st') : ma_V l D ca EX M d kc ks hp Q pc lv st := h ▸ K
theorem rv_pc {pc' : Nat} (h : pc = pc') (K : ma_V l D ca EX M d kc ks hp Q pc' lv st) : ma_V l D ca EX M d kc ks hp Q pc lv st := h ▸ K

theorem rv_ireturn {x : Int32} {ty : FieldType} (hq : Q (some (.int x)) hp) (hd : decode M.2.1 pc = .ok (.ireturn, 1)) (hr : M.2.2.2 = some ty) (hn : narrow ty (.int x) = .int x) : ma_V l D ca EX M d kc ks hp Q pc lv [.int x] := by
  intro p e R s m args below meth c A Z H locs cells slots ls hC hX hA hE hR hS hc hs hl
  exact hE pc ls (some (.int x)) hp H locs cells slots (Or.inr (Or.inl ⟨x, ty, rfl, hd, hr, hn⟩)) hq hR hS (by omega) (by omega)
theorem rv_lreturn {x : Int64} (hq : Q (some (.long x)) hp) (hd : decode M.2.1 pc = .ok (.lreturn, 1)) (hr : M.2.2.2 = some .long) : ma_V l D ca EX M d kc ks hp Q pc lv [.long x] := by
  intro p e R s m args below meth c A Z H locs cells slots ls hC hX hA hE hR hS hc hs hl
  exact hE pc ls (some (.long x)) hp H locs cells slots (Or.inr (Or.inr (Or.inl ⟨x, rfl, hd, hr⟩))) hq hR hS (by omega) (by omega)
theorem rv_vreturn (hq : Q none hp) (hd : decode M.2.1 pc = .ok (.return_, 1)) (hr : M.2.2.2 = none) : ma_V l D ca EX M d kc ks hp Q pc lv [] := by
  intro p e R s m args below meth c A Z H locs cells slots ls hC hX hA hE hR hS hc hs hl
  exact hE pc ls none hp H locs cells slots (Or.inl ⟨rfl, hd, hr⟩) hq hR hS (by omega) (by omega)
theorem rv_areturn {x : Nat} {C : String} (hq : Q (some (.ref x)) hp) (hd : decode M.2.1 pc = .ok (.areturn, 1)) (hr : M.2.2.2 = some (.object C)) : ma_V l D ca EX M d kc ks hp Q pc lv [.ref x] := by
  intro p e R s m args below meth c A Z H locs cells slots ls hC hX hA hE hR hS hc hs hl
  exact hE pc ls (some (.ref x)) hp H locs cells slots (Or.inr (Or.inr (Or.inr ⟨.ref x, _, rfl, hd, hr, Or.inl ⟨_, rfl⟩, Or.inr ⟨_, rfl⟩⟩))) hq hR hS (by omega) (by omega)
theorem rv_iconst {n : Int} {v : Int32} (hd : decode M.2.1 pc = .ok (.iconst n, 1)) (hv : Int32.ofInt n = v) (K : ma_V l D ca EX M d kc ks hp Q (pc + 1) lv (.int v :: st)) : ma_V l D ca EX M d kc ks hp Q pc lv (st) := by
  intro p e R s m args below meth c A Z H locs cells slots ls hC hX hA hE hR hS hc hs hl
  exact lv_iconst hC.1 hC.2.1 hd hv (K p e R s m args below meth c A Z H locs cells slots ls hC hX hA hE hR hS hc hs hl)
theorem rv_bipush {n : Int} {v : Int32} (hd : decode M.2.1 pc = .ok (.bipush n, 2)) (hv : (Int8.ofInt n).toInt32 = v) (K : ma_V l D ca EX M d kc ks hp Q (pc + 2) lv (.int v :: st)) : ma_V l D ca EX M d kc ks hp Q pc lv (st) := by
  intro p e R s m args below meth c A Z H locs cells slots ls hC hX hA hE hR hS hc hs hl
  exact lv_bipush hC.1 hC.2.1 hd hv (K p e R s m args below meth c A Z H locs cells slots ls hC hX hA hE hR hS hc hs hl)
theorem rv_sipush {n : Int} {v : Int32} (hd : decode M.2.1 pc = .ok (.sipush n, 3)) (hv : (Int16.ofInt n).toInt32 = v) (K : ma_V l D ca EX M d kc ks hp Q (pc + 3) lv (.int v :: st)) : ma_V l D ca EX M d kc ks hp Q pc lv (st) := by
  intro p e R s m args below meth c A Z H locs cells slots ls hC hX hA hE hR hS hc hs hl
  exact lv_sipush hC.1 hC.2.1 hd hv (K p e R s m args below meth c A Z H locs cells slots ls hC hX hA hE hR hS hc hs hl)
theorem rv_lconst {n : Fin 2} {v : Int64} (hd : decode M.2.1 pc = .ok (.lconst n, 1)) (hv : Int64.ofNat (n : Nat) = v) (K : ma_V l D ca EX M d kc ks hp Q (pc + 1) lv (.long v :: st)) : ma_V l D ca EX M d kc ks hp Q pc lv (st) := by
  intro p e R s m args below meth c A Z H locs cells slots ls hC hX hA hE hR hS hc hs hl
  exact lv_lconst hC.1 hC.2.1 hd hv (K p e R s m args below meth c A Z H locs cells slots ls hC hX hA hE hR hS hc hs hl)
theorem rv_ldc {index : Nat} {v : Int32} (hd : decode M.2.1 pc = .ok (.ldc index, 2)) (hw : Cond.constant M.1.cls index v ∈ ma_tbl) (K : ma_V l D ca EX M d kc ks hp Q (pc + 2) lv (.int v :: st)) : ma_V l D ca EX M d kc ks hp Q pc lv (st) := by
  intro p e R s m args below meth c A Z H locs cells slots ls hC hX hA hE hR hS hc hs hl
  exact lv_ldc hC.1 hC.2.1 hC.2.2.2.1 (hC.2.2.2.2.1 _ hw) hd (K p e R s m args below meth c A Z H locs cells slots ls hC hX hA hE hR hS hc hs hl)
theorem rv_ldcw {index : Nat} {v : Int32} (hd : decode M.2.1 pc = .ok (.ldc_w index, 3)) (hw : Cond.constant M.1.cls index v ∈ ma_tbl) (K : ma_V l D ca EX M d kc ks hp Q (pc + 3) lv (.int v :: st)) : ma_V l D ca EX M d kc ks hp Q pc lv (st) := by
  intro p e R s m args below meth c A Z H locs cells slots ls hC hX hA hE hR hS hc hs hl
  exact lv_ldcw hC.1 hC.2.1 hC.2.2.2.1 (hC.2.2.2.2.1 _ hw) hd (K p e R s m args below meth c A Z H locs cells slots ls hC hX hA hE hR hS hc hs hl)
theorem rv_ldc2 {index : Nat} {v : Int64} (hd : decode M.2.1 pc = .ok (.ldc2_w index, 3)) (hw : Cond.constantLong M.1.cls index v ∈ ma_tbl) (K : ma_V l D ca EX M d kc ks hp Q (pc + 3) lv (.long v :: st)) : ma_V l D ca EX M d kc ks hp Q pc lv (st) := by
  intro p e R s m args below meth c A Z H locs cells slots ls hC hX hA hE hR hS hc hs hl
  exact lv_ldc2 hC.1 hC.2.1 hC.2.2.2.1 (hC.2.2.2.2.1 _ hw) hd (K p e R s m args below meth c A Z H locs cells slots ls hC hX hA hE hR hS hc hs hl)
theorem rv_iload_n {k : Fin 4} {i : Nat} {x : Int32} (hd : decode M.2.1 pc = .ok (.iload_n k, 1)) (hi : (k : Nat) = i) (j : Nat) (hv : lv[j]? = some (i, .int x)) (K : ma_V l D ca EX M d kc ks hp Q (pc + 1) lv (.int x :: st)) : ma_V l D ca EX M d kc ks hp Q pc lv (st) := by
  intro p e R s m args below meth c A Z H locs cells slots ls hC hX hA hE hR hS hc hs hl
  exact lv_iload_n hC.1 hC.2.1 hd hi (lv_at hl j hv) (K p e R s m args below meth c A Z H locs cells slots ls hC hX hA hE hR hS hc hs hl)
theorem rv_iload {i : Nat} {x : Int32} (hd : decode M.2.1 pc = .ok (.iload i, 2)) (j : Nat) (hv : lv[j]? = some (i, .int x)) (K : ma_V l D ca EX M d kc ks hp Q (pc + 2) lv (.int x :: st)) : ma_V l D ca EX M d kc ks hp Q pc lv (st) := by
  intro p e R s m args below meth c A Z H locs cells slots ls hC hX hA hE hR hS hc hs hl
  exact lv_iload hC.1 hC.2.1 hd (lv_at hl j hv) (K p e R s m args below meth c A Z H locs cells slots ls hC hX hA hE hR hS hc hs hl)
theorem rv_istore_n {k : Fin 4} {i : Nat} {x : Int32} {lv' : List (Nat × Value)} (hd : decode M.2.1 pc = .ok (.istore_n k, 1)) (hi : (k : Nat) = i) (hn : i < M.2.2.1) (hv : (i, Value.int x) :: lv.filter (fun q => !(q.1 == i) && !(q.1 + 1 == i && q.2.category == 2)) = lv') (K : ma_V l D ca EX M d kc ks hp Q (pc + 1) lv' st) : ma_V l D ca EX M d kc ks hp Q pc lv (.int x :: st) := by
  intro p e R s m args below meth c A Z H locs cells slots ls hC hX hA hE hR hS hc hs hl
  exact lv_istore_n hC.1 hC.2.1 hd hi hl hn hv (fun ls' hl' => K p e R s m args below meth c A Z H locs cells slots ls' hC hX hA hE hR hS hc hs hl')
theorem rv_istore {i : Nat} {x : Int32} {lv' : List (Nat × Value)} (hd : decode M.2.1 pc = .ok (.istore i, 2)) (hn : i < M.2.2.1) (hv : (i, Value.int x) :: lv.filter (fun q => !(q.1 == i) && !(q.1 + 1 == i && q.2.category == 2)) = lv') (K : ma_V l D ca EX M d kc ks hp Q (pc + 2) lv' st) : ma_V l D ca EX M d kc ks hp Q pc lv (.int x :: st) := by
  intro p e R s m args below meth c A Z H locs cells slots ls hC hX hA hE hR hS hc hs hl
  exact lv_istore hC.1 hC.2.1 hd hl hn hv (fun ls' hl' => K p e R s m args below meth c A Z H locs cells slots ls' hC hX hA hE hR hS hc hs hl')
theorem rv_lload_n {k : Fin 4} {i : Nat} {x : Int64} (hd : decode M.2.1 pc = .ok (.lload_n k, 1)) (hi : (k : Nat) = i) (j : Nat) (hv : lv[j]? = some (i, .long x)) (K : ma_V l D ca EX M d kc ks hp Q (pc + 1) lv (.long x :: st)) : ma_V l D ca EX M d kc ks hp Q pc lv (st) := by
  intro p e R s m args below meth c A Z H locs cells slots ls hC hX hA hE hR hS hc hs hl
  exact lv_lload_n hC.1 hC.2.1 hd hi (lv_at hl j hv) (K p e R s m args below meth c A Z H locs cells slots ls hC hX hA hE hR hS hc hs hl)
theorem rv_lload {i : Nat} {x : Int64} (hd : decode M.2.1 pc = .ok (.lload i, 2)) (j : Nat) (hv : lv[j]? = some (i, .long x)) (K : ma_V l D ca EX M d kc ks hp Q (pc + 2) lv (.long x :: st)) : ma_V l D ca EX M d kc ks hp Q pc lv (st) := by
  intro p e R s m args below meth c A Z H locs cells slots ls hC hX hA hE hR hS hc hs hl
  exact lv_lload hC.1 hC.2.1 hd (lv_at hl j hv) (K p e R s m args below meth c A Z H locs cells slots ls hC hX hA hE hR hS hc hs hl)
theorem rv_lstore_n {k : Fin 4} {i : Nat} {x : Int64} {lv' : List (Nat × Value)} (hd : decode M.2.1 pc = .ok (.lstore_n k, 1)) (hi : (k : Nat) = i) (hn : i + 1 < M.2.2.1) (hv : (i, Value.long x) :: lv.filter (fun q => !(q.1 == i) && (!(q.1 == i + 1) && !(q.1 + 1 == i && q.2.category == 2))) = lv') (K : ma_V l D ca EX M d kc ks hp Q (pc + 1) lv' st) : ma_V l D ca EX M d kc ks hp Q pc lv (.long x :: st) := by
  intro p e R s m args below meth c A Z H locs cells slots ls hC hX hA hE hR hS hc hs hl
  exact lv_lstore_n hC.1 hC.2.1 hd hi hl hn hv (fun ls' hl' => K p e R s m args below meth c A Z H locs cells slots ls' hC hX hA hE hR hS hc hs hl')
theorem rv_lstore {i : Nat} {x : Int64} {lv' : List (Nat × Value)} (hd : decode M.2.1 pc = .ok (.lstore i, 2)) (hn : i + 1 < M.2.2.1) (hv : (i, Value.long x) :: lv.filter (fun q => !(q.1 == i) && (!(q.1 == i + 1) && !(q.1 + 1 == i && q.2.category == 2))) = lv') (K : ma_V l D ca EX M d kc ks hp Q (pc + 2) lv' st) : ma_V l D ca EX M d kc ks hp Q pc lv (.long x :: st) := by
  intro p e R s m args below meth c A Z H locs cells slots ls hC hX hA hE hR hS hc hs hl
  exact lv_lstore hC.1 hC.2.1 hd hl hn hv (fun ls' hl' => K p e R s m args below meth c A Z H locs cells slots ls' hC hX hA hE hR hS hc hs hl')
theorem rv_aload_n {k : Fin 4} {i : Nat} {x : Nat} (hd : decode M.2.1 pc = .ok (.aload_n k, 1)) (hi : (k : Nat) = i) (j : Nat) (hv : lv[j]? = some (i, .ref x)) (K : ma_V l D ca EX M d kc ks hp Q (pc + 1) lv (.ref x :: st)) : ma_V l D ca EX M d kc ks hp Q pc lv (st) := by
  intro p e R s m args below meth c A Z H locs cells slots ls hC hX hA hE hR hS hc hs hl
  exact lv_aload_n hC.1 hC.2.1 hd hi (lv_at hl j hv) (K p e R s m args below meth c A Z H locs cells slots ls hC hX hA hE hR hS hc hs hl)
theorem rv_aload {i : Nat} {x : Nat} (hd : decode M.2.1 pc = .ok (.aload i, 2)) (j : Nat) (hv : lv[j]? = some (i, .ref x)) (K : ma_V l D ca EX M d kc ks hp Q (pc + 2) lv (.ref x :: st)) : ma_V l D ca EX M d kc ks hp Q pc lv (st) := by
  intro p e R s m args below meth c A Z H locs cells slots ls hC hX hA hE hR hS hc hs hl
  exact lv_aload hC.1 hC.2.1 hd (lv_at hl j hv) (K p e R s m args below meth c A Z H locs cells slots ls hC hX hA hE hR hS hc hs hl)
theorem rv_astore_n {k : Fin 4} {i : Nat} {x : Nat} {lv' : List (Nat × Value)} (hd : decode M.2.1 pc = .ok (.astore_n k, 1)) (hi : (k : Nat) = i) (hn : i < M.2.2.1) (hv : (i, Value.ref x) :: lv.filter (fun q => !(q.1 == i) && !(q.1 + 1 == i && q.2.category == 2)) = lv') (K : ma_V l D ca EX M d kc ks hp Q (pc + 1) lv' st) : ma_V l D ca EX M d kc ks hp Q pc lv (.ref x :: st) := by
  intro p e R s m args below meth c A Z H locs cells slots ls hC hX hA hE hR hS hc hs hl
  exact lv_astore_n hC.1 hC.2.1 hd hi hl hn hv (fun ls' hl' => K p e R s m args below meth c A Z H locs cells slots ls' hC hX hA hE hR hS hc hs hl')
theorem rv_astore {i : Nat} {x : Nat} {lv' : List (Nat × Value)} (hd : decode M.2.1 pc = .ok (.astore i, 2)) (hn : i < M.2.2.1) (hv : (i, Value.ref x) :: lv.filter (fun q => !(q.1 == i) && !(q.1 + 1 == i && q.2.category == 2)) = lv') (K : ma_V l D ca EX M d kc ks hp Q (pc + 2) lv' st) : ma_V l D ca EX M d kc ks hp Q pc lv (.ref x :: st) := by
  intro p e R s m args below meth c A Z H locs cells slots ls hC hX hA hE hR hS hc hs hl
  exact lv_astore hC.1 hC.2.1 hd hl hn hv (fun ls' hl' => K p e R s m args below meth c A Z H locs cells slots ls' hC hX hA hE hR hS hc hs hl')
theorem rv_iinc {i k : Nat} {n : Int} {x v : Int32} {lv' : List (Nat × Value)} (hd : decode M.2.1 pc = .ok (.iinc i n, 3)) (hk : lv[k]? = some (i, .int x)) (hv : x + Int32.ofInt n = v) (hn : i < M.2.2.1) (hl' : (i, Value.int v) :: lv.filter (fun q => !(q.1 == i) && !(q.1 + 1 == i && q.2.category == 2)) = lv') (K : ma_V l D ca EX M d kc ks hp Q (pc + 3) lv' st) : ma_V l D ca EX M d kc ks hp Q pc lv st := by
  intro p e R s m args below meth c A Z H locs cells slots ls hC hX hA hE hR hS hc hs hl
  exact lv_iinc hC.1 hC.2.1 hd hl hk hv hn hl' (fun ls' hl'' => K p e R s m args below meth c A Z H locs cells slots ls' hC hX hA hE hR hS hc hs hl'')
theorem rv_iadd {x y : Int32} (hd : decode M.2.1 pc = .ok (.iadd, 1))  (K : ma_V l D ca EX M d kc ks hp Q (pc + 1) lv (.int (x + y) :: st)) : ma_V l D ca EX M d kc ks hp Q pc lv (.int y :: .int x :: st) := by
  intro p e R s m args below meth c A Z H locs cells slots ls hC hX hA hE hR hS hc hs hl
  exact lv_iadd hC.1 hC.2.1 hd (K p e R s m args below meth c A Z H locs cells slots ls hC hX hA hE hR hS hc hs hl)
theorem rv_isub {x y : Int32} (hd : decode M.2.1 pc = .ok (.isub, 1))  (K : ma_V l D ca EX M d kc ks hp Q (pc + 1) lv (.int (x - y) :: st)) : ma_V l D ca EX M d kc ks hp Q pc lv (.int y :: .int x :: st) := by
  intro p e R s m args below meth c A Z H locs cells slots ls hC hX hA hE hR hS hc hs hl
  exact lv_isub hC.1 hC.2.1 hd (K p e R s m args below meth c A Z H locs cells slots ls hC hX hA hE hR hS hc hs hl)
theorem rv_imul {x y : Int32} (hd : decode M.2.1 pc = .ok (.imul, 1))  (K : ma_V l D ca EX M d kc ks hp Q (pc + 1) lv (.int (x * y) :: st)) : ma_V l D ca EX M d kc ks hp Q pc lv (.int y :: .int x :: st) := by
  intro p e R s m args below meth c A Z H locs cells slots ls hC hX hA hE hR hS hc hs hl
  exact lv_imul hC.1 hC.2.1 hd (K p e R s m args below meth c A Z H locs cells slots ls hC hX hA hE hR hS hc hs hl)
theorem rv_iand {x y : Int32} (hd : decode M.2.1 pc = .ok (.iand, 1))  (K : ma_V l D ca EX M d kc ks hp Q (pc + 1) lv (.int (x &&& y) :: st)) : ma_V l D ca EX M d kc ks hp Q pc lv (.int y :: .int x :: st) := by
  intro p e R s m args below meth c A Z H locs cells slots ls hC hX hA hE hR hS hc hs hl
  exact lv_iand hC.1 hC.2.1 hd (K p e R s m args below meth c A Z H locs cells slots ls hC hX hA hE hR hS hc hs hl)
theorem rv_ior {x y : Int32} (hd : decode M.2.1 pc = .ok (.ior, 1))  (K : ma_V l D ca EX M d kc ks hp Q (pc + 1) lv (.int (x ||| y) :: st)) : ma_V l D ca EX M d kc ks hp Q pc lv (.int y :: .int x :: st) := by
  intro p e R s m args below meth c A Z H locs cells slots ls hC hX hA hE hR hS hc hs hl
  exact lv_ior hC.1 hC.2.1 hd (K p e R s m args below meth c A Z H locs cells slots ls hC hX hA hE hR hS hc hs hl)
theorem rv_ixor {x y : Int32} (hd : decode M.2.1 pc = .ok (.ixor, 1))  (K : ma_V l D ca EX M d kc ks hp Q (pc + 1) lv (.int (x ^^^ y) :: st)) : ma_V l D ca EX M d kc ks hp Q pc lv (.int y :: .int x :: st) := by
  intro p e R s m args below meth c A Z H locs cells slots ls hC hX hA hE hR hS hc hs hl
  exact lv_ixor hC.1 hC.2.1 hd (K p e R s m args below meth c A Z H locs cells slots ls hC hX hA hE hR hS hc hs hl)
theorem rv_ishl {x y : Int32} (hd : decode M.2.1 pc = .ok (.ishl, 1))  (K : ma_V l D ca EX M d kc ks hp Q (pc + 1) lv (.int (x <<< (y &&& 31)) :: st)) : ma_V l D ca EX M d kc ks hp Q pc lv (.int y :: .int x :: st) := by
  intro p e R s m args below meth c A Z H locs cells slots ls hC hX hA hE hR hS hc hs hl
  exact lv_ishl hC.1 hC.2.1 hd (K p e R s m args below meth c A Z H locs cells slots ls hC hX hA hE hR hS hc hs hl)
theorem rv_ishr {x y : Int32} (hd : decode M.2.1 pc = .ok (.ishr, 1))  (K : ma_V l D ca EX M d kc ks hp Q (pc + 1) lv (.int (x >>> (y &&& 31)) :: st)) : ma_V l D ca EX M d kc ks hp Q pc lv (.int y :: .int x :: st) := by
  intro p e R s m args below meth c A Z H locs cells slots ls hC hX hA hE hR hS hc hs hl
  exact lv_ishr hC.1 hC.2.1 hd (K p e R s m args below meth c A Z H locs cells slots ls hC hX hA hE hR hS hc hs hl)
theorem rv_idiv {x y : Int32} (hd : decode M.2.1 pc = .ok (.idiv, 1)) (hne : ¬ y = 0) (K : ma_V l D ca EX M d kc ks hp Q (pc + 1) lv (.int (x / y) :: st)) : ma_V l D ca EX M d kc ks hp Q pc lv (.int y :: .int x :: st) := by
  intro p e R s m args below meth c A Z H locs cells slots ls hC hX hA hE hR hS hc hs hl
  exact lv_idiv hC.1 hC.2.1 hd hne (K p e R s m args below meth c A Z H locs cells slots ls hC hX hA hE hR hS hc hs hl)
theorem rv_irem {x y : Int32} (hd : decode M.2.1 pc = .ok (.irem, 1)) (hne : ¬ y = 0) (K : ma_V l D ca EX M d kc ks hp Q (pc + 1) lv (.int (x - x / y * y) :: st)) : ma_V l D ca EX M d kc ks hp Q pc lv (.int y :: .int x :: st) := by
  intro p e R s m args below meth c A Z H locs cells slots ls hC hX hA hE hR hS hc hs hl
  exact lv_irem hC.1 hC.2.1 hd hne (K p e R s m args below meth c A Z H locs cells slots ls hC hX hA hE hR hS hc hs hl)
theorem rv_ineg {x : Int32} (hd : decode M.2.1 pc = .ok (.ineg, 1))  (K : ma_V l D ca EX M d kc ks hp Q (pc + 1) lv (.int (-x) :: st)) : ma_V l D ca EX M d kc ks hp Q pc lv (.int x :: st) := by
  intro p e R s m args below meth c A Z H locs cells slots ls hC hX hA hE hR hS hc hs hl
  exact lv_ineg hC.1 hC.2.1 hd (K p e R s m args below meth c A Z H locs cells slots ls hC hX hA hE hR hS hc hs hl)
theorem rv_ladd {x y : Int64} (hd : decode M.2.1 pc = .ok (.ladd, 1))  (K : ma_V l D ca EX M d kc ks hp Q (pc + 1) lv (.long (x + y) :: st)) : ma_V l D ca EX M d kc ks hp Q pc lv (.long y :: .long x :: st) := by
  intro p e R s m args below meth c A Z H locs cells slots ls hC hX hA hE hR hS hc hs hl
  exact lv_ladd hC.1 hC.2.1 hd (K p e R s m args below meth c A Z H locs cells slots ls hC hX hA hE hR hS hc hs hl)
theorem rv_lsub {x y : Int64} (hd : decode M.2.1 pc = .ok (.lsub, 1))  (K : ma_V l D ca EX M d kc ks hp Q (pc + 1) lv (.long (x - y) :: st)) : ma_V l D ca EX M d kc ks hp Q pc lv (.long y :: .long x :: st) := by
  intro p e R s m args below meth c A Z H locs cells slots ls hC hX hA hE hR hS hc hs hl
  exact lv_lsub hC.1 hC.2.1 hd (K p e R s m args below meth c A Z H locs cells slots ls hC hX hA hE hR hS hc hs hl)
theorem rv_lmul {x y : Int64} (hd : decode M.2.1 pc = .ok (.lmul, 1))  (K : ma_V l D ca EX M d kc ks hp Q (pc + 1) lv (.long (x * y) :: st)) : ma_V l D ca EX M d kc ks hp Q pc lv (.long y :: .long x :: st) := by
  intro p e R s m args below meth c A Z H locs cells slots ls hC hX hA hE hR hS hc hs hl
  exact lv_lmul hC.1 hC.2.1 hd (K p e R s m args below meth c A Z H locs cells slots ls hC hX hA hE hR hS hc hs hl)
theorem rv_land {x y : Int64} (hd : decode M.2.1 pc = .ok (.land, 1))  (K : ma_V l D ca EX M d kc ks hp Q (pc + 1) lv (.long (x &&& y) :: st)) : ma_V l D ca EX M d kc ks hp Q pc lv (.long y :: .long x :: st) := by
  intro p e R s m args below meth c A Z H locs cells slots ls hC hX hA hE hR hS hc hs hl
  exact lv_land hC.1 hC.2.1 hd (K p e R s m args below meth c A Z H locs cells slots ls hC hX hA hE hR hS hc hs hl)
theorem rv_lor {x y : Int64} (hd : decode M.2.1 pc = .ok (.lor, 1))  (K : ma_V l D ca EX M d kc ks hp Q (pc + 1) lv (.long (x ||| y) :: st)) : ma_V l D ca EX M d kc ks hp Q pc lv (.long y :: .long x :: st) := by
  intro p e R s m args below meth c A Z H locs cells slots ls hC hX hA hE hR hS hc hs hl
  exact lv_lor hC.1 hC.2.1 hd (K p e R s m args below meth c A Z H locs cells slots ls hC hX hA hE hR hS hc hs hl)
theorem rv_lxor {x y : Int64} (hd : decode M.2.1 pc = .ok (.lxor, 1))  (K : ma_V l D ca EX M d kc ks hp Q (pc + 1) lv (.long (x ^^^ y) :: st)) : ma_V l D ca EX M d kc ks hp Q pc lv (.long y :: .long x :: st) := by
  intro p e R s m args below meth c A Z H locs cells slots ls hC hX hA hE hR hS hc hs hl
  exact lv_lxor hC.1 hC.2.1 hd (K p e R s m args below meth c A Z H locs cells slots ls hC hX hA hE hR hS hc hs hl)
theorem rv_ldiv {x y : Int64} (hd : decode M.2.1 pc = .ok (.ldiv, 1)) (hne : ¬ y = 0) (K : ma_V l D ca EX M d kc ks hp Q (pc + 1) lv (.long (x / y) :: st)) : ma_V l D ca EX M d kc ks hp Q pc lv (.long y :: .long x :: st) := by
  intro p e R s m args below meth c A Z H locs cells slots ls hC hX hA hE hR hS hc hs hl
  exact lv_ldiv hC.1 hC.2.1 hd hne (K p e R s m args below meth c A Z H locs cells slots ls hC hX hA hE hR hS hc hs hl)
theorem rv_lrem {x y : Int64} (hd : decode M.2.1 pc = .ok (.lrem, 1)) (hne : ¬ y = 0) (K : ma_V l D ca EX M d kc ks hp Q (pc + 1) lv (.long (x - x / y * y) :: st)) : ma_V l D ca EX M d kc ks hp Q pc lv (.long y :: .long x :: st) := by
  intro p e R s m args below meth c A Z H locs cells slots ls hC hX hA hE hR hS hc hs hl
  exact lv_lrem hC.1 hC.2.1 hd hne (K p e R s m args below meth c A Z H locs cells slots ls hC hX hA hE hR hS hc hs hl)
theorem rv_lneg {x : Int64} (hd : decode M.2.1 pc = .ok (.lneg, 1))  (K : ma_V l D ca EX M d kc ks hp Q (pc + 1) lv (.long (-x) :: st)) : ma_V l D ca EX M d kc ks hp Q pc lv (.long x :: st) := by
  intro p e R s m args below meth c A Z H locs cells slots ls hC hX hA hE hR hS hc hs hl
  exact lv_lneg hC.1 hC.2.1 hd (K p e R s m args below meth c A Z H locs cells slots ls hC hX hA hE hR hS hc hs hl)
theorem rv_i2l {x : Int32} (hd : decode M.2.1 pc = .ok (.i2l, 1))  (K : ma_V l D ca EX M d kc ks hp Q (pc + 1) lv (.long x.toInt64 :: st)) : ma_V l D ca EX M d kc ks hp Q pc lv (.int x :: st) := by
  intro p e R s m args below meth c A Z H locs cells slots ls hC hX hA hE hR hS hc hs hl
  exact lv_i2l hC.1 hC.2.1 hd rfl (K p e R s m args below meth c A Z H locs cells slots ls hC hX hA hE hR hS hc hs hl)
theorem rv_l2i {x : Int64} (hd : decode M.2.1 pc = .ok (.l2i, 1))  (K : ma_V l D ca EX M d kc ks hp Q (pc + 1) lv (.int x.toInt32 :: st)) : ma_V l D ca EX M d kc ks hp Q pc lv (.long x :: st) := by
  intro p e R s m args below meth c A Z H locs cells slots ls hC hX hA hE hR hS hc hs hl
  exact lv_l2i hC.1 hC.2.1 hd rfl (K p e R s m args below meth c A Z H locs cells slots ls hC hX hA hE hR hS hc hs hl)
theorem rv_iushr {x y : Int32} (hd : decode M.2.1 pc = .ok (.iushr, 1))  (K : ma_V l D ca EX M d kc ks hp Q (pc + 1) lv (.int (x.toUInt32 >>> (y.toUInt32 &&& Int32.toUInt32 31)).toInt32 :: st)) : ma_V l D ca EX M d kc ks hp Q pc lv (.int y :: .int x :: st) := by
  intro p e R s m args below meth c A Z H locs cells slots ls hC hX hA hE hR hS hc hs hl
  exact lv_iushr hC.1 hC.2.1 hd rfl (K p e R s m args below meth c A Z H locs cells slots ls hC hX hA hE hR hS hc hs hl)
theorem rv_lushr {x : Int64} {y : Int32} (hd : decode M.2.1 pc = .ok (.lushr, 1))  (K : ma_V l D ca EX M d kc ks hp Q (pc + 1) lv (.long (x.toUInt64 >>> (y.toInt64.toUInt64 &&& Int64.toUInt64 63)).toInt64 :: st)) : ma_V l D ca EX M d kc ks hp Q pc lv (.int y :: .long x :: st) := by
  intro p e R s m args below meth c A Z H locs cells slots ls hC hX hA hE hR hS hc hs hl
  exact lv_lushr hC.1 hC.2.1 hd rfl (K p e R s m args below meth c A Z H locs cells slots ls hC hX hA hE hR hS hc hs hl)
theorem rv_lshl {x : Int64} {y : Int32} (hd : decode M.2.1 pc = .ok (.lshl, 1))  (K : ma_V l D ca EX M d kc ks hp Q (pc + 1) lv (.long (x <<< (y.toInt64 &&& 63)) :: st)) : ma_V l D ca EX M d kc ks hp Q pc lv (.int y :: .long x :: st) := by
  intro p e R s m args below meth c A Z H locs cells slots ls hC hX hA hE hR hS hc hs hl
  exact lv_lshl hC.1 hC.2.1 hd rfl (K p e R s m args below meth c A Z H locs cells slots ls hC hX hA hE hR hS hc hs hl)
theorem rv_lshr {x : Int64} {y : Int32} (hd : decode M.2.1 pc = .ok (.lshr, 1))  (K : ma_V l D ca EX M d kc ks hp Q (pc + 1) lv (.long (x >>> (y.toInt64 &&& 63)) :: st)) : ma_V l D ca EX M d kc ks hp Q pc lv (.int y :: .long x :: st) := by
  intro p e R s m args below meth c A Z H locs cells slots ls hC hX hA hE hR hS hc hs hl
  exact lv_lshr hC.1 hC.2.1 hd rfl (K p e R s m args below meth c A Z H locs cells slots ls hC hX hA hE hR hS hc hs hl)
theorem rv_lcmp {x y : Int64} (hd : decode M.2.1 pc = .ok (.lcmp, 1))  (K : ma_V l D ca EX M d kc ks hp Q (pc + 1) lv (.int (lg_cmp x y) :: st)) : ma_V l D ca EX M d kc ks hp Q pc lv (.long y :: .long x :: st) := by
  intro p e R s m args below meth c A Z H locs cells slots ls hC hX hA hE hR hS hc hs hl
  exact W.lcmp hC.1 hC.2.1 hd (K p e R s m args below meth c A Z H locs cells slots ls hC hX hA hE hR hS hc hs hl)
theorem rv_dup {va : Value} (hd : decode M.2.1 pc = .ok (.dup, 1)) (h1 : va.category = 1) (K : ma_V l D ca EX M d kc ks hp Q (pc + 1) lv (va :: va :: st)) : ma_V l D ca EX M d kc ks hp Q pc lv (va :: st) := by
  intro p e R s m args below meth c A Z H locs cells slots ls hC hX hA hE hR hS hc hs hl
  exact lv_dup hC.1 hC.2.1 hd h1 (K p e R s m args below meth c A Z H locs cells slots ls hC hX hA hE hR hS hc hs hl)
theorem rv_pop {va : Value} (hd : decode M.2.1 pc = .ok (.pop, 1)) (h1 : va.category = 1) (K : ma_V l D ca EX M d kc ks hp Q (pc + 1) lv (st)) : ma_V l D ca EX M d kc ks hp Q pc lv (va :: st) := by
  intro p e R s m args below meth c A Z H locs cells slots ls hC hX hA hE hR hS hc hs hl
  exact lv_pop hC.1 hC.2.1 hd h1 (K p e R s m args below meth c A Z H locs cells slots ls hC hX hA hE hR hS hc hs hl)
theorem rv_dup_x1 {va vb : Value} (hd : decode M.2.1 pc = .ok (.dup_x1, 1)) (h1 : va.category = 1) (h2 : vb.category = 1) (K : ma_V l D ca EX M d kc ks hp Q (pc + 1) lv (va :: vb :: va :: st)) : ma_V l D ca EX M d kc ks hp Q pc lv (va :: vb :: st) := by
  intro p e R s m args below meth c A Z H locs cells slots ls hC hX hA hE hR hS hc hs hl
  exact lv_dup_x1 hC.1 hC.2.1 hd h1 h2 (K p e R s m args below meth c A Z H locs cells slots ls hC hX hA hE hR hS hc hs hl)
theorem rv_dup_x2 {va vb vd : Value} (hd : decode M.2.1 pc = .ok (.dup_x2, 1)) (h1 : va.category = 1) (h2 : vb.category = 1) (h3 : vd.category = 1) (K : ma_V l D ca EX M d kc ks hp Q (pc + 1) lv (va :: vb :: vd :: va :: st)) : ma_V l D ca EX M d kc ks hp Q pc lv (va :: vb :: vd :: st) := by
  intro p e R s m args below meth c A Z H locs cells slots ls hC hX hA hE hR hS hc hs hl
  exact lv_dup_x2 hC.1 hC.2.1 hd h1 h2 h3 (K p e R s m args below meth c A Z H locs cells slots ls hC hX hA hE hR hS hc hs hl)
theorem rv_dup2_11 {va vb : Value} (hd : decode M.2.1 pc = .ok (.dup2, 1)) (h1 : va.category = 1) (h2 : vb.category = 1) (K : ma_V l D ca EX M d kc ks hp Q (pc + 1) lv (va :: vb :: va :: vb :: st)) : ma_V l D ca EX M d kc ks hp Q pc lv (va :: vb :: st) := by
  intro p e R s m args below meth c A Z H locs cells slots ls hC hX hA hE hR hS hc hs hl
  exact lv_dup2_11 hC.1 hC.2.1 hd h1 h2 (K p e R s m args below meth c A Z H locs cells slots ls hC hX hA hE hR hS hc hs hl)
theorem rv_dup2_2 {va : Value} (hd : decode M.2.1 pc = .ok (.dup2, 1)) (h1 : va.category = 2) (K : ma_V l D ca EX M d kc ks hp Q (pc + 1) lv (va :: va :: st)) : ma_V l D ca EX M d kc ks hp Q pc lv (va :: st) := by
  intro p e R s m args below meth c A Z H locs cells slots ls hC hX hA hE hR hS hc hs hl
  exact lv_dup2_2 hC.1 hC.2.1 hd h1 (K p e R s m args below meth c A Z H locs cells slots ls hC hX hA hE hR hS hc hs hl)
theorem rv_pop2_2 {va : Value} (hd : decode M.2.1 pc = .ok (.pop2, 1)) (h1 : va.category = 2) (K : ma_V l D ca EX M d kc ks hp Q (pc + 1) lv (st)) : ma_V l D ca EX M d kc ks hp Q pc lv (va :: st) := by
  intro p e R s m args below meth c A Z H locs cells slots ls hC hX hA hE hR hS hc hs hl
  exact lv_pop2_2 hC.1 hC.2.1 hd h1 (K p e R s m args below meth c A Z H locs cells slots ls hC hX hA hE hR hS hc hs hl)
theorem rv_dup2_x1_2 {va vb : Value} (hd : decode M.2.1 pc = .ok (.dup2_x1, 1)) (h1 : va.category = 2) (h2 : vb.category = 1) (K : ma_V l D ca EX M d kc ks hp Q (pc + 1) lv (va :: vb :: va :: st)) : ma_V l D ca EX M d kc ks hp Q pc lv (va :: vb :: st) := by
  intro p e R s m args below meth c A Z H locs cells slots ls hC hX hA hE hR hS hc hs hl
  exact lv_dup2_x1_2 hC.1 hC.2.1 hd h1 h2 (K p e R s m args below meth c A Z H locs cells slots ls hC hX hA hE hR hS hc hs hl)
theorem rv_dup2_x2_2 {va vb vd : Value} (hd : decode M.2.1 pc = .ok (.dup2_x2, 1)) (h1 : va.category = 2) (h2 : vb.category = 1) (h3 : vd.category = 1) (K : ma_V l D ca EX M d kc ks hp Q (pc + 1) lv (va :: vb :: vd :: va :: st)) : ma_V l D ca EX M d kc ks hp Q pc lv (va :: vb :: vd :: st) := by
  intro p e R s m args below meth c A Z H locs cells slots ls hC hX hA hE hR hS hc hs hl
  exact lv_dup2_x2_2 hC.1 hC.2.1 hd h1 h2 h3 (K p e R s m args below meth c A Z H locs cells slots ls hC hX hA hE hR hS hc hs hl)
theorem rv_null  (hd : decode M.2.1 pc = .ok (.aconst_null, 1))  (K : ma_V l D ca EX M d kc ks hp Q (pc + 1) lv (.null :: st)) : ma_V l D ca EX M d kc ks hp Q pc lv (st) := by
  intro p e R s m args below meth c A Z H locs cells slots ls hC hX hA hE hR hS hc hs hl
  exact lv_null hC.1 hC.2.1 hd (K p e R s m args below meth c A Z H locs cells slots ls hC hX hA hE hR hS hc hs hl)
theorem rv_if_eq {x : Int32} {off : Int} {tgt : Nat} (hd : decode M.2.1 pc = .ok (.ifCond .eq off, 3)) (ht : (pc : Int) + off = (tgt : Int)) (K1 : x = 0 → ma_V l D ca EX M d kc ks hp Q tgt lv st) (K2 : ¬ x = 0 → ma_V l D ca EX M d kc ks hp Q (pc + 3) lv st) : ma_V l D ca EX M d kc ks hp Q pc lv (.int x :: st) := by
  intro p e R s m args below meth c A Z H locs cells slots ls hC hX hA hE hR hS hc hs hl
  exact lv_if_eq hC.1 hC.2.1 hd ht (fun h => K1 h p e R s m args below meth c A Z H locs cells slots ls hC hX hA hE hR hS hc hs hl) (fun h => K2 h p e R s m args below meth c A Z H locs cells slots ls hC hX hA hE hR hS hc hs hl)
theorem rv_icmp_eq {x y : Int32} {off : Int} {tgt : Nat} (hd : decode M.2.1 pc = .ok (.if_icmp .eq off, 3)) (ht : (pc : Int) + off = (tgt : Int)) (K1 : x = y → ma_V l D ca EX M d kc ks hp Q tgt lv st) (K2 : ¬ x = y → ma_V l D ca EX M d kc ks hp Q (pc + 3) lv st) : ma_V l D ca EX M d kc ks hp Q pc lv (.int y :: .int x :: st) := by
  intro p e R s m args below meth c A Z H locs cells slots ls hC hX hA hE hR hS hc hs hl
  exact lv_icmp_eq hC.1 hC.2.1 hd ht (fun h => K1 h p e R s m args below meth c A Z H locs cells slots ls hC hX hA hE hR hS hc hs hl) (fun h => K2 h p e R s m args below meth c A Z H locs cells slots ls hC hX hA hE hR hS hc hs hl)
theorem rv_if_ne {x : Int32} {off : Int} {tgt : Nat} (hd : decode M.2.1 pc = .ok (.ifCond .ne off, 3)) (ht : (pc : Int) + off = (tgt : Int)) (K1 : ¬ x = 0 → ma_V l D ca EX M d kc ks hp Q tgt lv st) (K2 : x = 0 → ma_V l D ca EX M d kc ks hp Q (pc + 3) lv st) : ma_V l D ca EX M d kc ks hp Q pc lv (.int x :: st) := by
  intro p e R s m args below meth c A Z H locs cells slots ls hC hX hA hE hR hS hc hs hl
  exact lv_if_ne hC.1 hC.2.1 hd ht (fun h => K1 h p e R s m args below meth c A Z H locs cells slots ls hC hX hA hE hR hS hc hs hl) (fun h => K2 h p e R s m args below meth c A Z H locs cells slots ls hC hX hA hE hR hS hc hs hl)
theorem rv_icmp_ne {x y : Int32} {off : Int} {tgt : Nat} (hd : decode M.2.1 pc = .ok (.if_icmp .ne off, 3)) (ht : (pc : Int) + off = (tgt : Int)) (K1 : ¬ x = y → ma_V l D ca EX M d kc ks hp Q tgt lv st) (K2 : x = y → ma_V l D ca EX M d kc ks hp Q (pc + 3) lv st) : ma_V l D ca EX M d kc ks hp Q pc lv (.int y :: .int x :: st) := by
  intro p e R s m args below meth c A Z H locs cells slots ls hC hX hA hE hR hS hc hs hl
  exact lv_icmp_ne hC.1 hC.2.1 hd ht (fun h => K1 h p e R s m args below meth c A Z H locs cells slots ls hC hX hA hE hR hS hc hs hl) (fun h => K2 h p e R s m args below meth c A Z H locs cells slots ls hC hX hA hE hR hS hc hs hl)
theorem rv_if_lt {x : Int32} {off : Int} {tgt : Nat} (hd : decode M.2.1 pc = .ok (.ifCond .lt off, 3)) (ht : (pc : Int) + off = (tgt : Int)) (K1 : x < 0 → ma_V l D ca EX M d kc ks hp Q tgt lv st) (K2 : ¬ x < 0 → ma_V l D ca EX M d kc ks hp Q (pc + 3) lv st) : ma_V l D ca EX M d kc ks hp Q pc lv (.int x :: st) := by
  intro p e R s m args below meth c A Z H locs cells slots ls hC hX hA hE hR hS hc hs hl
  exact lv_if_lt hC.1 hC.2.1 hd ht (fun h => K1 h p e R s m args below meth c A Z H locs cells slots ls hC hX hA hE hR hS hc hs hl) (fun h => K2 h p e R s m args below meth c A Z H locs cells slots ls hC hX hA hE hR hS hc hs hl)
theorem rv_icmp_lt {x y : Int32} {off : Int} {tgt : Nat} (hd : decode M.2.1 pc = .ok (.if_icmp .lt off, 3)) (ht : (pc : Int) + off = (tgt : Int)) (K1 : x < y → ma_V l D ca EX M d kc ks hp Q tgt lv st) (K2 : ¬ x < y → ma_V l D ca EX M d kc ks hp Q (pc + 3) lv st) : ma_V l D ca EX M d kc ks hp Q pc lv (.int y :: .int x :: st) := by
  intro p e R s m args below meth c A Z H locs cells slots ls hC hX hA hE hR hS hc hs hl
  exact lv_icmp_lt hC.1 hC.2.1 hd ht (fun h => K1 h p e R s m args below meth c A Z H locs cells slots ls hC hX hA hE hR hS hc hs hl) (fun h => K2 h p e R s m args below meth c A Z H locs cells slots ls hC hX hA hE hR hS hc hs hl)
theorem rv_if_ge {x : Int32} {off : Int} {tgt : Nat} (hd : decode M.2.1 pc = .ok (.ifCond .ge off, 3)) (ht : (pc : Int) + off = (tgt : Int)) (K1 : 0 ≤ x → ma_V l D ca EX M d kc ks hp Q tgt lv st) (K2 : ¬ 0 ≤ x → ma_V l D ca EX M d kc ks hp Q (pc + 3) lv st) : ma_V l D ca EX M d kc ks hp Q pc lv (.int x :: st) := by
  intro p e R s m args below meth c A Z H locs cells slots ls hC hX hA hE hR hS hc hs hl
  exact lv_if_ge hC.1 hC.2.1 hd ht (fun h => K1 h p e R s m args below meth c A Z H locs cells slots ls hC hX hA hE hR hS hc hs hl) (fun h => K2 h p e R s m args below meth c A Z H locs cells slots ls hC hX hA hE hR hS hc hs hl)
theorem rv_icmp_ge {x y : Int32} {off : Int} {tgt : Nat} (hd : decode M.2.1 pc = .ok (.if_icmp .ge off, 3)) (ht : (pc : Int) + off = (tgt : Int)) (K1 : y ≤ x → ma_V l D ca EX M d kc ks hp Q tgt lv st) (K2 : ¬ y ≤ x → ma_V l D ca EX M d kc ks hp Q (pc + 3) lv st) : ma_V l D ca EX M d kc ks hp Q pc lv (.int y :: .int x :: st) := by
  intro p e R s m args below meth c A Z H locs cells slots ls hC hX hA hE hR hS hc hs hl
  exact lv_icmp_ge hC.1 hC.2.1 hd ht (fun h => K1 h p e R s m args below meth c A Z H locs cells slots ls hC hX hA hE hR hS hc hs hl) (fun h => K2 h p e R s m args below meth c A Z H locs cells slots ls hC hX hA hE hR hS hc hs hl)
theorem rv_if_gt {x : Int32} {off : Int} {tgt : Nat} (hd : decode M.2.1 pc = .ok (.ifCond .gt off, 3)) (ht : (pc : Int) + off = (tgt : Int)) (K1 : 0 < x → ma_V l D ca EX M d kc ks hp Q tgt lv st) (K2 : ¬ 0 < x → ma_V l D ca EX M d kc ks hp Q (pc + 3) lv st) : ma_V l D ca EX M d kc ks hp Q pc lv (.int x :: st) := by
  intro p e R s m args below meth c A Z H locs cells slots ls hC hX hA hE hR hS hc hs hl
  exact lv_if_gt hC.1 hC.2.1 hd ht (fun h => K1 h p e R s m args below meth c A Z H locs cells slots ls hC hX hA hE hR hS hc hs hl) (fun h => K2 h p e R s m args below meth c A Z H locs cells slots ls hC hX hA hE hR hS hc hs hl)
theorem rv_icmp_gt {x y : Int32} {off : Int} {tgt : Nat} (hd : decode M.2.1 pc = .ok (.if_icmp .gt off, 3)) (ht : (pc : Int) + off = (tgt : Int)) (K1 : y < x → ma_V l D ca EX M d kc ks hp Q tgt lv st) (K2 : ¬ y < x → ma_V l D ca EX M d kc ks hp Q (pc + 3) lv st) : ma_V l D ca EX M d kc ks hp Q pc lv (.int y :: .int x :: st) := by
  intro p e R s m args below meth c A Z H locs cells slots ls hC hX hA hE hR hS hc hs hl
  exact lv_icmp_gt hC.1 hC.2.1 hd ht (fun h => K1 h p e R s m args below meth c A Z H locs cells slots ls hC hX hA hE hR hS hc hs hl) (fun h => K2 h p e R s m args below meth c A Z H locs cells slots ls hC hX hA hE hR hS hc hs hl)
theorem rv_if_le {x : Int32} {off : Int} {tgt : Nat} (hd : decode M.2.1 pc = .ok (.ifCond .le off, 3)) (ht : (pc : Int) + off = (tgt : Int)) (K1 : x ≤ 0 → ma_V l D ca EX M d kc ks hp Q tgt lv st) (K2 : ¬ x ≤ 0 → ma_V l D ca EX M d kc ks hp Q (pc + 3) lv st) : ma_V l D ca EX M d kc ks hp Q pc lv (.int x :: st) := by
  intro p e R s m args below meth c A Z H locs cells slots ls hC hX hA hE hR hS hc hs hl
  exact lv_if_le hC.1 hC.2.1 hd ht (fun h => K1 h p e R s m args below meth c A Z H locs cells slots ls hC hX hA hE hR hS hc hs hl) (fun h => K2 h p e R s m args below meth c A Z H locs cells slots ls hC hX hA hE hR hS hc hs hl)
theorem rv_icmp_le {x y : Int32} {off : Int} {tgt : Nat} (hd : decode M.2.1 pc = .ok (.if_icmp .le off, 3)) (ht : (pc : Int) + off = (tgt : Int)) (K1 : x ≤ y → ma_V l D ca EX M d kc ks hp Q tgt lv st) (K2 : ¬ x ≤ y → ma_V l D ca EX M d kc ks hp Q (pc + 3) lv st) : ma_V l D ca EX M d kc ks hp Q pc lv (.int y :: .int x :: st) := by
  intro p e R s m args below meth c A Z H locs cells slots ls hC hX hA hE hR hS hc hs hl
  exact lv_icmp_le hC.1 hC.2.1 hd ht (fun h => K1 h p e R s m args below meth c A Z H locs cells slots ls hC hX hA hE hR hS hc hs hl) (fun h => K2 h p e R s m args below meth c A Z H locs cells slots ls hC hX hA hE hR hS hc hs hl)
theorem rv_goto {off : Int} {tgt : Nat} (hd : decode M.2.1 pc = .ok (.goto off, 3)) (ht : (pc : Int) + off = (tgt : Int)) (K : ma_V l D ca EX M d kc ks hp Q (tgt) lv (st)) : ma_V l D ca EX M d kc ks hp Q pc lv (st) := by
  intro p e R s m args below meth c A Z H locs cells slots ls hC hX hA hE hR hS hc hs hl
  exact lv_goto hC.1 hC.2.1 hd ht (K p e R s m args below meth c A Z H locs cells slots ls hC hX hA hE hR hS hc hs hl)
theorem rv_tblO {dflt lo hi : Int} {offs : Array Int} {len : Nat} {x : Int32} {tgt : Nat} (hd : decode M.2.1 pc = .ok (.tableswitch dflt lo hi offs, len)) (h : x.toInt < lo ∨ hi < x.toInt) (ht : (pc : Int) + dflt = (tgt : Int)) (K : ma_V l D ca EX M d kc ks hp Q (tgt) lv (st)) : ma_V l D ca EX M d kc ks hp Q pc lv (.int x :: st) := by
  intro p e R s m args below meth c A Z H locs cells slots ls hC hX hA hE hR hS hc hs hl
  exact lv_tableOut hC.1 hC.2.1 hd h ht (K p e R s m args below meth c A Z H locs cells slots ls hC hX hA hE hR hS hc hs hl)
theorem rv_tblI {dflt lo hi : Int} {offs : Array Int} {len : Nat} {x : Int32} {off : Int} {tgt : Nat} (hd : decode M.2.1 pc = .ok (.tableswitch dflt lo hi offs, len)) (h1 : ¬ x.toInt < lo) (h2 : ¬ hi < x.toInt) (ho : offs[(x.toInt - lo).toNat]? = some off) (ht : (pc : Int) + off = (tgt : Int)) (K : ma_V l D ca EX M d kc ks hp Q (tgt) lv (st)) : ma_V l D ca EX M d kc ks hp Q pc lv (.int x :: st) := by
  intro p e R s m args below meth c A Z H locs cells slots ls hC hX hA hE hR hS hc hs hl
  exact lv_tableIn hC.1 hC.2.1 hd h1 h2 ho ht (K p e R s m args below meth c A Z H locs cells slots ls hC hX hA hE hR hS hc hs hl)
theorem rv_look {dflt : Int} {ps : Array (Int × Int)} {len : Nat} {x : Int32} {off : Int} {tgt : Nat} (hd : decode M.2.1 pc = .ok (.lookupswitch dflt ps, len)) (hp0 : (ps.toList.zip (ps.toList.drop 1)).all (fun (a, next) => a.1 < next.1) = true) (ho : Op.lookupswitch.offset ps.toList dflt x.toInt = off) (ht : (pc : Int) + off = (tgt : Int)) (K : ma_V l D ca EX M d kc ks hp Q (tgt) lv (st)) : ma_V l D ca EX M d kc ks hp Q pc lv (.int x :: st) := by
  intro p e R s m args below meth c A Z H locs cells slots ls hC hX hA hE hR hS hc hs hl
  exact lv_lookup hC.1 hC.2.1 hd hp0 ho ht (K p e R s m args below meth c A Z H locs cells slots ls hC hX hA hE hR hS hc hs hl)
theorem rv_nonnull {x : Nat} {off : Int} {tgt : Nat} (hd : decode M.2.1 pc = .ok (.ifnonnull off, 3)) (ht : (pc : Int) + off = (tgt : Int)) (K : ma_V l D ca EX M d kc ks hp Q (tgt) lv (st)) : ma_V l D ca EX M d kc ks hp Q pc lv (.ref x :: st) := by
  intro p e R s m args below meth c A Z H locs cells slots ls hC hX hA hE hR hS hc hs hl
  exact lv_ifnonnull hC.1 hC.2.1 hd ht (K p e R s m args below meth c A Z H locs cells slots ls hC hX hA hE hR hS hc hs hl)
theorem rv_isnull {x : Nat} {off : Int} (hd : decode M.2.1 pc = .ok (.ifnull off, 3))  (K : ma_V l D ca EX M d kc ks hp Q (pc + 3) lv (st)) : ma_V l D ca EX M d kc ks hp Q pc lv (.ref x :: st) := by
  intro p e R s m args below meth c A Z H locs cells slots ls hC hX hA hE hR hS hc hs hl
  exact lv_ifnull hC.1 hC.2.1 hd (K p e R s m args below meth c A Z H locs cells slots ls hC hX hA hE hR hS hc hs hl)
theorem rv_isnullN {off : Int} {tgt : Nat} (hd : decode M.2.1 pc = .ok (.ifnull off, 3)) (ht : (pc : Int) + off = (tgt : Int)) (K : ma_V l D ca EX M d kc ks hp Q (tgt) lv (st)) : ma_V l D ca EX M d kc ks hp Q pc lv (.null :: st) := by
  intro p e R s m args below meth c A Z H locs cells slots ls hC hX hA hE hR hS hc hs hl
  exact lv_ifnullN hC.1 hC.2.1 hd ht (K p e R s m args below meth c A Z H locs cells slots ls hC hX hA hE hR hS hc hs hl)
theorem rv_nonnullN {off : Int} (hd : decode M.2.1 pc = .ok (.ifnonnull off, 3))  (K : ma_V l D ca EX M d kc ks hp Q (pc + 3) lv (st)) : ma_V l D ca EX M d kc ks hp Q pc lv (.null :: st) := by
  intro p e R s m args below meth c A Z H locs cells slots ls hC hX hA hE hR hS hc hs hl
  exact lv_ifnonnullN hC.1 hC.2.1 hd (K p e R s m args below meth c A Z H locs cells slots ls hC hX hA hE hR hS hc hs hl)
theorem rv_topi {x : Int32} (K : ∀ y : Int32, y = x → ma_V l D ca EX M d kc ks hp Q pc lv (.int y :: st)) : ma_V l D ca EX M d kc ks hp Q pc lv (.int x :: st) := K x rfl
theorem rv_topl {x : Int64} (K : ∀ y : Int64, y = x → ma_V l D ca EX M d kc ks hp Q pc lv (.long y :: st)) : ma_V l D ca EX M d kc ks hp Q pc lv (.long x :: st) := K x rfl
theorem rv_eqi {x y : Int32} (h : x = y) (K : ma_V l D ca EX M d kc ks hp Q pc lv (.int y :: st)) : ma_V l D ca EX M d kc ks hp Q pc lv (.int x :: st) := h ▸ K
theorem rv_eql {x y : Int64} (h : x = y) (K : ma_V l D ca EX M d kc ks hp Q pc lv (.long y :: st)) : ma_V l D ca EX M d kc ks hp Q pc lv (.long x :: st) := h ▸ K
theorem rv_eqv {x y : Value} (h : x = y) (K : ma_V l D ca EX M d kc ks hp Q pc lv (y :: st)) : ma_V l D ca EX M d kc ks hp Q pc lv (x :: st) := h ▸ K
/-- a class of the pictures: its field words stand in the tables, its descriptors parse, its names are apart -/
def ma_Kc (C : String) (T : u_T) (N : Nat) (ty : Nat → FieldType) : Prop := (∀ w ∈ u_ws C T N, w ∈ ma_tbl) ∧ (∀ k, k < N → parseFieldDescriptor (T k).2.2.1 = some (ty k)) ∧ ∀ a, a < N → ∀ b, b < N → a ≠ b → (T a).2.1 ≠ (T b).2.1
theorem rv_get {C : String} {T : u_T} {N ci index a : Nat} {ty : Nat → FieldType} {fs : List Value} {v : Value} (hK : ma_Kc C T N ty) (ha : hp a = some (.inr (ci, fs))) (hc0 : classes[ci]? = some (C, T, N)) (k : Nat) (hk : k < N) (hw : Cond.fieldLink M.1.cls index (T k).1 (T k).2.1 (T k).2.2.1 ∈ ma_tbl) (hv : fs[k]? = some v) (hd : decode M.2.1 pc = .ok (.getfield index, 3)) (K : ma_V l D ca EX M d kc ks hp Q (pc + 3) lv (v :: st)) : ma_V l D ca EX M d kc ks hp Q pc lv (.ref a :: st) := by
  intro p e R s m args below meth c A Z H locs cells slots ls hC hX hA hE hR hS hc hs hl
  obtain ⟨ws, hP, hD, hw0⟩ := id hR
  obtain ⟨q0, hq0⟩ := hw0 _ _ ha
  exact va_get hC.1 hC.2.1 hC.2.2.2.2.1 hK.1 hC.2.2.2.1 hC.2.2.2.2.2.1.1 hP q0 hq0 hc0 k hk (hC.2.2.2.2.1 _ hw) (fun _ h => h) hv hd (K p e R s m args below meth c A Z H locs cells slots ls hC hX hA hE hR hS hc hs hl)
theorem rv_put {C : String} {T : u_T} {N ci index a : Nat} {ty : Nat → FieldType} {fs : List Value} {v : Value} {fs' : List Value} (hK : ma_Kc C T N ty) (ha : hp a = some (.inr (ci, fs))) (hc0 : classes[ci]? = some (C, T, N)) (k : Nat) (hk : k < N) (hw : Cond.fieldLink M.1.cls index (T k).1 (T k).2.1 (T k).2.2.1 ∈ ma_tbl) (hf : (T k).2.2.2 = false) (hn : narrow (ty k) v = v) (hfit : fits (ty k) v = true) (hlf : k < fs.length) (hfs : fs.set k v = fs') (hd : decode M.2.1 pc = .ok (.putfield index, 3)) (K : ∀ hp' : hp_T, hp' = hp_up hp a (.inr (ci, fs')) → ma_V l D ca EX M d kc ks hp' Q (pc + 3) lv st) : ma_V l D ca EX M d kc ks hp Q pc lv (v :: .ref a :: st) := by
  intro p e R s m args below meth c A Z H locs cells slots ls hC hX hA hE hR hS hc hs hl
  obtain ⟨ws, hP, hD, hw0⟩ := id hR
  obtain ⟨q0, hq0⟩ := hw0 _ _ ha
  subst hfs
  exact va_put hC.1 hC.2.1 hC.2.2.2.2.1 hK.1 ty hK.2.1 hK.2.2 hC.2.2.2.1 hC.2.2.2.2.2.1.1 hP hD hS q0 hq0 hc0 k hk (hC.2.2.2.2.1 _ hw) (fun _ h => h) hf (hK.2.1 k hk) hn hfit hlf hd (fun H1 locs1 hP1 hD1 hS1 => K _ rfl p e R s m args below meth c A Z H1 locs1 cells slots ls hC hX hA hE ⟨_, hP1, hD1, hw0.set (A := A) hq0⟩ hS1 hc hs hl)
theorem rv_putF {C : String} {T : u_T} {N ci index a : Nat} {ty : Nat → FieldType} {fs : List Value} {v : Value} {fs' : List Value} (hK : ma_Kc C T N ty) (ha : hp a = some (.inr (ci, fs))) (hc0 : classes[ci]? = some (C, T, N)) (k : Nat) (hk : k < N) (hw : Cond.fieldLink M.1.cls index (T k).1 (T k).2.1 (T k).2.2.1 ∈ ma_tbl) (hf : (T k).2.2.2 = true) (hnm : M.1.name = "<init>") (hdecl : (T k).1 = M.1.cls) (hn : narrow (ty k) v = v) (hfit : fits (ty k) v = true) (hlf : k < fs.length) (hfs : fs.set k v = fs') (hd : decode M.2.1 pc = .ok (.putfield index, 3)) (K : ∀ hp' : hp_T, hp' = hp_up hp a (.inr (ci, fs')) → ma_V l D ca EX M d kc ks hp' Q (pc + 3) lv st) : ma_V l D ca EX M d kc ks hp Q pc lv (v :: .ref a :: st) := by
  intro p e R s m args below meth c A Z H locs cells slots ls hC hX hA hE hR hS hc hs hl
  obtain ⟨ws, hP, hD, hw0⟩ := id hR
  obtain ⟨q0, hq0⟩ := hw0 _ _ ha
  subst hfs
  exact va_putF hC.1 hC.2.1 hC.2.2.2.2.1 hK.1 ty hK.2.1 hK.2.2 hC.2.2.2.1 hC.2.2.2.2.2.1.1 hP hD hS q0 hq0 hc0 k hk (hC.2.2.2.2.1 _ hw) (fun _ h => h) hf (hC.2.2.2.2.2.2.1.trans hnm) hdecl (hK.2.1 k hk) hn hfit hlf hd (fun H1 locs1 hP1 hD1 hS1 => K _ rfl p e R s m args below meth c A Z H1 locs1 cells slots ls hC hX hA hE ⟨_, hP1, hD1, hw0.set (A := A) hq0⟩ hS1 hc hs hl)
theorem rv_new {C : String} {T : u_T} {N ci index kc1 ks1 : Nat} {ty : Nat → FieldType} {fs : List Value} (hK : ma_Kc C T N ty) (hc0 : classes[ci]? = some (C, T, N)) (hw : Cond.classLink M.1.cls index C ∈ ma_tbl) (hw1 : Cond.instantiable C N ∈ ma_tbl) (hw2 : Cond.initialized C ∈ ma_tbl) (hfs : ∀ j, j < N → defaultValue (ty j) = vp_V fs j) (hk : kc1 + 1 ≤ kc ∧ ks1 + N ≤ ks) (hd : decode M.2.1 pc = .ok (.new index, 3)) (K : ∀ (q : Nat) (hp' : hp_T), hp q = none → hp' = hp_up hp q (.inr (ci, fs)) → ma_V l D ca EX M d kc1 ks1 hp' Q (pc + 3) lv (.ref q :: st)) : ma_V l D ca EX M d kc ks hp Q pc lv st := by
  intro p e R s m args below meth c A Z H locs cells slots ls hC hX hA hE hR hS hc hs hl
  obtain ⟨ws, hP, hD, hw0⟩ := id hR
  exact va_new hC.1 hC.2.1 hC.2.2.2.2.1 hK.1 ty hK.2.1 hC.2.2.2.1 (hC.2.2.2.2.1 _ hw) (hC.2.2.2.2.1 _ hw1) (hC.2.2.2.2.1 _ hw2) hC.2.2.2.2.2.1.1 hP hD hS hA hc0 hfs (by omega) (by omega) hd (fun q H1 hP1 hD1 hS1 => K q _ (hw0.fresh hD1) rfl p e R s m args below meth c A Z H1 locs (cells + 1) (slots + N) ls hC hX hA hE ⟨_, hP1, hD1, hw0.push⟩ hS1 (by omega) (by omega) hl)
theorem rv_obj {d1 index a : Nat} (hw : Cond.methodLink M.1.cls index Lib.objectInit ∈ ma_tbl) (hw1 : Cond.instanceMethod Lib.objectInit ∈ ma_tbl) (hw2 : Cond.code Lib.objectInit ⟨#[0xb1]⟩ 1 none ∈ ma_tbl) (hrs : (st.map fun v => v.category).sum ≤ 8) (hd : decode M.2.1 pc = .ok (.invokespecial index, 3)) (K : ma_V l D ca EX M (d1 + 1) kc ks hp Q (pc + 3) lv st) : ma_V l D ca EX M (d1 + 1) kc ks hp Q pc lv (.ref a :: st) := by
  intro p e R s m args below meth c A Z H locs cells slots ls hC hX hA hE hR hS hc hs hl
  have h1 := hC.2.2.2.2.2.2.2.1
  have h2 := hC.2.2.2.2.2.2.2.2
  exact W.objInit hC.1 hC.2.1 hC.2.2.2.1 (hC.2.2.2.2.1 _ hw) (hC.2.2.2.2.1 _ hw1) (hC.2.2.2.2.1 _ hw2) (g := F0 m pc ls (.ref a :: st)) rfl (by rw [hC.2.2.1]; exact hl.1) rfl hd (by omega) (by show 2 * 0 + _ + 12 ≤ _; omega) (K p e R s m args below meth c A Z H locs cells slots ls hC hX hA hE hR hS hc hs hl)
theorem rv_iald {cA : ClassId} {a n j : Nat} {f : Nat → Int32} (ha : hp a = some (.inl (cA, n, .inl f))) (t0 : Nat) (ht : (ma_ty ca)[t0]? = some (cA, .int)) (hj : j < n) (hn : n < 2 ^ 31) (hd : decode M.2.1 pc = .ok (.iaload, 1)) (K : ma_V l D ca EX M d kc ks hp Q (pc + 1) lv (.int (f j) :: st)) : ma_V l D ca EX M d kc ks hp Q pc lv (.int (nI j) :: .ref a :: st) := by
  intro p e R s m args below meth c A Z H locs cells slots ls hC hX hA hE hR hS hc hs hl
  obtain ⟨ws, hP, hD, hw0⟩ := id hR
  obtain ⟨q0, hq0⟩ := hw0 _ _ ha
  refine va_iald hC.1 hC.2.1 hC.2.2.2.2.2.1.1 hP q0 t0 hq0 ht (vp_in_nI hj hn) hd ?_
  rw [nI_clamp (by omega)]
  exact (K p e R s m args below meth c A Z H locs cells slots ls hC hX hA hE hR hS hc hs hl)
theorem rv_iast {cA : ClassId} {a n j : Nat} {f : Nat → Int32} {x : Int32} (ha : hp a = some (.inl (cA, n, .inl f))) (t0 : Nat) (ht : (ma_ty ca)[t0]? = some (cA, .int)) (hj : j < n) (hn : n < 2 ^ 31) (hd : decode M.2.1 pc = .ok (.iastore, 1)) (K : ∀ hp' : hp_T, hp' = hp_up hp a (.inl (cA, n, .inl (upd f j x))) → ma_V l D ca EX M d kc ks hp' Q (pc + 1) lv st) : ma_V l D ca EX M d kc ks hp Q pc lv (.int x :: .int (nI j) :: .ref a :: st) := by
  intro p e R s m args below meth c A Z H locs cells slots ls hC hX hA hE hR hS hc hs hl
  obtain ⟨ws, hP, hD, hw0⟩ := id hR
  obtain ⟨q0, hq0⟩ := hw0 _ _ ha
  refine va_iast hC.1 hC.2.1 hC.2.2.2.2.2.1.1 hP hD hS q0 t0 hq0 ht (vp_in_nI hj hn) hd (fun H1 locs1 hP1 hD1 hS1 => ?_)
  rw [nI_clamp (by omega)] at hP1 hD1
  exact K _ rfl p e R s m args below meth c A Z H1 locs1 cells slots ls hC hX hA hE ⟨_, hP1, hD1, hw0.set (A := A) hq0⟩ hS1 hc hs hl
theorem rv_lald {cA : ClassId} {a n j : Nat} {f : Nat → Int64} (ha : hp a = some (.inl (cA, n, .inr (.inl f)))) (t0 : Nat) (ht : (ma_ty ca)[t0]? = some (cA, .long)) (hj : j < n) (hn : n < 2 ^ 31) (hd : decode M.2.1 pc = .ok (.laload, 1)) (K : ma_V l D ca EX M d kc ks hp Q (pc + 1) lv (.long (f j) :: st)) : ma_V l D ca EX M d kc ks hp Q pc lv (.int (nI j) :: .ref a :: st) := by
  intro p e R s m args below meth c A Z H locs cells slots ls hC hX hA hE hR hS hc hs hl
  obtain ⟨ws, hP, hD, hw0⟩ := id hR
  obtain ⟨q0, hq0⟩ := hw0 _ _ ha
  refine va_lald hC.1 hC.2.1 hC.2.2.2.2.2.1.1 hP q0 t0 hq0 ht (vp_in_nI hj hn) hd ?_
  rw [nI_clamp (by omega)]
  exact (K p e R s m args below meth c A Z H locs cells slots ls hC hX hA hE hR hS hc hs hl)
theorem rv_last {cA : ClassId} {a n j : Nat} {f : Nat → Int64} {x : Int64} (ha : hp a = some (.inl (cA, n, .inr (.inl f)))) (t0 : Nat) (ht : (ma_ty ca)[t0]? = some (cA, .long)) (hj : j < n) (hn : n < 2 ^ 31) (hd : decode M.2.1 pc = .ok (.lastore, 1)) (K : ∀ hp' : hp_T, hp' = hp_up hp a (.inl (cA, n, .inr (.inl (vp_updL f j x)))) → ma_V l D ca EX M d kc ks hp' Q (pc + 1) lv st) : ma_V l D ca EX M d kc ks hp Q pc lv (.long x :: .int (nI j) :: .ref a :: st) := by
  intro p e R s m args below meth c A Z H locs cells slots ls hC hX hA hE hR hS hc hs hl
  obtain ⟨ws, hP, hD, hw0⟩ := id hR
  obtain ⟨q0, hq0⟩ := hw0 _ _ ha
  refine va_last hC.1 hC.2.1 hC.2.2.2.2.2.1.1 hP hD hS q0 t0 hq0 ht (vp_in_nI hj hn) hd (fun H1 locs1 hP1 hD1 hS1 => ?_)
  rw [nI_clamp (by omega)] at hP1 hD1
  exact K _ rfl p e R s m args below meth c A Z H1 locs1 cells slots ls hC hX hA hE ⟨_, hP1, hD1, hw0.set (A := A) hq0⟩ hS1 hc hs hl
theorem rv_zald {cA : ClassId} {a n j : Nat} {f : Nat → Int32} (ha : hp a = some (.inl (cA, n, .inl f))) (t0 : Nat) (ht : (ma_ty ca)[t0]? = some (cA, .boolean)) (hj : j < n) (hn : n < 2 ^ 31) (hd : decode M.2.1 pc = .ok (.baload, 1)) (K : ma_V l D ca EX M d kc ks hp Q (pc + 1) lv (.int (f j) :: st)) : ma_V l D ca EX M d kc ks hp Q pc lv (.int (nI j) :: .ref a :: st) := by
  intro p e R s m args below meth c A Z H locs cells slots ls hC hX hA hE hR hS hc hs hl
  obtain ⟨ws, hP, hD, hw0⟩ := id hR
  obtain ⟨q0, hq0⟩ := hw0 _ _ ha
  refine va_zald hC.1 hC.2.1 hC.2.2.2.2.2.1.1 hP q0 t0 hq0 ht (vp_in_nI hj hn) hd ?_
  rw [nI_clamp (by omega)]
  exact (K p e R s m args below meth c A Z H locs cells slots ls hC hX hA hE hR hS hc hs hl)
theorem rv_zast {cA : ClassId} {a n j : Nat} {f : Nat → Int32} {x : Int32} (ha : hp a = some (.inl (cA, n, .inl f))) (t0 : Nat) (ht : (ma_ty ca)[t0]? = some (cA, .boolean)) (hj : j < n) (hn : n < 2 ^ 31) (hx : vp_nar .boolean x = x) (hd : decode M.2.1 pc = .ok (.bastore, 1)) (K : ∀ hp' : hp_T, hp' = hp_up hp a (.inl (cA, n, .inl (upd f j x))) → ma_V l D ca EX M d kc ks hp' Q (pc + 1) lv st) : ma_V l D ca EX M d kc ks hp Q pc lv (.int x :: .int (nI j) :: .ref a :: st) := by
  intro p e R s m args below meth c A Z H locs cells slots ls hC hX hA hE hR hS hc hs hl
  obtain ⟨ws, hP, hD, hw0⟩ := id hR
  obtain ⟨q0, hq0⟩ := hw0 _ _ ha
  refine va_zast hC.1 hC.2.1 hC.2.2.2.2.2.1.1 hP hD hS q0 t0 hq0 ht (vp_in_nI hj hn) hd (fun H1 locs1 hP1 hD1 hS1 => ?_)
  rw [nI_clamp (by omega), hx] at hP1 hD1
  exact K _ rfl p e R s m args below meth c A Z H1 locs1 cells slots ls hC hX hA hE ⟨_, hP1, hD1, hw0.set (A := A) hq0⟩ hS1 hc hs hl
theorem rv_aald {cA : ClassId} {C : String} {a n j : Nat} {f : Nat → Option Nat} (ha : hp a = some (.inl (cA, n, .inr (.inr (.inr (.inr f)))))) (t0 : Nat) (ht : (ma_ty ca)[t0]? = some (cA, .object C)) (hj : j < n) (hn : n < 2 ^ 31) (hd : decode M.2.1 pc = .ok (.aaload, 1)) (K : ma_V l D ca EX M d kc ks hp Q (pc + 1) lv (va_rf (f j) :: st)) : ma_V l D ca EX M d kc ks hp Q pc lv (.int (nI j) :: .ref a :: st) := by
  intro p e R s m args below meth c A Z H locs cells slots ls hC hX hA hE hR hS hc hs hl
  obtain ⟨ws, hP, hD, hw0⟩ := id hR
  obtain ⟨q0, hq0⟩ := hw0 _ _ ha
  refine va_aldq hC.1 hC.2.1 hC.2.2.2.2.2.1.1 hP q0 t0 hq0 ht (vp_in_nI hj hn) hd ?_
  rw [nI_clamp (by omega)]
  exact (K p e R s m args below meth c A Z H locs cells slots ls hC hX hA hE hR hS hc hs hl)
theorem rv_aast {cA : ClassId} {r : vw_C} {a n j ci v : Nat} {vs : List Value} {f : Nat → Option Nat} (ha : hp a = some (.inl (cA, n, .inr (.inr (.inr (.inr f)))))) (hv : hp v = some (.inr (ci, vs))) (hc0 : classes[ci]? = some r) (t0 : Nat) (ht : (ma_ty ca)[t0]? = some (cA, .object r.1)) (hj : j < n) (hn : n < 2 ^ 31) (hd : decode M.2.1 pc = .ok (.aastore, 1)) (K : ∀ hp' : hp_T, hp' = hp_up hp a (.inl (cA, n, .inr (.inr (.inr (.inr (va_up f j (some v))))))) → ma_V l D ca EX M d kc ks hp' Q (pc + 1) lv st) : ma_V l D ca EX M d kc ks hp Q pc lv (.ref v :: .int (nI j) :: .ref a :: st) := by
  intro p e R s m args below meth c A Z H locs cells slots ls hC hX hA hE hR hS hc hs hl
  obtain ⟨ws, hP, hD, hw0⟩ := id hR
  obtain ⟨q0, hq0⟩ := hw0 _ _ ha
  obtain ⟨q1, hq1⟩ := hw0 _ _ hv
  refine va_astq hC.1 hC.2.1 hC.2.2.2.2.2.1.1 hP hD hS q0 t0 q1 ci hq0 ht hq1 hc0 (vp_in_nI hj hn) hd (fun H1 locs1 hP1 hD1 hS1 => ?_)
  rw [nI_clamp (by omega)] at hP1 hD1
  exact K _ rfl p e R s m args below meth c A Z H1 locs1 cells slots ls hC hX hA hE ⟨_, hP1, hD1, hw0.set (A := A) hq0⟩ hS1 hc hs hl
theorem rv_alen {cA : ClassId} {ty : FieldType} {a : Nat} {x : vp_A} (ha : hp a = some (.inl (cA, x))) (t0 : Nat) (ht : (ma_ty ca)[t0]? = some (cA, ty)) (hd : decode M.2.1 pc = .ok (.arraylength, 1)) (K : ma_V l D ca EX M d kc ks hp Q (pc + 1) lv (.int (nI x.1) :: st)) : ma_V l D ca EX M d kc ks hp Q pc lv (.ref a :: st) := by
  intro p e R s m args below meth c A Z H locs cells slots ls hC hX hA hE hR hS hc hs hl
  obtain ⟨ws, hP, hD, hw0⟩ := id hR
  obtain ⟨q0, hq0⟩ := hw0 _ _ ha
  exact va_alen hC.1 hC.2.1 hC.2.2.2.2.2.1.1 hP q0 t0 hq0 ht rfl hd (K p e R s m args below meth c A Z H locs cells slots ls hC hX hA hE hR hS hc hs hl)
theorem ma_cA {U : State} {tys : List (ClassId × FieldType)} {c1 c2 : ClassId} {ty : FieldType} {k1 k2 : Nat} (h : va_K D classes tys U) (h1 : tys[k1]? = some (c1, ty)) (h2 : tys[k2]? = some (c2, ty)) : c1 = c2 := by
  have g1 := (h.2 k1 _ h1).2
  have g2 := (h.2 k2 _ h2).2
  cases ty with
  | object C =>
    obtain ⟨_, _, _, _, _, f1⟩ := g1
    obtain ⟨_, _, _, _, _, f2⟩ := g2
    exact Option.some.inj (f1.symm.trans f2)
  | _ => exact Option.some.inj (Eq.trans (Eq.symm g1) g2)
theorem rv_newa {atype : ArrayType} {ty : FieldType} {cA : ClassId} {n kc1 ks1 : Nat} {a0 : vp_A} (hty : newarray.typeOf atype = ty) (t0 : Nat) (ht : (ma_ty ca)[t0]? = some (cA, ty)) (hw : Cond.arrayClass ty ∈ ma_tbl) (ha0 : ∀ cA : ClassId, vp_cell cA a0 = arrV cA n (fun _ => defaultValue ty)) (hn : n < 65536) (hbytes : n * componentBytes ty ≤ 536870912) (hk : kc1 + 1 ≤ kc ∧ ks1 + n ≤ ks) (hd : decode M.2.1 pc = .ok (.newarray atype, 2)) (K : ∀ (q : Nat) (hp' : hp_T), hp q = none → hp' = hp_up hp q (.inl (cA, a0)) → ma_V l D ca EX M d kc1 ks1 hp' Q (pc + 2) lv (.ref q :: st)) : ma_V l D ca EX M d kc ks hp Q pc lv (.int (nI n) :: st) := by
  intro p e R s m args below meth c A Z H locs cells slots ls hC hX hA hE hR hS hc hs hl
  obtain ⟨ws, hP, hD, hw0⟩ := id hR
  refine va_newa hC.1 hC.2.1 (by rw [hty]; exact hC.2.2.2.2.1 _ hw) hty hC.2.2.2.2.2.1.1 hP hD hS hA ha0 (nI_pos (by omega)) (nI_clamp (by omega)) hbytes (by omega) (by omega) hd (fun q cA' H1 hK1 hP1 hD1 hS1 => ?_)
  have hlt := (List.getElem?_eq_some_iff.mp ht).1
  have he : cA = cA' := ma_cA hK1 (k1 := t0) (k2 := (ma_ty ca).length) (by rw [List.getElem?_append_left hlt]; exact ht) (by simp)
  subst he
  exact K q _ (hw0.fresh hD1) rfl p e R s m args below meth c A Z H1 locs (cells + 1) (slots + n) ls hC hX hA hE ⟨_, hP1, hD1, hw0.push⟩ hS1 (by omega) (by omega) hl
theorem rv_newq {C : String} {cA : ClassId} {n index kc1 ks1 : Nat} (t0 : Nat) (ht : (ma_ty ca)[t0]? = some (cA, .object C)) (hw : Cond.classLink M.1.cls index C ∈ ma_tbl) (hao : C ∈ ma_AO) (hn : n < 65536) (hk : kc1 + 1 ≤ kc ∧ ks1 + n ≤ ks) (hd : decode M.2.1 pc = .ok (.anewarray index, 3)) (K : ∀ (q : Nat) (hp' : hp_T), hp q = none → hp' = hp_up hp q (.inl (cA, n, .inr (.inr (.inr (.inr (fun _ => none)))))) → ma_V l D ca EX M d kc1 ks1 hp' Q (pc + 3) lv (.ref q :: st)) : ma_V l D ca EX M d kc ks hp Q pc lv (.int (nI n) :: st) := by
  intro p e R s m args below meth c A Z H locs cells slots ls hC hX hA hE hR hS hc hs hl
  obtain ⟨ws, hP, hD, hw0⟩ := id hR
  refine va_newq hC.1 hC.2.1 hC.2.2.2.1 (hC.2.2.2.2.1 _ hw) (hC.2.2.2.2.2.1.2.2 _ hao) hC.2.2.2.2.2.1.1 hP hD hS hA (nI_pos (by omega)) (nI_clamp (by omega)) (by omega) (by omega) (by omega) hd (fun q cA' H1 hK1 hP1 hD1 hS1 => ?_)
  have hlt := (List.getElem?_eq_some_iff.mp ht).1
  have he : cA = cA' := ma_cA hK1 (k1 := t0) (k2 := (ma_ty ca).length) (by rw [List.getElem?_append_left hlt]; exact ht) (by simp)
  subst he
  exact K q _ (hw0.fresh hD1) rfl p e R s m args below meth c A Z H1 locs (cells + 1) (slots + n) ls hC hX hA hE ⟨_, hP1, hD1, hw0.push⟩ hS1 (by omega) (by omega) hl
theorem rv_copyi {d1 index a0 a1 n0 n1 sp dp n : Nat} {cA : ClassId} {f g : Nat → Int32} (h0 : hp a0 = some (.inl (cA, n0, .inl f))) (h1 : hp a1 = some (.inl (cA, n1, .inl g))) (t0 : Nat) (ht : (ma_ty ca)[t0]? = some (cA, .int)) (hw : Cond.methodLink M.1.cls index arraycopyName ∈ ma_tbl) (hw1 : Cond.native arraycopyName ∈ ma_tbl) (hw2 : Cond.static arraycopyName ∈ ma_tbl) (hw3 : Cond.initialized "java/lang/System" ∈ ma_tbl) (hb1 : sp + n ≤ n0) (hb2 : dp + n ≤ n1) (hn0 : n0 < 65536) (hn1 : n1 < 65536) (hrs : (st.map fun v => v.category).sum + (nativeFrameWords "java/lang/System" "arraycopy" 5 + 11) ≤ 45) (hd : decode M.2.1 pc = .ok (.invokestatic index, 3)) (K : ∀ hp' : hp_T, hp' = hp_up hp a1 (.inl (cA, n1, .inl (va_cpy f g sp dp n))) → ma_V l D ca EX M (d1 + 1) kc ks hp' Q (pc + 3) lv st) : ma_V l D ca EX M (d1 + 1) kc ks hp Q pc lv (.int (nI n) :: .int (nI dp) :: .ref a1 :: .int (nI sp) :: .ref a0 :: st) := by
  intro p e R s m args below meth c A Z H locs cells slots ls hC hX hA hE hR hS hc hs hl
  obtain ⟨ws, hP, hD, hw0⟩ := id hR
  obtain ⟨q0, hq0⟩ := hw0 _ _ h0
  obtain ⟨q1, hq1⟩ := hw0 _ _ h1
  have e1 : (nI sp).toNatClampNeg = sp := nI_clamp (by omega)
  have e2 : (nI dp).toNatClampNeg = dp := nI_clamp (by omega)
  have e3 : (nI n).toNatClampNeg = n := nI_clamp (by omega)
  have g1 := hC.2.2.2.2.2.2.2.1
  have g2 := hC.2.2.2.2.2.2.2.2
  refine va_copyi hC.1 hC.2.1 (hC.2.2.1.trans hl.1.symm) hC.2.2.2.1 (hC.2.2.2.2.1 _ hw) (hC.2.2.2.2.1 _ hw1) (hC.2.2.2.2.1 _ hw2) (hC.2.2.2.2.1 _ hw3) hC.2.2.2.2.2.1.1 hP hD hS q0 q1 t0 t0 hq0 hq1 ht ht rfl (nI_pos (by omega)) (nI_pos (by omega)) (nI_pos (by omega)) (by rw [e1, e3]; exact hb1) (by rw [e2, e3]; exact hb2) (fun i _ => rfl) (by omega) (by omega) hd (fun H1 locs1 hP1 hD1 hS1 => ?_)
  rw [e1, e2, e3] at hP1 hD1
  exact K _ rfl p e R s m args below meth c A Z H1 locs1 cells slots ls hC hX hA hE ⟨_, hP1, hD1, hw0.set (A := A) hq1⟩ hS1 hc hs hl
theorem rv_copyl {d1 index a0 a1 n0 n1 sp dp n : Nat} {cA : ClassId} {f g : Nat → Int64} (h0 : hp a0 = some (.inl (cA, n0, .inr (.inl f)))) (h1 : hp a1 = some (.inl (cA, n1, .inr (.inl g)))) (t0 : Nat) (ht : (ma_ty ca)[t0]? = some (cA, .long)) (hw : Cond.methodLink M.1.cls index arraycopyName ∈ ma_tbl) (hw1 : Cond.native arraycopyName ∈ ma_tbl) (hw2 : Cond.static arraycopyName ∈ ma_tbl) (hw3 : Cond.initialized "java/lang/System" ∈ ma_tbl) (hb1 : sp + n ≤ n0) (hb2 : dp + n ≤ n1) (hn0 : n0 < 65536) (hn1 : n1 < 65536) (hrs : (st.map fun v => v.category).sum + (nativeFrameWords "java/lang/System" "arraycopy" 5 + 11) ≤ 45) (hd : decode M.2.1 pc = .ok (.invokestatic index, 3)) (K : ∀ hp' : hp_T, hp' = hp_up hp a1 (.inl (cA, n1, .inr (.inl (va_cpy f g sp dp n)))) → ma_V l D ca EX M (d1 + 1) kc ks hp' Q (pc + 3) lv st) : ma_V l D ca EX M (d1 + 1) kc ks hp Q pc lv (.int (nI n) :: .int (nI dp) :: .ref a1 :: .int (nI sp) :: .ref a0 :: st) := by
  intro p e R s m args below meth c A Z H locs cells slots ls hC hX hA hE hR hS hc hs hl
  obtain ⟨ws, hP, hD, hw0⟩ := id hR
  obtain ⟨q0, hq0⟩ := hw0 _ _ h0
  obtain ⟨q1, hq1⟩ := hw0 _ _ h1
  have e1 : (nI sp).toNatClampNeg = sp := nI_clamp (by omega)
  have e2 : (nI dp).toNatClampNeg = dp := nI_clamp (by omega)
  have e3 : (nI n).toNatClampNeg = n := nI_clamp (by omega)
  have g1 := hC.2.2.2.2.2.2.2.1
  have g2 := hC.2.2.2.2.2.2.2.2
  refine va_copyl hC.1 hC.2.1 (hC.2.2.1.trans hl.1.symm) hC.2.2.2.1 (hC.2.2.2.2.1 _ hw) (hC.2.2.2.2.1 _ hw1) (hC.2.2.2.2.1 _ hw2) (hC.2.2.2.2.1 _ hw3) hC.2.2.2.2.2.1.1 hP hD hS q0 q1 t0 t0 hq0 hq1 ht ht rfl (nI_pos (by omega)) (nI_pos (by omega)) (nI_pos (by omega)) (by rw [e1, e3]; exact hb1) (by rw [e2, e3]; exact hb2) (fun i _ => rfl) (by omega) (by omega) hd (fun H1 locs1 hP1 hD1 hS1 => ?_)
  rw [e1, e2, e3] at hP1 hD1
  exact K _ rfl p e R s m args below meth c A Z H1 locs1 cells slots ls hC hX hA hE ⟨_, hP1, hD1, hw0.set (A := A) hq1⟩ hS1 hc hs hl
def ma_X (b L : Nat) (xs : Nat → Int32) : State → (Nat → Prop) → Prop := fun s A => va_X b L xs s s.heap ∧ b < s.heap.size ∧ ¬ A b
theorem rv_sld {b L j : Nat} {xs : Nat → Int32} (hEX : EX = ma_X b L xs) (hj : j < L) (hn : L < 2 ^ 31) (hd : decode M.2.1 pc = .ok (.iaload, 1)) (K : ma_V l D ca EX M d kc ks hp Q (pc + 1) lv (.int (xs j) :: st)) : ma_V l D ca EX M d kc ks hp Q pc lv (.int (nI j) :: .ref b :: st) := by
  subst hEX
  intro p e R s m args below meth c A Z H locs cells slots ls hC hX hA hE hR hS hc hs hl
  refine va_sld hC.1 hC.2.1 hX.1 hX.2.1 hX.2.2 hS (vp_in_nI hj hn) hd ?_
  rw [nI_clamp (by omega)]
  exact (K p e R s m args below meth c A Z H locs cells slots ls hC hX hA hE hR hS hc hs hl)
theorem rv_slen {b L : Nat} {xs : Nat → Int32} (hEX : EX = ma_X b L xs) (hd : decode M.2.1 pc = .ok (.arraylength, 1)) (K : ma_V l D ca EX M d kc ks hp Q (pc + 1) lv (.int (nI L) :: st)) : ma_V l D ca EX M d kc ks hp Q pc lv (.ref b :: st) := by
  subst hEX
  intro p e R s m args below meth c A Z H locs cells slots ls hC hX hA hE hR hS hc hs hl
  exact va_slen hC.1 hC.2.1 hX.1 hX.2.1 hX.2.2 hS hd (K p e R s m args below meth c A Z H locs cells slots ls hC hX hA hE hR hS hc hs hl)
end Mach
end
