-- ===== PART A: goes FIRST, ahead of the names: the tables' words, and 'selects' of the private methods out of them =====
/-- a private method of a class that the tables say can be made, by its rows of tables_1 -/
def lw_okq (q : MethodName × Nat) : Prop := (q.1.cls ≠ "java/lang/invoke/MethodHandle" ∧ q.1.cls ≠ "java/lang/invoke/VarHandle") ∧ Cond.instantiable q.1.cls q.2 ∈ tables_1 ∧ Cond.privateMethod q.1 ∈ tables_1 ∧ Cond.instanceMethod q.1 ∈ tables_1
theorem lw_p0 : lw_okq (⟨"PoolDesk$Keys", "isOf", "(ILPoolDesk$Name;)Z"⟩, 3) := ⟨⟨by decide +kernel, by decide +kernel⟩, List.mem_of_getElem? (i := 46) (by decide +kernel), List.mem_of_getElem? (i := 181) (by decide +kernel), List.mem_of_getElem? (i := 182) (by decide +kernel)⟩
theorem lw_p1 : lw_okq (⟨"PoolDesk$Pool", "isSpent", "(LPoolDesk$Keys;)Z"⟩, 3) := ⟨⟨by decide +kernel, by decide +kernel⟩, List.mem_of_getElem? (i := 66) (by decide +kernel), List.mem_of_getElem? (i := 215) (by decide +kernel), List.mem_of_getElem? (i := 216) (by decide +kernel)⟩
theorem lw_p2 : lw_okq (⟨"PoolDesk$Keys", "sameName", "(ILPoolDesk$Keys;I)Z"⟩, 3) := ⟨⟨by decide +kernel, by decide +kernel⟩, List.mem_of_getElem? (i := 46) (by decide +kernel), List.mem_of_getElem? (i := 223) (by decide +kernel), List.mem_of_getElem? (i := 224) (by decide +kernel)⟩
theorem lw_p3 : lw_okq (⟨"PoolDesk$Pool", "missesOutput", "(LPoolDesk$Name;LPoolDesk$Keys;I)Z"⟩, 3) := ⟨⟨by decide +kernel, by decide +kernel⟩, List.mem_of_getElem? (i := 66) (by decide +kernel), List.mem_of_getElem? (i := 227) (by decide +kernel), List.mem_of_getElem? (i := 228) (by decide +kernel)⟩
theorem lw_p4 : lw_okq (⟨"PoolDesk$Pool", "hangsOnItself", "(LPoolDesk$Name;LPoolDesk$Keys;)Z"⟩, 3) := ⟨⟨by decide +kernel, by decide +kernel⟩, List.mem_of_getElem? (i := 66) (by decide +kernel), List.mem_of_getElem? (i := 235) (by decide +kernel), List.mem_of_getElem? (i := 236) (by decide +kernel)⟩
theorem lw_p5 : lw_okq (⟨"PoolDesk$Pool", "spendersOf", "(LPoolDesk$Name;)J"⟩, 3) := ⟨⟨by decide +kernel, by decide +kernel⟩, List.mem_of_getElem? (i := 66) (by decide +kernel), List.mem_of_getElem? (i := 243) (by decide +kernel), List.mem_of_getElem? (i := 244) (by decide +kernel)⟩
theorem lw_p6 : lw_okq (⟨"PoolDesk$Pool", "named", "(LPoolDesk$Keys;)J"⟩, 3) := ⟨⟨by decide +kernel, by decide +kernel⟩, List.mem_of_getElem? (i := 66) (by decide +kernel), List.mem_of_getElem? (i := 262) (by decide +kernel), List.mem_of_getElem? (i := 263) (by decide +kernel)⟩
theorem lw_p7 : lw_okq (⟨"PoolDesk", "letIn", "(JII)I"⟩, 4) := ⟨⟨by decide +kernel, by decide +kernel⟩, List.mem_of_getElem? (i := 11) (by decide +kernel), List.mem_of_getElem? (i := 266) (by decide +kernel), List.mem_of_getElem? (i := 267) (by decide +kernel)⟩
theorem lw_p8 : lw_okq (⟨"PoolDesk", "removeFamily", "(I)I"⟩, 4) := ⟨⟨by decide +kernel, by decide +kernel⟩, List.mem_of_getElem? (i := 11) (by decide +kernel), List.mem_of_getElem? (i := 308) (by decide +kernel), List.mem_of_getElem? (i := 309) (by decide +kernel)⟩
theorem lw_p9 : lw_okq (⟨"PoolDeskModel", "come", "(I)I"⟩, 17) := ⟨⟨by decide +kernel, by decide +kernel⟩, List.mem_of_getElem? (i := 387) (by decide +kernel), List.mem_of_getElem? (i := 459) (by decide +kernel), List.mem_of_getElem? (i := 460) (by decide +kernel)⟩
theorem lw_p10 : lw_okq (⟨"PoolDeskModel", "find", "()I"⟩, 17) := ⟨⟨by decide +kernel, by decide +kernel⟩, List.mem_of_getElem? (i := 387) (by decide +kernel), List.mem_of_getElem? (i := 463) (by decide +kernel), List.mem_of_getElem? (i := 464) (by decide +kernel)⟩
theorem lw_p11 : lw_okq (⟨"PoolDeskModel", "isNamed", "(I)Z"⟩, 17) := ⟨⟨by decide +kernel, by decide +kernel⟩, List.mem_of_getElem? (i := 387) (by decide +kernel), List.mem_of_getElem? (i := 467) (by decide +kernel), List.mem_of_getElem? (i := 468) (by decide +kernel)⟩
theorem lw_p12 : lw_okq (⟨"PoolDeskModel", "clash", "(II)Z"⟩, 17) := ⟨⟨by decide +kernel, by decide +kernel⟩, List.mem_of_getElem? (i := 387) (by decide +kernel), List.mem_of_getElem? (i := 471) (by decide +kernel), List.mem_of_getElem? (i := 472) (by decide +kernel)⟩
theorem lw_p13 : lw_okq (⟨"PoolDeskModel", "sameKey", "(IIII)Z"⟩, 17) := ⟨⟨by decide +kernel, by decide +kernel⟩, List.mem_of_getElem? (i := 387) (by decide +kernel), List.mem_of_getElem? (i := 475) (by decide +kernel), List.mem_of_getElem? (i := 476) (by decide +kernel)⟩
theorem lw_p14 : lw_okq (⟨"PoolDeskModel", "misses", "(II)Z"⟩, 17) := ⟨⟨by decide +kernel, by decide +kernel⟩, List.mem_of_getElem? (i := 387) (by decide +kernel), List.mem_of_getElem? (i := 479) (by decide +kernel), List.mem_of_getElem? (i := 480) (by decide +kernel)⟩
theorem lw_p15 : lw_okq (⟨"PoolDeskModel", "hasName", "(III)Z"⟩, 17) := ⟨⟨by decide +kernel, by decide +kernel⟩, List.mem_of_getElem? (i := 387) (by decide +kernel), List.mem_of_getElem? (i := 483) (by decide +kernel), List.mem_of_getElem? (i := 484) (by decide +kernel)⟩
def lw_privs_1 : List (MethodName × Nat) := [(⟨"PoolDesk$Keys", "isOf", "(ILPoolDesk$Name;)Z"⟩, 3), (⟨"PoolDesk$Pool", "isSpent", "(LPoolDesk$Keys;)Z"⟩, 3), (⟨"PoolDesk$Keys", "sameName", "(ILPoolDesk$Keys;I)Z"⟩, 3), (⟨"PoolDesk$Pool", "missesOutput", "(LPoolDesk$Name;LPoolDesk$Keys;I)Z"⟩, 3), (⟨"PoolDesk$Pool", "hangsOnItself", "(LPoolDesk$Name;LPoolDesk$Keys;)Z"⟩, 3), (⟨"PoolDesk$Pool", "spendersOf", "(LPoolDesk$Name;)J"⟩, 3), (⟨"PoolDesk$Pool", "named", "(LPoolDesk$Keys;)J"⟩, 3), (⟨"PoolDesk", "letIn", "(JII)I"⟩, 4), (⟨"PoolDesk", "removeFamily", "(I)I"⟩, 4), (⟨"PoolDeskModel", "come", "(I)I"⟩, 17), (⟨"PoolDeskModel", "find", "()I"⟩, 17), (⟨"PoolDeskModel", "isNamed", "(I)Z"⟩, 17), (⟨"PoolDeskModel", "clash", "(II)Z"⟩, 17), (⟨"PoolDeskModel", "sameKey", "(IIII)Z"⟩, 17), (⟨"PoolDeskModel", "misses", "(II)Z"⟩, 17), (⟨"PoolDeskModel", "hasName", "(III)Z"⟩, 17)]
theorem lw_r1 : ∀ q ∈ lw_privs_1, lw_okq q := List.forall_mem_cons.mpr ⟨lw_p0, List.forall_mem_cons.mpr ⟨lw_p1, List.forall_mem_cons.mpr ⟨lw_p2, List.forall_mem_cons.mpr ⟨lw_p3, List.forall_mem_cons.mpr ⟨lw_p4, List.forall_mem_cons.mpr ⟨lw_p5, List.forall_mem_cons.mpr ⟨lw_p6, List.forall_mem_cons.mpr ⟨lw_p7, List.forall_mem_cons.mpr ⟨lw_p8, List.forall_mem_cons.mpr ⟨lw_p9, List.forall_mem_cons.mpr ⟨lw_p10, List.forall_mem_cons.mpr ⟨lw_p11, List.forall_mem_cons.mpr ⟨lw_p12, List.forall_mem_cons.mpr ⟨lw_p13, List.forall_mem_cons.mpr ⟨lw_p14, List.forall_mem_cons.mpr ⟨lw_p15, fun _ h => absurd h List.not_mem_nil⟩⟩⟩⟩⟩⟩⟩⟩⟩⟩⟩⟩⟩⟩⟩⟩
theorem lw_p16 : lw_okq (⟨"PoolDeskModel", "family", "(II)V"⟩, 17) := ⟨⟨by decide +kernel, by decide +kernel⟩, List.mem_of_getElem? (i := 387) (by decide +kernel), List.mem_of_getElem? (i := 487) (by decide +kernel), List.mem_of_getElem? (i := 488) (by decide +kernel)⟩
theorem lw_p17 : lw_okq (⟨"PoolDeskModel", "hangs", "(II)Z"⟩, 17) := ⟨⟨by decide +kernel, by decide +kernel⟩, List.mem_of_getElem? (i := 387) (by decide +kernel), List.mem_of_getElem? (i := 491) (by decide +kernel), List.mem_of_getElem? (i := 492) (by decide +kernel)⟩
theorem lw_p18 : lw_okq (⟨"PoolDeskModel", "copy", "(II)V"⟩, 17) := ⟨⟨by decide +kernel, by decide +kernel⟩, List.mem_of_getElem? (i := 387) (by decide +kernel), List.mem_of_getElem? (i := 495) (by decide +kernel), List.mem_of_getElem? (i := 496) (by decide +kernel)⟩
theorem lw_p19 : lw_okq (⟨"PoolDeskModel", "least", "()I"⟩, 17) := ⟨⟨by decide +kernel, by decide +kernel⟩, List.mem_of_getElem? (i := 387) (by decide +kernel), List.mem_of_getElem? (i := 499) (by decide +kernel), List.mem_of_getElem? (i := 500) (by decide +kernel)⟩
theorem lw_p20 : lw_okq (⟨"PoolDeskModel", "feesOf", "(Z)J"⟩, 17) := ⟨⟨by decide +kernel, by decide +kernel⟩, List.mem_of_getElem? (i := 387) (by decide +kernel), List.mem_of_getElem? (i := 503) (by decide +kernel), List.mem_of_getElem? (i := 504) (by decide +kernel)⟩
theorem lw_p21 : lw_okq (⟨"PoolDeskModel", "sizesOf", "(Z)J"⟩, 17) := ⟨⟨by decide +kernel, by decide +kernel⟩, List.mem_of_getElem? (i := 387) (by decide +kernel), List.mem_of_getElem? (i := 507) (by decide +kernel), List.mem_of_getElem? (i := 508) (by decide +kernel)⟩
theorem lw_p22 : lw_okq (⟨"PoolDeskModel", "remove", "()I"⟩, 17) := ⟨⟨by decide +kernel, by decide +kernel⟩, List.mem_of_getElem? (i := 387) (by decide +kernel), List.mem_of_getElem? (i := 514) (by decide +kernel), List.mem_of_getElem? (i := 515) (by decide +kernel)⟩
theorem lw_p23 : lw_okq (⟨"PoolDeskModel", "kin", "(IZ)I"⟩, 17) := ⟨⟨by decide +kernel, by decide +kernel⟩, List.mem_of_getElem? (i := 387) (by decide +kernel), List.mem_of_getElem? (i := 535) (by decide +kernel), List.mem_of_getElem? (i := 536) (by decide +kernel)⟩
theorem lw_p24 : lw_okq (⟨"PoolDeskModel", "isFree", "(I)Z"⟩, 17) := ⟨⟨by decide +kernel, by decide +kernel⟩, List.mem_of_getElem? (i := 387) (by decide +kernel), List.mem_of_getElem? (i := 543) (by decide +kernel), List.mem_of_getElem? (i := 544) (by decide +kernel)⟩
def lw_privs_2 : List (MethodName × Nat) := [(⟨"PoolDeskModel", "family", "(II)V"⟩, 17), (⟨"PoolDeskModel", "hangs", "(II)Z"⟩, 17), (⟨"PoolDeskModel", "copy", "(II)V"⟩, 17), (⟨"PoolDeskModel", "least", "()I"⟩, 17), (⟨"PoolDeskModel", "feesOf", "(Z)J"⟩, 17), (⟨"PoolDeskModel", "sizesOf", "(Z)J"⟩, 17), (⟨"PoolDeskModel", "remove", "()I"⟩, 17), (⟨"PoolDeskModel", "kin", "(IZ)I"⟩, 17), (⟨"PoolDeskModel", "isFree", "(I)Z"⟩, 17)]
theorem lw_r2 : ∀ q ∈ lw_privs_2, lw_okq q := List.forall_mem_cons.mpr ⟨lw_p16, List.forall_mem_cons.mpr ⟨lw_p17, List.forall_mem_cons.mpr ⟨lw_p18, List.forall_mem_cons.mpr ⟨lw_p19, List.forall_mem_cons.mpr ⟨lw_p20, List.forall_mem_cons.mpr ⟨lw_p21, List.forall_mem_cons.mpr ⟨lw_p22, List.forall_mem_cons.mpr ⟨lw_p23, List.forall_mem_cons.mpr ⟨lw_p24, fun _ h => absurd h List.not_mem_nil⟩⟩⟩⟩⟩⟩⟩⟩⟩
def lw_privs : List (MethodName × Nat) := lw_privs_1 ++ (lw_privs_2)
def lw_tbl : List Cond := k2_sels lw_privs ++ tables_1
theorem lw_privs_ok : ∀ q ∈ lw_privs, lw_okq q := by
  show ∀ q ∈ lw_privs_1 ++ (lw_privs_2), lw_okq q
  exact List.forall_mem_append.mpr ⟨lw_r1, lw_r2⟩
/-! Names, by program (wip/gen/names.py) out of the tables: classes, fields, methods, nest links. -/
def F_Name : u_T := fun k => match k with
  | 0 => ("PoolDesk$Name", "a", "J", false)
  | 1 => ("PoolDesk$Name", "b", "J", false)
  | 2 => ("PoolDesk$Name", "c", "J", false)
  | _ => ("PoolDesk$Name", "d", "J", false)
def t_Name : Nat → FieldType := fun k => match k with
  | 0 => .long
  | 1 => .long
  | 2 => .long
  | _ => .long
def F_Keys : u_T := fun k => match k with
  | 0 => ("PoolDesk$Keys", "words", "[J", true)
  | 1 => ("PoolDesk$Keys", "indexes", "[I", true)
  | _ => ("PoolDesk$Keys", "held", "I", false)
def t_Keys : Nat → FieldType := fun k => match k with
  | 0 => .array .long
  | 1 => .array .int
  | _ => .int
def F_Tx : u_T := fun k => match k with
  | 0 => ("PoolDesk$Transaction", "ownName", "LPoolDesk$Name;", true)
  | 1 => ("PoolDesk$Transaction", "keys", "LPoolDesk$Keys;", true)
  | 2 => ("PoolDesk$Transaction", "fee", "J", false)
  | 3 => ("PoolDesk$Transaction", "size", "I", false)
  | 4 => ("PoolDesk$Transaction", "outputs", "I", false)
  | 5 => ("PoolDesk$Transaction", "coming", "I", false)
  | 6 => ("PoolDesk$Transaction", "parents", "J", false)
  | _ => ("PoolDesk$Transaction", "children", "J", false)
def t_Tx : Nat → FieldType := fun k => match k with
  | 0 => .object "PoolDesk$Name"
  | 1 => .object "PoolDesk$Keys"
  | 2 => .long
  | 3 => .int
  | 4 => .int
  | 5 => .int
  | 6 => .long
  | _ => .long
def F_Pool : u_T := fun k => match k with
  | 0 => ("PoolDesk$Pool", "places", "[LPoolDesk$Transaction;", true)
  | 1 => ("PoolDesk$Pool", "present", "J", false)
  | _ => ("PoolDesk$Pool", "came", "I", false)
def t_Pool : Nat → FieldType := fun k => match k with
  | 0 => .array (.object "PoolDesk$Transaction")
  | 1 => .long
  | _ => .int
def F_Row : u_T := fun k => match k with
  | 0 => ("PoolDesk$Row", "words", "[J", true)
  | _ => ("PoolDesk$Row", "length", "I", false)
def t_Row : Nat → FieldType := fun k => match k with
  | 0 => .array .long
  | _ => .int
def F_Desk : u_T := fun k => match k with
  | 0 => ("PoolDesk", "hand", "LPoolDesk$Name;", true)
  | 1 => ("PoolDesk", "told", "LPoolDesk$Keys;", true)
  | 2 => ("PoolDesk", "pool", "LPoolDesk$Pool;", true)
  | _ => ("PoolDesk", "block", "LPoolDesk$Row;", true)
def t_Desk : Nat → FieldType := fun k => match k with
  | 0 => .object "PoolDesk$Name"
  | 1 => .object "PoolDesk$Keys"
  | 2 => .object "PoolDesk$Pool"
  | _ => .object "PoolDesk$Row"
def F_Model : u_T := fun k => match k with
  | 0 => ("PoolDeskModel", "size", "I", false)
  | 1 => ("PoolDeskModel", "names", "[J", true)
  | 2 => ("PoolDeskModel", "spends", "[I", true)
  | 3 => ("PoolDeskModel", "keys", "[J", true)
  | 4 => ("PoolDeskModel", "indexes", "[I", true)
  | 5 => ("PoolDeskModel", "fees", "[J", true)
  | 6 => ("PoolDeskModel", "sizes", "[I", true)
  | 7 => ("PoolDeskModel", "outputs", "[I", true)
  | 8 => ("PoolDeskModel", "coming", "[I", true)
  | 9 => ("PoolDeskModel", "came", "I", false)
  | 10 => ("PoolDeskModel", "name", "[J", true)
  | 11 => ("PoolDeskModel", "told", "I", false)
  | 12 => ("PoolDeskModel", "toldKeys", "[J", true)
  | 13 => ("PoolDeskModel", "toldIndexes", "[I", true)
  | 14 => ("PoolDeskModel", "marks", "[Z", true)
  | 15 => ("PoolDeskModel", "row", "[J", true)
  | _ => ("PoolDeskModel", "rowSize", "I", false)
def t_Model : Nat → FieldType := fun k => match k with
  | 0 => .int
  | 1 => .array .long
  | 2 => .array .int
  | 3 => .array .long
  | 4 => .array .int
  | 5 => .array .long
  | 6 => .array .int
  | 7 => .array .int
  | 8 => .array .int
  | 9 => .int
  | 10 => .array .long
  | 11 => .int
  | 12 => .array .long
  | 13 => .array .int
  | 14 => .array .boolean
  | 15 => .array .long
  | _ => .int
abbrev classes : List vw_C := [("PoolDesk$Name", F_Name, 4), ("PoolDesk$Keys", F_Keys, 3), ("PoolDesk$Transaction", F_Tx, 8), ("PoolDesk$Pool", F_Pool, 3), ("PoolDesk$Row", F_Row, 2), ("PoolDesk", F_Desk, 4), ("PoolDeskModel", F_Model, 17)]
abbrev ma_tys : List FieldType := [.int, .long, .object "PoolDesk$Transaction", .boolean]
def y_Desk_init : MethodName := ⟨"PoolDesk", "<init>", "()V"⟩
abbrev M_Desk_init : MethodName × ByteArray × Nat × Option FieldType := (y_Desk_init, prog_1_method_1_code, 1, none)
def y_Name_init : MethodName := ⟨"PoolDesk$Name", "<init>", "()V"⟩
abbrev M_Name_init : MethodName × ByteArray × Nat × Option FieldType := (y_Name_init, prog_3_method_1_code, 1, none)
def y_Keys_init : MethodName := ⟨"PoolDesk$Keys", "<init>", "()V"⟩
abbrev M_Keys_init : MethodName × ByteArray × Nat × Option FieldType := (y_Keys_init, prog_2_method_1_code, 1, none)
def y_Pool_init : MethodName := ⟨"PoolDesk$Pool", "<init>", "()V"⟩
abbrev M_Pool_init : MethodName × ByteArray × Nat × Option FieldType := (y_Pool_init, prog_4_method_1_code, 2, none)
def y_Tx_init : MethodName := ⟨"PoolDesk$Transaction", "<init>", "()V"⟩
abbrev M_Tx_init : MethodName × ByteArray × Nat × Option FieldType := (y_Tx_init, prog_6_method_1_code, 1, none)
def y_Row_init : MethodName := ⟨"PoolDesk$Row", "<init>", "()V"⟩
abbrev M_Row_init : MethodName × ByteArray × Nat × Option FieldType := (y_Row_init, prog_5_method_1_code, 1, none)
def y_Desk_name : MethodName := ⟨"PoolDesk", "name", "(JJJJ)V"⟩
abbrev M_Desk_name : MethodName × ByteArray × Nat × Option FieldType := (y_Desk_name, prog_1_method_2_code, 9, none)
def y_Name_set : MethodName := ⟨"PoolDesk$Name", "set", "(JJJJ)V"⟩
abbrev M_Name_set : MethodName × ByteArray × Nat × Option FieldType := (y_Name_set, prog_3_method_2_code, 9, none)
def y_Desk_spend : MethodName := ⟨"PoolDesk", "spend", "(I)Z"⟩
abbrev M_Desk_spend : MethodName × ByteArray × Nat × Option FieldType := (y_Desk_spend, prog_1_method_3_code, 2, (some .boolean))
def y_Keys_add : MethodName := ⟨"PoolDesk$Keys", "add", "(LPoolDesk$Name;I)Z"⟩
abbrev M_Keys_add : MethodName × ByteArray × Nat × Option FieldType := (y_Keys_add, prog_2_method_3_code, 3, (some .boolean))
def y_Keys_contains : MethodName := ⟨"PoolDesk$Keys", "contains", "(LPoolDesk$Name;I)Z"⟩
abbrev M_Keys_contains : MethodName × ByteArray × Nat × Option FieldType := (y_Keys_contains, prog_2_method_5_code, 4, (some .boolean))
def y_Keys_isOf : MethodName := ⟨"PoolDesk$Keys", "isOf", "(ILPoolDesk$Name;)Z"⟩
abbrev M_Keys_isOf : MethodName × ByteArray × Nat × Option FieldType := (y_Keys_isOf, prog_2_method_9_code, 4, (some .boolean))
def y_Name_write : MethodName := ⟨"PoolDesk$Name", "write", "([JI)V"⟩
abbrev M_Name_write : MethodName × ByteArray × Nat × Option FieldType := (y_Name_write, prog_3_method_3_code, 3, none)
def y_Desk_enter : MethodName := ⟨"PoolDesk", "enter", "(JII)I"⟩
abbrev M_Desk_enter : MethodName × ByteArray × Nat × Option FieldType := (y_Desk_enter, prog_1_method_4_code, 6, (some .int))
def y_Desk_isTransaction : MethodName := ⟨"PoolDesk", "isTransaction", "(JII)Z"⟩
abbrev M_Desk_isTransaction : MethodName × ByteArray × Nat × Option FieldType := (y_Desk_isTransaction, prog_1_method_13_code, 4, (some .boolean))
def y_Pool_hindrance : MethodName := ⟨"PoolDesk$Pool", "hindrance", "(LPoolDesk$Name;LPoolDesk$Keys;I)I"⟩
abbrev M_Pool_hindrance : MethodName × ByteArray × Nat × Option FieldType := (y_Pool_hindrance, prog_4_method_5_code, 4, (some .int))
def y_Pool_find : MethodName := ⟨"PoolDesk$Pool", "find", "(LPoolDesk$Name;)I"⟩
abbrev M_Pool_find : MethodName × ByteArray × Nat × Option FieldType := (y_Pool_find, prog_4_method_2_code, 3, (some .int))
def y_Desk_has : MethodName := ⟨"PoolDesk", "has", "(JI)Z"⟩
abbrev M_Desk_has : MethodName × ByteArray × Nat × Option FieldType := (y_Desk_has, prog_1_method_17_code, 3, (some .boolean))
def y_Desk_bit : MethodName := ⟨"PoolDesk", "bit", "(I)J"⟩
abbrev M_Desk_bit : MethodName × ByteArray × Nat × Option FieldType := (y_Desk_bit, prog_1_method_16_code, 1, (some .long))
def y_Name_same : MethodName := ⟨"PoolDesk$Name", "same", "(LPoolDesk$Name;)Z"⟩
abbrev M_Name_same : MethodName × ByteArray × Nat × Option FieldType := (y_Name_same, prog_3_method_4_code, 2, (some .boolean))
def y_Pool_isSpent : MethodName := ⟨"PoolDesk$Pool", "isSpent", "(LPoolDesk$Keys;)Z"⟩
abbrev M_Pool_isSpent : MethodName × ByteArray × Nat × Option FieldType := (y_Pool_isSpent, prog_4_method_6_code, 3, (some .boolean))
def y_Keys_containsOneOf : MethodName := ⟨"PoolDesk$Keys", "containsOneOf", "(LPoolDesk$Keys;)Z"⟩
abbrev M_Keys_containsOneOf : MethodName × ByteArray × Nat × Option FieldType := (y_Keys_containsOneOf, prog_2_method_6_code, 4, (some .boolean))
def y_Keys_sameName : MethodName := ⟨"PoolDesk$Keys", "sameName", "(ILPoolDesk$Keys;I)Z"⟩
abbrev M_Keys_sameName : MethodName × ByteArray × Nat × Option FieldType := (y_Keys_sameName, prog_2_method_10_code, 5, (some .boolean))
def y_Pool_missesOutput : MethodName := ⟨"PoolDesk$Pool", "missesOutput", "(LPoolDesk$Name;LPoolDesk$Keys;I)Z"⟩
abbrev M_Pool_missesOutput : MethodName × ByteArray × Nat × Option FieldType := (y_Pool_missesOutput, prog_4_method_7_code, 6, (some .boolean))
def y_Keys_misses : MethodName := ⟨"PoolDesk$Keys", "misses", "(LPoolDesk$Name;I)Z"⟩
abbrev M_Keys_misses : MethodName × ByteArray × Nat × Option FieldType := (y_Keys_misses, prog_2_method_8_code, 4, (some .boolean))
def y_Pool_hangsOnItself : MethodName := ⟨"PoolDesk$Pool", "hangsOnItself", "(LPoolDesk$Name;LPoolDesk$Keys;)Z"⟩
abbrev M_Pool_hangsOnItself : MethodName × ByteArray × Nat × Option FieldType := (y_Pool_hangsOnItself, prog_4_method_8_code, 3, (some .boolean))
def y_Keys_bears : MethodName := ⟨"PoolDesk$Keys", "bears", "(LPoolDesk$Name;)Z"⟩
abbrev M_Keys_bears : MethodName × ByteArray × Nat × Option FieldType := (y_Keys_bears, prog_2_method_7_code, 3, (some .boolean))
def y_Pool_spendersOf : MethodName := ⟨"PoolDesk$Pool", "spendersOf", "(LPoolDesk$Name;)J"⟩
abbrev M_Pool_spendersOf : MethodName × ByteArray × Nat × Option FieldType := (y_Pool_spendersOf, prog_4_method_9_code, 5, (some .long))
def y_Pool_family : MethodName := ⟨"PoolDesk$Pool", "family", "(J)J"⟩
abbrev M_Pool_family : MethodName × ByteArray × Nat × Option FieldType := (y_Pool_family, prog_4_method_13_code, 11, (some .long))
def y_Desk_lowest : MethodName := ⟨"PoolDesk", "lowest", "(J)I"⟩
abbrev M_Desk_lowest : MethodName × ByteArray × Nat × Option FieldType := (y_Desk_lowest, prog_1_method_18_code, 2, (some .int))
def y_Long_bitCount : MethodName := ⟨"java/lang/Long", "bitCount", "(J)I"⟩
abbrev M_Long_bitCount : MethodName × ByteArray × Nat × Option FieldType := (y_Long_bitCount, prog_9_method_50_code, 2, (some .int))
def y_Pool_named : MethodName := ⟨"PoolDesk$Pool", "named", "(LPoolDesk$Keys;)J"⟩
abbrev M_Pool_named : MethodName × ByteArray × Nat × Option FieldType := (y_Pool_named, prog_4_method_10_code, 5, (some .long))
def y_Desk_letIn : MethodName := ⟨"PoolDesk", "letIn", "(JII)I"⟩
abbrev M_Desk_letIn : MethodName × ByteArray × Nat × Option FieldType := (y_Desk_letIn, prog_1_method_14_code, 6, (some .int))
def y_Pool_freePlace : MethodName := ⟨"PoolDesk$Pool", "freePlace", "()I"⟩
abbrev M_Pool_freePlace : MethodName × ByteArray × Nat × Option FieldType := (y_Pool_freePlace, prog_4_method_4_code, 2, (some .int))
def y_Tx_describe : MethodName := ⟨"PoolDesk$Transaction", "describe", "(JII)V"⟩
abbrev M_Tx_describe : MethodName × ByteArray × Nat × Option FieldType := (y_Tx_describe, prog_6_method_2_code, 5, none)
def y_Pool_settle : MethodName := ⟨"PoolDesk$Pool", "settle", "(ILPoolDesk$Name;LPoolDesk$Keys;)V"⟩
abbrev M_Pool_settle : MethodName × ByteArray × Nat × Option FieldType := (y_Pool_settle, prog_4_method_11_code, 6, none)
def y_Keys_copy : MethodName := ⟨"PoolDesk$Keys", "copy", "(LPoolDesk$Keys;)V"⟩
abbrev M_Keys_copy : MethodName × ByteArray × Nat × Option FieldType := (y_Keys_copy, prog_2_method_4_code, 2, none)
def y_Pool_leastPaying : MethodName := ⟨"PoolDesk$Pool", "leastPaying", "()I"⟩
abbrev M_Pool_leastPaying : MethodName × ByteArray × Nat × Option FieldType := (y_Pool_leastPaying, prog_4_method_17_code, 13, (some .int))
def y_Pool_sumOfFees : MethodName := ⟨"PoolDesk$Pool", "sumOfFees", "(J)J"⟩
abbrev M_Pool_sumOfFees : MethodName × ByteArray × Nat × Option FieldType := (y_Pool_sumOfFees, prog_4_method_14_code, 6, (some .long))
def y_Pool_sumOfSizes : MethodName := ⟨"PoolDesk$Pool", "sumOfSizes", "(J)I"⟩
abbrev M_Pool_sumOfSizes : MethodName × ByteArray × Nat × Option FieldType := (y_Pool_sumOfSizes, prog_4_method_15_code, 5, (some .int))
def y_Desk_compareRates : MethodName := ⟨"PoolDesk", "compareRates", "(JJJJ)I"⟩
abbrev M_Desk_compareRates : MethodName × ByteArray × Nat × Option FieldType := (y_Desk_compareRates, prog_1_method_19_code, 9, (some .int))
def y_Long_compare : MethodName := ⟨"java/lang/Long", "compare", "(JJ)I"⟩
abbrev M_Long_compare : MethodName × ByteArray × Nat × Option FieldType := (y_Long_compare, prog_9_method_42_code, 4, (some .int))
def y_Desk_removeFamily : MethodName := ⟨"PoolDesk", "removeFamily", "(I)I"⟩
abbrev M_Desk_removeFamily : MethodName × ByteArray × Nat × Option FieldType := (y_Desk_removeFamily, prog_1_method_15_code, 4, (some .int))
def y_Pool_remove : MethodName := ⟨"PoolDesk$Pool", "remove", "(J)V"⟩
abbrev M_Pool_remove : MethodName × ByteArray × Nat × Option FieldType := (y_Pool_remove, prog_4_method_12_code, 4, none)
def y_Keys_clear : MethodName := ⟨"PoolDesk$Keys", "clear", "()V"⟩
abbrev M_Keys_clear : MethodName × ByteArray × Nat × Option FieldType := (y_Keys_clear, prog_2_method_2_code, 1, none)
def y_Desk_take : MethodName := ⟨"PoolDesk", "take", "()Z"⟩
abbrev M_Desk_take : MethodName × ByteArray × Nat × Option FieldType := (y_Desk_take, prog_1_method_5_code, 2, (some .boolean))
def y_Desk_drop : MethodName := ⟨"PoolDesk", "drop", "()I"⟩
abbrev M_Desk_drop : MethodName × ByteArray × Nat × Option FieldType := (y_Desk_drop, prog_1_method_6_code, 1, (some .int))
def y_Desk_strike : MethodName := ⟨"PoolDesk", "strike", "(I)I"⟩
abbrev M_Desk_strike : MethodName × ByteArray × Nat × Option FieldType := (y_Desk_strike, prog_1_method_7_code, 2, (some .int))
def y_Pool_findSpender : MethodName := ⟨"PoolDesk$Pool", "findSpender", "(LPoolDesk$Name;I)I"⟩
abbrev M_Pool_findSpender : MethodName × ByteArray × Nat × Option FieldType := (y_Pool_findSpender, prog_4_method_3_code, 4, (some .int))
def y_Desk_look : MethodName := ⟨"PoolDesk", "look", "(I)J"⟩
abbrev M_Desk_look : MethodName × ByteArray × Nat × Option FieldType := (y_Desk_look, prog_1_method_8_code, 4, (some .long))
def y_Desk_order : MethodName := ⟨"PoolDesk", "order", "(I)I"⟩
abbrev M_Desk_order : MethodName × ByteArray × Nat × Option FieldType := (y_Desk_order, prog_1_method_9_code, 8, (some .int))
def y_Row_clear : MethodName := ⟨"PoolDesk$Row", "clear", "()V"⟩
abbrev M_Row_clear : MethodName × ByteArray × Nat × Option FieldType := (y_Row_clear, prog_5_method_2_code, 1, none)
def y_Pool_bestPaying : MethodName := ⟨"PoolDesk$Pool", "bestPaying", "(JI)I"⟩
abbrev M_Pool_bestPaying : MethodName × ByteArray × Nat × Option FieldType := (y_Pool_bestPaying, prog_4_method_18_code, 8, (some .int))
def y_Pool_paysBetter : MethodName := ⟨"PoolDesk$Pool", "paysBetter", "(LPoolDesk$Transaction;LPoolDesk$Transaction;)Z"⟩
abbrev M_Pool_paysBetter : MethodName × ByteArray × Nat × Option FieldType := (y_Pool_paysBetter, prog_4_method_19_code, 3, (some .boolean))
def y_Row_add : MethodName := ⟨"PoolDesk$Row", "add", "(LPoolDesk$Name;)V"⟩
abbrev M_Row_add : MethodName × ByteArray × Nat × Option FieldType := (y_Row_add, prog_5_method_3_code, 2, none)
def y_Desk_row : MethodName := ⟨"PoolDesk", "row", "(II)J"⟩
abbrev M_Desk_row : MethodName × ByteArray × Nat × Option FieldType := (y_Desk_row, prog_1_method_10_code, 3, (some .long))
def y_Row_word : MethodName := ⟨"PoolDesk$Row", "word", "(II)J"⟩
abbrev M_Row_word : MethodName × ByteArray × Nat × Option FieldType := (y_Row_word, prog_5_method_4_code, 3, (some .long))
def y_Desk_count : MethodName := ⟨"PoolDesk", "count", "(I)I"⟩
abbrev M_Desk_count : MethodName × ByteArray × Nat × Option FieldType := (y_Desk_count, prog_1_method_11_code, 2, (some .int))
def y_Pool_sumOfKeys : MethodName := ⟨"PoolDesk$Pool", "sumOfKeys", "()I"⟩
abbrev M_Pool_sumOfKeys : MethodName × ByteArray × Nat × Option FieldType := (y_Pool_sumOfKeys, prog_4_method_16_code, 3, (some .int))
def y_Desk_fees : MethodName := ⟨"PoolDesk", "fees", "()J"⟩
abbrev M_Desk_fees : MethodName × ByteArray × Nat × Option FieldType := (y_Desk_fees, prog_1_method_12_code, 1, (some .long))
def y_Model_init : MethodName := ⟨"PoolDeskModel", "<init>", "()V"⟩
abbrev M_Model_init : MethodName × ByteArray × Nat × Option FieldType := (y_Model_init, prog_8_method_1_code, 1, none)
def y_Model_name : MethodName := ⟨"PoolDeskModel", "name", "(JJJJ)V"⟩
abbrev M_Model_name : MethodName × ByteArray × Nat × Option FieldType := (y_Model_name, prog_8_method_2_code, 9, none)
def y_Model_spend : MethodName := ⟨"PoolDeskModel", "spend", "(I)Z"⟩
abbrev M_Model_spend : MethodName × ByteArray × Nat × Option FieldType := (y_Model_spend, prog_8_method_5_code, 5, (some .boolean))
def y_Model_enter : MethodName := ⟨"PoolDeskModel", "enter", "(JII)I"⟩
abbrev M_Model_enter : MethodName × ByteArray × Nat × Option FieldType := (y_Model_enter, prog_8_method_18_code, 7, (some .int))
def y_Model_come : MethodName := ⟨"PoolDeskModel", "come", "(I)I"⟩
abbrev M_Model_come : MethodName × ByteArray × Nat × Option FieldType := (y_Model_come, prog_8_method_19_code, 5, (some .int))
def y_Model_find : MethodName := ⟨"PoolDeskModel", "find", "()I"⟩
abbrev M_Model_find : MethodName × ByteArray × Nat × Option FieldType := (y_Model_find, prog_8_method_4_code, 2, (some .int))
def y_Model_isNamed : MethodName := ⟨"PoolDeskModel", "isNamed", "(I)Z"⟩
abbrev M_Model_isNamed : MethodName × ByteArray × Nat × Option FieldType := (y_Model_isNamed, prog_8_method_3_code, 4, (some .boolean))
def y_Model_clash : MethodName := ⟨"PoolDeskModel", "clash", "(II)Z"⟩
abbrev M_Model_clash : MethodName × ByteArray × Nat × Option FieldType := (y_Model_clash, prog_8_method_9_code, 6, (some .boolean))
def y_Model_sameKey : MethodName := ⟨"PoolDeskModel", "sameKey", "(IIII)Z"⟩
abbrev M_Model_sameKey : MethodName × ByteArray × Nat × Option FieldType := (y_Model_sameKey, prog_8_method_8_code, 7, (some .boolean))
def y_Model_misses : MethodName := ⟨"PoolDeskModel", "misses", "(II)Z"⟩
abbrev M_Model_misses : MethodName × ByteArray × Nat × Option FieldType := (y_Model_misses, prog_8_method_10_code, 6, (some .boolean))
def y_Model_hasName : MethodName := ⟨"PoolDeskModel", "hasName", "(III)Z"⟩
abbrev M_Model_hasName : MethodName × ByteArray × Nat × Option FieldType := (y_Model_hasName, prog_8_method_6_code, 6, (some .boolean))
def y_Model_family : MethodName := ⟨"PoolDeskModel", "family", "(II)V"⟩
abbrev M_Model_family : MethodName × ByteArray × Nat × Option FieldType := (y_Model_family, prog_8_method_11_code, 6, none)
def y_Model_hangs : MethodName := ⟨"PoolDeskModel", "hangs", "(II)Z"⟩
abbrev M_Model_hangs : MethodName × ByteArray × Nat × Option FieldType := (y_Model_hangs, prog_8_method_7_code, 5, (some .boolean))
def y_Model_copy : MethodName := ⟨"PoolDeskModel", "copy", "(II)V"⟩
abbrev M_Model_copy : MethodName × ByteArray × Nat × Option FieldType := (y_Model_copy, prog_8_method_12_code, 4, none)
def y_Model_least : MethodName := ⟨"PoolDeskModel", "least", "()I"⟩
abbrev M_Model_least : MethodName × ByteArray × Nat × Option FieldType := (y_Model_least, prog_8_method_17_code, 11, (some .int))
def y_Model_feesOf : MethodName := ⟨"PoolDeskModel", "feesOf", "(Z)J"⟩
abbrev M_Model_feesOf : MethodName × ByteArray × Nat × Option FieldType := (y_Model_feesOf, prog_8_method_15_code, 5, (some .long))
def y_Model_sizesOf : MethodName := ⟨"PoolDeskModel", "sizesOf", "(Z)J"⟩
abbrev M_Model_sizesOf : MethodName × ByteArray × Nat × Option FieldType := (y_Model_sizesOf, prog_8_method_16_code, 5, (some .long))
def y_Model_compare : MethodName := ⟨"PoolDeskModel", "compare", "(JJJJ)I"⟩
abbrev M_Model_compare : MethodName × ByteArray × Nat × Option FieldType := (y_Model_compare, prog_8_method_14_code, 21, (some .int))
def y_Model_remove : MethodName := ⟨"PoolDeskModel", "remove", "()I"⟩
abbrev M_Model_remove : MethodName × ByteArray × Nat × Option FieldType := (y_Model_remove, prog_8_method_13_code, 4, (some .int))
def y_Model_take : MethodName := ⟨"PoolDeskModel", "take", "()Z"⟩
abbrev M_Model_take : MethodName × ByteArray × Nat × Option FieldType := (y_Model_take, prog_8_method_20_code, 3, (some .boolean))
def y_Model_drop : MethodName := ⟨"PoolDeskModel", "drop", "()I"⟩
abbrev M_Model_drop : MethodName × ByteArray × Nat × Option FieldType := (y_Model_drop, prog_8_method_21_code, 2, (some .int))
def y_Model_strike : MethodName := ⟨"PoolDeskModel", "strike", "(I)I"⟩
abbrev M_Model_strike : MethodName × ByteArray × Nat × Option FieldType := (y_Model_strike, prog_8_method_22_code, 6, (some .int))
def y_Model_look : MethodName := ⟨"PoolDeskModel", "look", "(I)J"⟩
abbrev M_Model_look : MethodName × ByteArray × Nat × Option FieldType := (y_Model_look, prog_8_method_24_code, 5, (some .long))
def y_Model_kin : MethodName := ⟨"PoolDeskModel", "kin", "(IZ)I"⟩
abbrev M_Model_kin : MethodName × ByteArray × Nat × Option FieldType := (y_Model_kin, prog_8_method_23_code, 5, (some .int))
def y_Model_order : MethodName := ⟨"PoolDeskModel", "order", "(I)I"⟩
abbrev M_Model_order : MethodName × ByteArray × Nat × Option FieldType := (y_Model_order, prog_8_method_26_code, 7, (some .int))
def y_Model_isFree : MethodName := ⟨"PoolDeskModel", "isFree", "(I)Z"⟩
abbrev M_Model_isFree : MethodName × ByteArray × Nat × Option FieldType := (y_Model_isFree, prog_8_method_25_code, 3, (some .boolean))
def y_Model_row : MethodName := ⟨"PoolDeskModel", "row", "(II)J"⟩
abbrev M_Model_row : MethodName × ByteArray × Nat × Option FieldType := (y_Model_row, prog_8_method_27_code, 3, (some .long))
def y_Model_count : MethodName := ⟨"PoolDeskModel", "count", "(I)I"⟩
abbrev M_Model_count : MethodName × ByteArray × Nat × Option FieldType := (y_Model_count, prog_8_method_28_code, 4, (some .int))
def y_Model_fees : MethodName := ⟨"PoolDeskModel", "fees", "()J"⟩
abbrev M_Model_fees : MethodName × ByteArray × Nat × Option FieldType := (y_Model_fees, prog_8_method_29_code, 1, (some .long))
def y_Law_law : MethodName := ⟨"PoolDeskLaw", "law", "([I)Z"⟩
abbrev M_Law_law : MethodName × ByteArray × Nat × Option FieldType := (y_Law_law, code, 4, (some .boolean))
def ma_N : List (String × Nat × MethodName × String) := [("PoolDesk", 11, y_Name_init, "PoolDesk"), ("PoolDesk", 18, y_Keys_init, "PoolDesk"), ("PoolDesk$Pool", 17, y_Tx_init, "PoolDesk"), ("PoolDesk$Transaction", 9, y_Name_init, "PoolDesk"), ("PoolDesk$Transaction", 18, y_Keys_init, "PoolDesk"), ("PoolDesk", 32, y_Row_init, "PoolDesk"), ("PoolDesk$Pool", 22, y_Desk_has, "PoolDesk"), ("PoolDesk$Pool", 93, y_Desk_bit, "PoolDesk"), ("PoolDesk$Pool", 48, y_Desk_lowest, "PoolDesk"), ("PoolDesk$Pool", 144, y_Desk_compareRates, "PoolDesk")]
def ma_AO : List String := ["PoolDesk$Transaction"]
