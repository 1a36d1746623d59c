section
-- ===== PART A: goes FIRST, ahead of the names: the tables' words, and 'selects' of the private methods out of them =====
/-- a private method of a class that the tables say can be made, by its rows of tables_1 -/
def lw_okq (q : MethodName × Nat) : Prop := (q.1.cls ≠ "java/lang/invoke/MethodHandle" ∧ q.1.cls ≠ "java/lang/invoke/VarHandle") ∧ Cond.instantiable q.1.cls q.2 ∈ tables_1 ∧ Cond.privateMethod q.1 ∈ tables_1 ∧ Cond.instanceMethod q.1 ∈ tables_1
theorem lw_p0 : lw_okq (⟨"CallFilter$Policy", "isStricter", "(II)Z"⟩, 5) := ⟨⟨by decide +kernel, by decide +kernel⟩, List.mem_of_getElem? (i := 35) (by decide +kernel), List.mem_of_getElem? (i := 298) (by decide +kernel), List.mem_of_getElem? (i := 299) (by decide +kernel)⟩
theorem lw_p1 : lw_okq (⟨"CallFilter$Checker", "leastUnset", "(LCallFilter$Program;)I"⟩, 1) := ⟨⟨by decide +kernel, by decide +kernel⟩, List.mem_of_getElem? (i := 141) (by decide +kernel), List.mem_of_getElem? (i := 386) (by decide +kernel), List.mem_of_getElem? (i := 387) (by decide +kernel)⟩
theorem lw_p2 : lw_okq (⟨"CallFilter$Checker", "passOn", "(JII)V"⟩, 1) := ⟨⟨by decide +kernel, by decide +kernel⟩, List.mem_of_getElem? (i := 141) (by decide +kernel), List.mem_of_getElem? (i := 391) (by decide +kernel), List.mem_of_getElem? (i := 392) (by decide +kernel)⟩
theorem lw_p3 : lw_okq (⟨"CallFilter$Machine", "begin", "()V"⟩, 8) := ⟨⟨by decide +kernel, by decide +kernel⟩, List.mem_of_getElem? (i := 151) (by decide +kernel), List.mem_of_getElem? (i := 408) (by decide +kernel), List.mem_of_getElem? (i := 409) (by decide +kernel)⟩
theorem lw_p4 : lw_okq (⟨"CallFilter$Machine", "perform", "(JLCallFilter$Call;)V"⟩, 8) := ⟨⟨by decide +kernel, by decide +kernel⟩, List.mem_of_getElem? (i := 151) (by decide +kernel), List.mem_of_getElem? (i := 413) (by decide +kernel), List.mem_of_getElem? (i := 414) (by decide +kernel)⟩
theorem lw_p5 : lw_okq (⟨"CallFilter$Machine", "load", "(IILCallFilter$Call;)I"⟩, 8) := ⟨⟨by decide +kernel, by decide +kernel⟩, List.mem_of_getElem? (i := 151) (by decide +kernel), List.mem_of_getElem? (i := 419) (by decide +kernel), List.mem_of_getElem? (i := 420) (by decide +kernel)⟩
theorem lw_p6 : lw_okq (⟨"CallFilter$Machine", "store", "(II)V"⟩, 8) := ⟨⟨by decide +kernel, by decide +kernel⟩, List.mem_of_getElem? (i := 151) (by decide +kernel), List.mem_of_getElem? (i := 423) (by decide +kernel), List.mem_of_getElem? (i := 424) (by decide +kernel)⟩
theorem lw_p7 : lw_okq (⟨"CallFilter$Machine", "compute", "(II)V"⟩, 8) := ⟨⟨by decide +kernel, by decide +kernel⟩, List.mem_of_getElem? (i := 151) (by decide +kernel), List.mem_of_getElem? (i := 427) (by decide +kernel), List.mem_of_getElem? (i := 428) (by decide +kernel)⟩
theorem lw_p8 : lw_okq (⟨"CallFilter$Machine", "divide", "(I)V"⟩, 8) := ⟨⟨by decide +kernel, by decide +kernel⟩, List.mem_of_getElem? (i := 151) (by decide +kernel), List.mem_of_getElem? (i := 431) (by decide +kernel), List.mem_of_getElem? (i := 432) (by decide +kernel)⟩
theorem lw_p9 : lw_okq (⟨"CallFilter$Machine", "end", "(I)V"⟩, 8) := ⟨⟨by decide +kernel, by decide +kernel⟩, List.mem_of_getElem? (i := 151) (by decide +kernel), List.mem_of_getElem? (i := 435) (by decide +kernel), List.mem_of_getElem? (i := 436) (by decide +kernel)⟩
theorem lw_p10 : lw_okq (⟨"CallFilter$Machine", "jump", "(JII)V"⟩, 8) := ⟨⟨by decide +kernel, by decide +kernel⟩, List.mem_of_getElem? (i := 151) (by decide +kernel), List.mem_of_getElem? (i := 440) (by decide +kernel), List.mem_of_getElem? (i := 441) (by decide +kernel)⟩
theorem lw_p11 : lw_okq (⟨"CallFilter$Machine", "passes", "(II)Z"⟩, 8) := ⟨⟨by decide +kernel, by decide +kernel⟩, List.mem_of_getElem? (i := 151) (by decide +kernel), List.mem_of_getElem? (i := 444) (by decide +kernel), List.mem_of_getElem? (i := 445) (by decide +kernel)⟩
theorem lw_p12 : lw_okq (⟨"CallFilter$Machine", "copy", "(I)V"⟩, 8) := ⟨⟨by decide +kernel, by decide +kernel⟩, List.mem_of_getElem? (i := 151) (by decide +kernel), List.mem_of_getElem? (i := 450) (by decide +kernel), List.mem_of_getElem? (i := 451) (by decide +kernel)⟩
theorem lw_p13 : lw_okq (⟨"CallFilterModel", "plain", "(I)J"⟩, 20) := ⟨⟨by decide +kernel, by decide +kernel⟩, List.mem_of_getElem? (i := 470) (by decide +kernel), List.mem_of_getElem? (i := 568) (by decide +kernel), List.mem_of_getElem? (i := 569) (by decide +kernel)⟩
theorem lw_p14 : lw_okq (⟨"CallFilterModel", "matches", "(I)Z"⟩, 20) := ⟨⟨by decide +kernel, by decide +kernel⟩, List.mem_of_getElem? (i := 470) (by decide +kernel), List.mem_of_getElem? (i := 574) (by decide +kernel), List.mem_of_getElem? (i := 575) (by decide +kernel)⟩
theorem lw_p15 : lw_okq (⟨"CallFilterModel", "holds", "(I)Z"⟩, 20) := ⟨⟨by decide +kernel, by decide +kernel⟩, List.mem_of_getElem? (i := 470) (by decide +kernel), List.mem_of_getElem? (i := 578) (by decide +kernel), List.mem_of_getElem? (i := 579) (by decide +kernel)⟩
def lw_privs_1 : List (MethodName × Nat) := [(⟨"CallFilter$Policy", "isStricter", "(II)Z"⟩, 5), (⟨"CallFilter$Checker", "leastUnset", "(LCallFilter$Program;)I"⟩, 1), (⟨"CallFilter$Checker", "passOn", "(JII)V"⟩, 1), (⟨"CallFilter$Machine", "begin", "()V"⟩, 8), (⟨"CallFilter$Machine", "perform", "(JLCallFilter$Call;)V"⟩, 8), (⟨"CallFilter$Machine", "load", "(IILCallFilter$Call;)I"⟩, 8), (⟨"CallFilter$Machine", "store", "(II)V"⟩, 8), (⟨"CallFilter$Machine", "compute", "(II)V"⟩, 8), (⟨"CallFilter$Machine", "divide", "(I)V"⟩, 8), (⟨"CallFilter$Machine", "end", "(I)V"⟩, 8), (⟨"CallFilter$Machine", "jump", "(JII)V"⟩, 8), (⟨"CallFilter$Machine", "passes", "(II)Z"⟩, 8), (⟨"CallFilter$Machine", "copy", "(I)V"⟩, 8), (⟨"CallFilterModel", "plain", "(I)J"⟩, 20), (⟨"CallFilterModel", "matches", "(I)Z"⟩, 20), (⟨"CallFilterModel", "holds", "(I)Z"⟩, 20)]
theorem lw_r1 : ∀ q ∈ lw_privs_1, lw_okq q := List.forall_mem_cons.mpr ⟨lw_p0, List.forall_mem_cons.mpr ⟨lw_p1, List.forall_mem_cons.mpr ⟨lw_p2, List.forall_mem_cons.mpr ⟨lw_p3, List.forall_mem_cons.mpr ⟨lw_p4, List.forall_mem_cons.mpr ⟨lw_p5, List.forall_mem_cons.mpr ⟨lw_p6, List.forall_mem_cons.mpr ⟨lw_p7, List.forall_mem_cons.mpr ⟨lw_p8, List.forall_mem_cons.mpr ⟨lw_p9, List.forall_mem_cons.mpr ⟨lw_p10, List.forall_mem_cons.mpr ⟨lw_p11, List.forall_mem_cons.mpr ⟨lw_p12, List.forall_mem_cons.mpr ⟨lw_p13, List.forall_mem_cons.mpr ⟨lw_p14, List.forall_mem_cons.mpr ⟨lw_p15, fun _ h => absurd h List.not_mem_nil⟩⟩⟩⟩⟩⟩⟩⟩⟩⟩⟩⟩⟩⟩⟩⟩
theorem lw_p16 : lw_okq (⟨"CallFilterModel", "fault", "(I)I"⟩, 20) := ⟨⟨by decide +kernel, by decide +kernel⟩, List.mem_of_getElem? (i := 470) (by decide +kernel), List.mem_of_getElem? (i := 613) (by decide +kernel), List.mem_of_getElem? (i := 614) (by decide +kernel)⟩
theorem lw_p17 : lw_okq (⟨"CallFilterModel", "code", "(I)I"⟩, 20) := ⟨⟨by decide +kernel, by decide +kernel⟩, List.mem_of_getElem? (i := 470) (by decide +kernel), List.mem_of_getElem? (i := 617) (by decide +kernel), List.mem_of_getElem? (i := 618) (by decide +kernel)⟩
theorem lw_p18 : lw_okq (⟨"CallFilterModel", "k", "(I)J"⟩, 20) := ⟨⟨by decide +kernel, by decide +kernel⟩, List.mem_of_getElem? (i := 470) (by decide +kernel), List.mem_of_getElem? (i := 622) (by decide +kernel), List.mem_of_getElem? (i := 623) (by decide +kernel)⟩
theorem lw_p19 : lw_okq (⟨"CallFilterModel", "jump", "(IZ)I"⟩, 20) := ⟨⟨by decide +kernel, by decide +kernel⟩, List.mem_of_getElem? (i := 470) (by decide +kernel), List.mem_of_getElem? (i := 642) (by decide +kernel), List.mem_of_getElem? (i := 643) (by decide +kernel)⟩
theorem lw_p20 : lw_okq (⟨"CallFilterModel", "ends", "(I)Z"⟩, 20) := ⟨⟨by decide +kernel, by decide +kernel⟩, List.mem_of_getElem? (i := 470) (by decide +kernel), List.mem_of_getElem? (i := 647) (by decide +kernel), List.mem_of_getElem? (i := 648) (by decide +kernel)⟩
theorem lw_p21 : lw_okq (⟨"CallFilterModel", "bare", "(IJ)Z"⟩, 20) := ⟨⟨by decide +kernel, by decide +kernel⟩, List.mem_of_getElem? (i := 470) (by decide +kernel), List.mem_of_getElem? (i := 651) (by decide +kernel), List.mem_of_getElem? (i := 652) (by decide +kernel)⟩
theorem lw_p22 : lw_okq (⟨"CallFilterModel", "combine", "(IJ)J"⟩, 20) := ⟨⟨by decide +kernel, by decide +kernel⟩, List.mem_of_getElem? (i := 470) (by decide +kernel), List.mem_of_getElem? (i := 661) (by decide +kernel), List.mem_of_getElem? (i := 662) (by decide +kernel)⟩
theorem lw_p23 : lw_okq (⟨"CallFilterModel", "asks", "(IJ)Z"⟩, 20) := ⟨⟨by decide +kernel, by decide +kernel⟩, List.mem_of_getElem? (i := 470) (by decide +kernel), List.mem_of_getElem? (i := 666) (by decide +kernel), List.mem_of_getElem? (i := 667) (by decide +kernel)⟩
theorem lw_p24 : lw_okq (⟨"CallFilterModel", "move", "(IJ)V"⟩, 20) := ⟨⟨by decide +kernel, by decide +kernel⟩, List.mem_of_getElem? (i := 470) (by decide +kernel), List.mem_of_getElem? (i := 670) (by decide +kernel), List.mem_of_getElem? (i := 671) (by decide +kernel)⟩
def lw_privs_2 : List (MethodName × Nat) := [(⟨"CallFilterModel", "fault", "(I)I"⟩, 20), (⟨"CallFilterModel", "code", "(I)I"⟩, 20), (⟨"CallFilterModel", "k", "(I)J"⟩, 20), (⟨"CallFilterModel", "jump", "(IZ)I"⟩, 20), (⟨"CallFilterModel", "ends", "(I)Z"⟩, 20), (⟨"CallFilterModel", "bare", "(IJ)Z"⟩, 20), (⟨"CallFilterModel", "combine", "(IJ)J"⟩, 20), (⟨"CallFilterModel", "asks", "(IJ)Z"⟩, 20), (⟨"CallFilterModel", "move", "(IJ)V"⟩, 20)]
theorem lw_r2 : ∀ q ∈ lw_privs_2, lw_okq q := List.forall_mem_cons.mpr ⟨lw_p16, List.forall_mem_cons.mpr ⟨lw_p17, List.forall_mem_cons.mpr ⟨lw_p18, List.forall_mem_cons.mpr ⟨lw_p19, List.forall_mem_cons.mpr ⟨lw_p20, List.forall_mem_cons.mpr ⟨lw_p21, List.forall_mem_cons.mpr ⟨lw_p22, List.forall_mem_cons.mpr ⟨lw_p23, List.forall_mem_cons.mpr ⟨lw_p24, fun _ h => absurd h List.not_mem_nil⟩⟩⟩⟩⟩⟩⟩⟩⟩
def lw_privs : List (MethodName × Nat) := lw_privs_1 ++ (lw_privs_2)
def lw_tbl : List Cond := k2_sels lw_privs ++ tables_1
theorem lw_privs_ok : ∀ q ∈ lw_privs, lw_okq q := by
  show ∀ q ∈ lw_privs_1 ++ (lw_privs_2), lw_okq q
  exact List.forall_mem_append.mpr ⟨lw_r1, lw_r2⟩
-- ===== end of PART A; then your names; then what follows =====
end
section
def R_F : String := "CallFilter"
def F_F : u_T := fun k => match k with
  | 0 => ("CallFilter", "call", "LCallFilter$Call;", true)
  | 1 => ("CallFilter", "policy", "LCallFilter$Policy;", true)
  | 2 => ("CallFilter", "program", "LCallFilter$Program;", true)
  | 3 => ("CallFilter", "checker", "LCallFilter$Checker;", true)
  | _ => ("CallFilter", "machine", "LCallFilter$Machine;", true)
def t_F : Nat → FieldType := fun k => match k with
  | 0 => .object "CallFilter$Call"
  | 1 => .object "CallFilter$Policy"
  | 2 => .object "CallFilter$Program"
  | 3 => .object "CallFilter$Checker"
  | _ => .object "CallFilter$Machine"
theorem n_F : ∀ a, a < 5 → ∀ b, b < 5 → a ≠ b → (F_F a).2.1 ≠ (F_F b).2.1 := by decide +kernel
theorem k_F : ∀ k, k < 5 → parseFieldDescriptor (F_F k).2.2.1 = some (t_F k) := by decide +kernel
def R_Ca : String := "CallFilter$Call"
def F_Ca : u_T := fun k => match k with
  | _ => ("CallFilter$Call", "words", "[I", true)
def t_Ca : Nat → FieldType := fun k => match k with
  | _ => .array .int
theorem n_Ca : ∀ a, a < 1 → ∀ b, b < 1 → a ≠ b → (F_Ca a).2.1 ≠ (F_Ca b).2.1 := by decide +kernel
theorem k_Ca : ∀ k, k < 1 → parseFieldDescriptor (F_Ca k).2.2.1 = some (t_Ca k) := by decide +kernel
def R_Ac : String := "CallFilter$Action"
def F_Ac : u_T := fun k => match k with
  | 0 => ("CallFilter$Action", "kind", "I", false)
  | _ => ("CallFilter$Action", "data", "I", false)
def t_Ac : Nat → FieldType := fun k => match k with
  | 0 => .int
  | _ => .int
theorem n_Ac : ∀ a, a < 2 → ∀ b, b < 2 → a ≠ b → (F_Ac a).2.1 ≠ (F_Ac b).2.1 := by decide +kernel
theorem k_Ac : ∀ k, k < 2 → parseFieldDescriptor (F_Ac k).2.2.1 = some (t_Ac k) := by decide +kernel
def R_Ch : String := "CallFilter$Checker"
def F_Ch : u_T := fun k => match k with
  | _ => ("CallFilter$Checker", "surelyStored", "[I", true)
def t_Ch : Nat → FieldType := fun k => match k with
  | _ => .array .int
theorem n_Ch : ∀ a, a < 1 → ∀ b, b < 1 → a ≠ b → (F_Ch a).2.1 ≠ (F_Ch b).2.1 := by decide +kernel
theorem k_Ch : ∀ k, k < 1 → parseFieldDescriptor (F_Ch k).2.2.1 = some (t_Ch k) := by decide +kernel
def R_Co : String := "CallFilter$Condition"
def F_Co : u_T := fun k => match k with
  | 0 => ("CallFilter$Condition", "place", "I", false)
  | 1 => ("CallFilter$Condition", "operator", "I", false)
  | 2 => ("CallFilter$Condition", "value", "J", false)
  | _ => ("CallFilter$Condition", "mask", "J", false)
def t_Co : Nat → FieldType := fun k => match k with
  | 0 => .int
  | 1 => .int
  | 2 => .long
  | _ => .long
theorem n_Co : ∀ a, a < 4 → ∀ b, b < 4 → a ≠ b → (F_Co a).2.1 ≠ (F_Co b).2.1 := by decide +kernel
theorem k_Co : ∀ k, k < 4 → parseFieldDescriptor (F_Co k).2.2.1 = some (t_Co k) := by decide +kernel
def R_In : String := "CallFilter$Instruction"
def F_In : u_T := fun k => match k with
  | _ => ("", "", "", false)
def t_In : Nat → FieldType := fun k => match k with
  | _ => .int
def R_Ma : String := "CallFilter$Machine"
def F_Ma : u_T := fun k => match k with
  | 0 => ("CallFilter$Machine", "cells", "[I", true)
  | 1 => ("CallFilter$Machine", "done", "I", false)
  | 2 => ("CallFilter$Machine", "storedCells", "I", false)
  | 3 => ("CallFilter$Machine", "a", "I", false)
  | 4 => ("CallFilter$Machine", "x", "I", false)
  | 5 => ("CallFilter$Machine", "next", "I", false)
  | 6 => ("CallFilter$Machine", "ended", "Z", false)
  | _ => ("CallFilter$Machine", "result", "I", false)
def t_Ma : Nat → FieldType := fun k => match k with
  | 0 => .array .int
  | 1 => .int
  | 2 => .int
  | 3 => .int
  | 4 => .int
  | 5 => .int
  | 6 => .boolean
  | _ => .int
theorem n_Ma : ∀ a, a < 8 → ∀ b, b < 8 → a ≠ b → (F_Ma a).2.1 ≠ (F_Ma b).2.1 := by decide +kernel
theorem k_Ma : ∀ k, k < 8 → parseFieldDescriptor (F_Ma k).2.2.1 = some (t_Ma k) := by decide +kernel
def R_Po : String := "CallFilter$Policy"
def F_Po : u_T := fun k => match k with
  | 0 => ("CallFilter$Policy", "defaultAction", "LCallFilter$Action;", true)
  | 1 => ("CallFilter$Policy", "foreignAction", "LCallFilter$Action;", true)
  | 2 => ("CallFilter$Policy", "rules", "[LCallFilter$Rule;", true)
  | 3 => ("CallFilter$Policy", "count", "I", false)
  | _ => ("CallFilter$Policy", "architecture", "I", true)
def t_Po : Nat → FieldType := fun k => match k with
  | 0 => .object "CallFilter$Action"
  | 1 => .object "CallFilter$Action"
  | 2 => .array (.object "CallFilter$Rule")
  | 3 => .int
  | _ => .int
theorem n_Po : ∀ a, a < 5 → ∀ b, b < 5 → a ≠ b → (F_Po a).2.1 ≠ (F_Po b).2.1 := by decide +kernel
theorem k_Po : ∀ k, k < 5 → parseFieldDescriptor (F_Po k).2.2.1 = some (t_Po k) := by decide +kernel
def R_Pr : String := "CallFilter$Program"
def F_Pr : u_T := fun k => match k with
  | 0 => ("CallFilter$Program", "instructions", "[J", true)
  | _ => ("CallFilter$Program", "count", "I", false)
def t_Pr : Nat → FieldType := fun k => match k with
  | 0 => .array .long
  | _ => .int
theorem n_Pr : ∀ a, a < 2 → ∀ b, b < 2 → a ≠ b → (F_Pr a).2.1 ≠ (F_Pr b).2.1 := by decide +kernel
theorem k_Pr : ∀ k, k < 2 → parseFieldDescriptor (F_Pr k).2.2.1 = some (t_Pr k) := by decide +kernel
def R_Ru : String := "CallFilter$Rule"
def F_Ru : u_T := fun k => match k with
  | 0 => ("CallFilter$Rule", "action", "LCallFilter$Action;", true)
  | 1 => ("CallFilter$Rule", "count", "I", false)
  | 2 => ("CallFilter$Rule", "from", "I", false)
  | 3 => ("CallFilter$Rule", "to", "I", false)
  | _ => ("CallFilter$Rule", "conditions", "[LCallFilter$Condition;", true)
def t_Ru : Nat → FieldType := fun k => match k with
  | 0 => .object "CallFilter$Action"
  | 1 => .int
  | 2 => .int
  | 3 => .int
  | _ => .array (.object "CallFilter$Condition")
theorem n_Ru : ∀ a, a < 5 → ∀ b, b < 5 → a ≠ b → (F_Ru a).2.1 ≠ (F_Ru b).2.1 := by decide +kernel
theorem k_Ru : ∀ k, k < 5 → parseFieldDescriptor (F_Ru k).2.2.1 = some (t_Ru k) := by decide +kernel
def R_M : String := "CallFilterModel"
def F_M : u_T := fun k => match k with
  | 0 => ("CallFilterModel", "home", "I", true)
  | 1 => ("CallFilterModel", "wordsOf", "[I", true)
  | 2 => ("CallFilterModel", "rules", "I", false)
  | 3 => ("CallFilterModel", "low", "[I", true)
  | 4 => ("CallFilterModel", "high", "[I", true)
  | 5 => ("CallFilterModel", "kinds", "[I", true)
  | 6 => ("CallFilterModel", "extra", "[I", true)
  | 7 => ("CallFilterModel", "conditions", "[I", true)
  | 8 => ("CallFilterModel", "which", "[I", true)
  | 9 => ("CallFilterModel", "how", "[I", true)
  | 10 => ("CallFilterModel", "values", "[J", true)
  | 11 => ("CallFilterModel", "masks", "[J", true)
  | 12 => ("CallFilterModel", "size", "I", false)
  | 13 => ("CallFilterModel", "program", "[J", true)
  | 14 => ("CallFilterModel", "mark", "[Z", true)
  | 15 => ("CallFilterModel", "done", "I", false)
  | 16 => ("CallFilterModel", "a", "J", false)
  | 17 => ("CallFilterModel", "x", "J", false)
  | 18 => ("CallFilterModel", "cells", "[J", true)
  | _ => ("CallFilterModel", "stored", "[Z", true)
def t_M : Nat → FieldType := fun k => match k with
  | 0 => .int
  | 1 => .array .int
  | 2 => .int
  | 3 => .array .int
  | 4 => .array .int
  | 5 => .array .int
  | 6 => .array .int
  | 7 => .array .int
  | 8 => .array .int
  | 9 => .array .int
  | 10 => .array .long
  | 11 => .array .long
  | 12 => .int
  | 13 => .array .long
  | 14 => .array .boolean
  | 15 => .int
  | 16 => .long
  | 17 => .long
  | 18 => .array .long
  | _ => .array .boolean
theorem n_M : ∀ a, a < 20 → ∀ b, b < 20 → a ≠ b → (F_M a).2.1 ≠ (F_M b).2.1 := by decide +kernel
theorem k_M : ∀ k, k < 20 → parseFieldDescriptor (F_M k).2.2.1 = some (t_M k) := by decide +kernel
def R_L : String := "CallFilterLaw"
abbrev b_F_init : ByteArray := prog_1_method_1_code
def y_F_init : MethodName := ⟨R_F, "<init>", "(I)V"⟩
abbrev b_Ca_init : ByteArray := prog_3_method_1_code
def y_Ca_init : MethodName := ⟨R_Ca, "<init>", "()V"⟩
abbrev b_Po_init : ByteArray := prog_8_method_1_code
def y_Po_init : MethodName := ⟨R_Po, "<init>", "(I)V"⟩
abbrev b_Ac_init : ByteArray := prog_2_method_1_code
def y_Ac_init : MethodName := ⟨R_Ac, "<init>", "(I)V"⟩
abbrev b_Ru_init : ByteArray := prog_10_method_1_code
def y_Ru_init : MethodName := ⟨R_Ru, "<init>", "()V"⟩
abbrev b_Co_init : ByteArray := prog_5_method_1_code
def y_Co_init : MethodName := ⟨R_Co, "<init>", "()V"⟩
abbrev b_Pr_init : ByteArray := prog_9_method_1_code
def y_Pr_init : MethodName := ⟨R_Pr, "<init>", "()V"⟩
abbrev b_Ch_init : ByteArray := prog_4_method_1_code
def y_Ch_init : MethodName := ⟨R_Ch, "<init>", "()V"⟩
abbrev b_Ma_init : ByteArray := prog_7_method_1_code
def y_Ma_init : MethodName := ⟨R_Ma, "<init>", "()V"⟩
abbrev b_F_word : ByteArray := prog_1_method_2_code
def y_F_word : MethodName := ⟨R_F, "word", "(II)Z"⟩
abbrev b_F_argument : ByteArray := prog_1_method_3_code
def y_F_argument : MethodName := ⟨R_F, "argument", "(IJ)Z"⟩
abbrev b_Ca_hasArgument : ByteArray := prog_3_method_2_code
def y_Ca_hasArgument : MethodName := ⟨R_Ca, "hasArgument", "(I)Z"⟩
abbrev b_Ca_setArgument : ByteArray := prog_3_method_3_code
def y_Ca_setArgument : MethodName := ⟨R_Ca, "setArgument", "(IJ)V"⟩
abbrev b_F_rule : ByteArray := prog_1_method_4_code
def y_F_rule : MethodName := ⟨R_F, "rule", "(IIII)I"⟩
abbrev b_Ac_isPossible : ByteArray := prog_2_method_2_code
def y_Ac_isPossible : MethodName := ⟨R_Ac, "isPossible", "(II)Z"⟩
abbrev b_Po_add : ByteArray := prog_8_method_2_code
def y_Po_add : MethodName := ⟨R_Po, "add", "(IIII)I"⟩
abbrev b_Ru_become : ByteArray := prog_10_method_2_code
def y_Ru_become : MethodName := ⟨R_Ru, "become", "(IIII)V"⟩
abbrev b_Ac_become : ByteArray := prog_2_method_3_code
def y_Ac_become : MethodName := ⟨R_Ac, "become", "(II)V"⟩
abbrev b_F_condition : ByteArray := prog_1_method_5_code
def y_F_condition : MethodName := ⟨R_F, "condition", "(IIJJ)Z"⟩
abbrev b_Co_isOperator : ByteArray := prog_5_method_2_code
def y_Co_isOperator : MethodName := ⟨R_Co, "isOperator", "(I)Z"⟩
abbrev b_Ru_add : ByteArray := prog_10_method_3_code
def y_Ru_add : MethodName := ⟨R_Ru, "add", "(IIJJ)V"⟩
abbrev b_Co_become : ByteArray := prog_5_method_3_code
def y_Co_become : MethodName := ⟨R_Co, "become", "(IIJJ)V"⟩
abbrev b_F_otherwise : ByteArray := prog_1_method_6_code
def y_F_otherwise : MethodName := ⟨R_F, "otherwise", "(ZII)Z"⟩
abbrev b_F_withdraw : ByteArray := prog_1_method_7_code
def y_F_withdraw : MethodName := ⟨R_F, "withdraw", "()I"⟩
abbrev b_F_decide : ByteArray := prog_1_method_8_code
def y_F_decide : MethodName := ⟨R_F, "decide", "()J"⟩
abbrev b_Po_chooseFor : ByteArray := prog_8_method_3_code
def y_Po_chooseFor : MethodName := ⟨R_Po, "chooseFor", "(LCallFilter$Call;)I"⟩
abbrev b_Ca_isForeignTo : ByteArray := prog_3_method_6_code
def y_Ca_isForeignTo : MethodName := ⟨R_Ca, "isForeignTo", "(I)Z"⟩
abbrev b_Ca_number : ByteArray := prog_3_method_5_code
def y_Ca_number : MethodName := ⟨R_Ca, "number", "()I"⟩
abbrev b_F_unsigned : ByteArray := prog_1_method_17_code
def y_F_unsigned : MethodName := ⟨R_F, "unsigned", "(I)J"⟩
abbrev b_Ru_matches : ByteArray := prog_10_method_4_code
def y_Ru_matches : MethodName := ⟨R_Ru, "matches", "(LCallFilter$Call;)Z"⟩
abbrev b_Co_holdsFor : ByteArray := prog_5_method_4_code
def y_Co_holdsFor : MethodName := ⟨R_Co, "holdsFor", "(LCallFilter$Call;)Z"⟩
abbrev b_Ca_getArgument : ByteArray := prog_3_method_4_code
def y_Ca_getArgument : MethodName := ⟨R_Ca, "getArgument", "(I)J"⟩
abbrev b_Co_isBelow : ByteArray := prog_5_method_5_code
def y_Co_isBelow : MethodName := ⟨R_Co, "isBelow", "(JJ)Z"⟩
abbrev b_Po_isStricter : ByteArray := prog_8_method_4_code
def y_Po_isStricter : MethodName := ⟨R_Po, "isStricter", "(II)Z"⟩
abbrev b_Po_actionOf : ByteArray := prog_8_method_5_code
def y_Po_actionOf : MethodName := ⟨R_Po, "actionOf", "(I)LCallFilter$Action;"⟩
abbrev b_Ac_asWord : ByteArray := prog_2_method_4_code
def y_Ac_asWord : MethodName := ⟨R_Ac, "asWord", "()J"⟩
abbrev b_F_ruling : ByteArray := prog_1_method_9_code
def y_F_ruling : MethodName := ⟨R_F, "ruling", "()I"⟩
abbrev b_F_put : ByteArray := prog_1_method_10_code
def y_F_put : MethodName := ⟨R_F, "put", "(J)Z"⟩
abbrev b_F_cut : ByteArray := prog_1_method_11_code
def y_F_cut : MethodName := ⟨R_F, "cut", "(I)I"⟩
abbrev b_F_length : ByteArray := prog_1_method_12_code
def y_F_length : MethodName := ⟨R_F, "length", "()I"⟩
abbrev b_F_check : ByteArray := prog_1_method_13_code
def y_F_check : MethodName := ⟨R_F, "check", "()I"⟩
abbrev b_Ch_verdictOn : ByteArray := prog_4_method_2_code
def y_Ch_verdictOn : MethodName := ⟨R_Ch, "verdictOn", "(LCallFilter$Program;)I"⟩
abbrev b_Ch_ownFault : ByteArray := prog_4_method_3_code
def y_Ch_ownFault : MethodName := ⟨R_Ch, "ownFault", "(LCallFilter$Program;I)I"⟩
abbrev b_In_codeOf : ByteArray := prog_6_method_2_code
def y_In_codeOf : MethodName := ⟨R_In, "codeOf", "(J)I"⟩
abbrev b_In_isKnown : ByteArray := prog_6_method_6_code
def y_In_isKnown : MethodName := ⟨R_In, "isKnown", "(I)Z"⟩
abbrev b_In_isArithmetic : ByteArray := prog_6_method_7_code
def y_In_isArithmetic : MethodName := ⟨R_In, "isArithmetic", "(I)Z"⟩
abbrev b_In_isConditional : ByteArray := prog_6_method_8_code
def y_In_isConditional : MethodName := ⟨R_In, "isConditional", "(I)Z"⟩
abbrev b_In_endsRun : ByteArray := prog_6_method_9_code
def y_In_endsRun : MethodName := ⟨R_In, "endsRun", "(I)Z"⟩
abbrev b_In_operandOf : ByteArray := prog_6_method_5_code
def y_In_operandOf : MethodName := ⟨R_In, "operandOf", "(J)J"⟩
abbrev b_Ch_isOperandFit : ByteArray := prog_4_method_4_code
def y_Ch_isOperandFit : MethodName := ⟨R_Ch, "isOperandFit", "(IJ)Z"⟩
abbrev b_In_loadsCell : ByteArray := prog_6_method_10_code
def y_In_loadsCell : MethodName := ⟨R_In, "loadsCell", "(I)Z"⟩
abbrev b_In_storesCell : ByteArray := prog_6_method_11_code
def y_In_storesCell : MethodName := ⟨R_In, "storesCell", "(I)Z"⟩
abbrev b_Ch_longestSkip : ByteArray := prog_4_method_5_code
def y_Ch_longestSkip : MethodName := ⟨R_Ch, "longestSkip", "(IJ)J"⟩
abbrev b_In_distanceIfTrue : ByteArray := prog_6_method_3_code
def y_In_distanceIfTrue : MethodName := ⟨R_In, "distanceIfTrue", "(J)I"⟩
abbrev b_In_distanceIfFalse : ByteArray := prog_6_method_4_code
def y_In_distanceIfFalse : MethodName := ⟨R_In, "distanceIfFalse", "(J)I"⟩
abbrev b_Ch_leastUnset : ByteArray := prog_4_method_6_code
def y_Ch_leastUnset : MethodName := ⟨R_Ch, "leastUnset", "(LCallFilter$Program;)I"⟩
abbrev b_Ch_passOn : ByteArray := prog_4_method_7_code
def y_Ch_passOn : MethodName := ⟨R_Ch, "passOn", "(JII)V"⟩
abbrev b_F_run : ByteArray := prog_1_method_14_code
def y_F_run : MethodName := ⟨R_F, "run", "()J"⟩
abbrev b_Ma_forget : ByteArray := prog_7_method_2_code
def y_Ma_forget : MethodName := ⟨R_Ma, "forget", "()V"⟩
abbrev b_Ma_execute : ByteArray := prog_7_method_4_code
def y_Ma_execute : MethodName := ⟨R_Ma, "execute", "(LCallFilter$Program;LCallFilter$Call;)J"⟩
abbrev b_Ma_begin : ByteArray := prog_7_method_5_code
def y_Ma_begin : MethodName := ⟨R_Ma, "begin", "()V"⟩
abbrev b_Ma_perform : ByteArray := prog_7_method_6_code
def y_Ma_perform : MethodName := ⟨R_Ma, "perform", "(JLCallFilter$Call;)V"⟩
abbrev b_Ma_load : ByteArray := prog_7_method_7_code
def y_Ma_load : MethodName := ⟨R_Ma, "load", "(IILCallFilter$Call;)I"⟩
abbrev b_Ma_store : ByteArray := prog_7_method_8_code
def y_Ma_store : MethodName := ⟨R_Ma, "store", "(II)V"⟩
abbrev b_Ma_compute : ByteArray := prog_7_method_10_code
def y_Ma_compute : MethodName := ⟨R_Ma, "compute", "(II)V"⟩
abbrev b_Ma_divide : ByteArray := prog_7_method_11_code
def y_Ma_divide : MethodName := ⟨R_Ma, "divide", "(I)V"⟩
abbrev b_Ma_end : ByteArray := prog_7_method_14_code
def y_Ma_end : MethodName := ⟨R_Ma, "end", "(I)V"⟩
abbrev b_Ma_jump : ByteArray := prog_7_method_12_code
def y_Ma_jump : MethodName := ⟨R_Ma, "jump", "(JII)V"⟩
abbrev b_Ma_passes : ByteArray := prog_7_method_13_code
def y_Ma_passes : MethodName := ⟨R_Ma, "passes", "(II)Z"⟩
abbrev b_Ma_copy : ByteArray := prog_7_method_9_code
def y_Ma_copy : MethodName := ⟨R_Ma, "copy", "(I)V"⟩
abbrev b_F_steps : ByteArray := prog_1_method_15_code
def y_F_steps : MethodName := ⟨R_F, "steps", "()I"⟩
abbrev b_F_scratch : ByteArray := prog_1_method_16_code
def y_F_scratch : MethodName := ⟨R_F, "scratch", "(I)J"⟩
abbrev b_Ma_hasStored : ByteArray := prog_7_method_3_code
def y_Ma_hasStored : MethodName := ⟨R_Ma, "hasStored", "(I)Z"⟩
abbrev b_L_cell : ByteArray := method_2_code
def y_L_cell : MethodName := ⟨R_L, "cell", "([II)I"⟩
abbrev b_M_init : ByteArray := prog_12_method_1_code
def y_M_init : MethodName := ⟨R_M, "<init>", "(I)V"⟩
abbrev b_M_word : ByteArray := prog_12_method_2_code
def y_M_word : MethodName := ⟨R_M, "word", "(II)Z"⟩
abbrev b_M_argument : ByteArray := prog_12_method_3_code
def y_M_argument : MethodName := ⟨R_M, "argument", "(IJ)Z"⟩
abbrev b_M_rule : ByteArray := prog_12_method_5_code
def y_M_rule : MethodName := ⟨R_M, "rule", "(IIII)I"⟩
abbrev b_M_condition : ByteArray := prog_12_method_6_code
def y_M_condition : MethodName := ⟨R_M, "condition", "(IIJJ)Z"⟩
abbrev b_M_otherwise : ByteArray := prog_12_method_7_code
def y_M_otherwise : MethodName := ⟨R_M, "otherwise", "(ZII)Z"⟩
abbrev b_M_withdraw : ByteArray := prog_12_method_8_code
def y_M_withdraw : MethodName := ⟨R_M, "withdraw", "()I"⟩
abbrev b_M_ruling : ByteArray := prog_12_method_12_code
def y_M_ruling : MethodName := ⟨R_M, "ruling", "()I"⟩
abbrev b_M_plain : ByteArray := prog_12_method_4_code
def y_M_plain : MethodName := ⟨R_M, "plain", "(I)J"⟩
abbrev b_M_matches : ByteArray := prog_12_method_11_code
def y_M_matches : MethodName := ⟨R_M, "matches", "(I)Z"⟩
abbrev b_M_holds : ByteArray := prog_12_method_10_code
def y_M_holds : MethodName := ⟨R_M, "holds", "(I)Z"⟩
abbrev b_M_below : ByteArray := prog_12_method_9_code
def y_M_below : MethodName := ⟨R_M, "below", "(JJ)Z"⟩
abbrev b_M_decide : ByteArray := prog_12_method_13_code
def y_M_decide : MethodName := ⟨R_M, "decide", "()J"⟩
abbrev b_M_put : ByteArray := prog_12_method_14_code
def y_M_put : MethodName := ⟨R_M, "put", "(J)Z"⟩
abbrev b_M_cut : ByteArray := prog_12_method_15_code
def y_M_cut : MethodName := ⟨R_M, "cut", "(I)I"⟩
abbrev b_M_length : ByteArray := prog_12_method_16_code
def y_M_length : MethodName := ⟨R_M, "length", "()I"⟩
abbrev b_M_check : ByteArray := prog_12_method_27_code
def y_M_check : MethodName := ⟨R_M, "check", "()I"⟩
abbrev b_M_fault : ByteArray := prog_12_method_24_code
def y_M_fault : MethodName := ⟨R_M, "fault", "(I)I"⟩
abbrev b_M_code : ByteArray := prog_12_method_17_code
def y_M_code : MethodName := ⟨R_M, "code", "(I)I"⟩
abbrev b_M_k : ByteArray := prog_12_method_18_code
def y_M_k : MethodName := ⟨R_M, "k", "(I)J"⟩
abbrev b_M_operation : ByteArray := prog_12_method_20_code
def y_M_operation : MethodName := ⟨R_M, "operation", "(I)Z"⟩
abbrev b_M_branch : ByteArray := prog_12_method_21_code
def y_M_branch : MethodName := ⟨R_M, "branch", "(I)Z"⟩
abbrev b_M_plainCode : ByteArray := prog_12_method_22_code
def y_M_plainCode : MethodName := ⟨R_M, "plainCode", "(I)Z"⟩
abbrev b_M_scratchCode : ByteArray := prog_12_method_23_code
def y_M_scratchCode : MethodName := ⟨R_M, "scratchCode", "(I)Z"⟩
abbrev b_M_jump : ByteArray := prog_12_method_19_code
def y_M_jump : MethodName := ⟨R_M, "jump", "(IZ)I"⟩
abbrev b_M_ends : ByteArray := prog_12_method_25_code
def y_M_ends : MethodName := ⟨R_M, "ends", "(I)Z"⟩
abbrev b_M_bare : ByteArray := prog_12_method_26_code
def y_M_bare : MethodName := ⟨R_M, "bare", "(IJ)Z"⟩
abbrev b_M_run : ByteArray := prog_12_method_31_code
def y_M_run : MethodName := ⟨R_M, "run", "()J"⟩
abbrev b_M_combine : ByteArray := prog_12_method_28_code
def y_M_combine : MethodName := ⟨R_M, "combine", "(IJ)J"⟩
abbrev b_M_asks : ByteArray := prog_12_method_29_code
def y_M_asks : MethodName := ⟨R_M, "asks", "(IJ)Z"⟩
abbrev b_M_move : ByteArray := prog_12_method_30_code
def y_M_move : MethodName := ⟨R_M, "move", "(IJ)V"⟩
abbrev b_M_steps : ByteArray := prog_12_method_32_code
def y_M_steps : MethodName := ⟨R_M, "steps", "()I"⟩
abbrev b_M_scratch : ByteArray := prog_12_method_33_code
def y_M_scratch : MethodName := ⟨R_M, "scratch", "(I)J"⟩
end
section
/-- what the calls of nest mates and the arrays of references need of the tables -/
def NW (U : State) : Prop := va_Nw (Cond.methodLinkNest R_F 9 y_Ca_init R_F) U ∧ va_Nw (Cond.methodLinkNest R_Ru 24 y_Co_init R_F) U ∧ va_Nw (Cond.methodLinkNest R_F 27 y_Pr_init R_F) U ∧ va_Nw (Cond.methodLinkNest R_F 34 y_Ch_init R_F) U ∧ va_Nw (Cond.methodLinkNest R_F 41 y_Ma_init R_F) U ∧ va_Nw (Cond.methodLinkNest R_Ca 13 y_F_unsigned R_F) U ∧ va_Nw (Cond.methodLinkNest R_Ma 46 y_F_unsigned R_F) U ∧ va_AO "CallFilter$Rule" U ∧ va_AO "CallFilter$Condition" U
theorem NW_warm {s U : State} (hW : s.WarmedH U.vm) (h : NW s) : NW U := ⟨va_Nw.warmM hW h.1, va_Nw.warmM hW h.2.1, va_Nw.warmM hW h.2.2.1, va_Nw.warmM hW h.2.2.2.1, va_Nw.warmM hW h.2.2.2.2.1, va_Nw.warmM hW h.2.2.2.2.2.1, va_Nw.warmM hW h.2.2.2.2.2.2.1, va_AO.moved hW.alike h.2.2.2.2.2.2.2.1, va_AO.moved hW.alike h.2.2.2.2.2.2.2.2⟩
theorem NW_same {s U : State} (hv : s.vm = U.vm) (h : NW s) : NW U := ⟨va_tabs rfl hv h.1, va_tabs rfl hv h.2.1, va_tabs rfl hv h.2.2.1, va_tabs rfl hv h.2.2.2.1, va_tabs rfl hv h.2.2.2.2.1, va_tabs rfl hv h.2.2.2.2.2.1, va_tabs rfl hv h.2.2.2.2.2.2.1, va_AO.moved (by rw [hv]; exact Vm.Alike.refl _) h.2.2.2.2.2.2.2.1, va_AO.moved (by rw [hv]; exact Vm.Alike.refl _) h.2.2.2.2.2.2.2.2⟩
/-- an answer that is a place, and nothing changed -/
def vp_Sr (post : Nat → Prop) : Array Value → State → Outcome → State → Prop := fun _ st o t => ∃ r : Nat, o = .returned (some (.ref r)) ∧ post r ∧ t.heap = st.heap
theorem vp_cl {x : Int32} {n : Nat} (h : vp_in x n) : x.toNatClampNeg < n := Nat.lt_of_not_le (fun q => h (Or.inr q))
section WL
variable {p : Program} {l : Launch} {e : Env} {R : Room} {s : State} {m : MethodId} {args : Array Value} {below : List Frame} {meth : Method} {c : Code} {H : Heap} {locs : List Loc} {cells slots : Nat} {Q : State → Prop} {pc : Nat} {ls : Array Slot}
theorem W_join {pc' : Nat} {st : List Value} {v : Value} {rest : List Value} (h : W p l e R s m args below meth c H locs cells slots Q (F0 m pc' ls (v :: rest)) → W p l e R s m args below meth c H locs cells slots Q (F0 m pc ls st)) (k : W p l e R s m args below meth c H locs cells slots Q (F0 m pc' ls (v :: rest))) : W p l e R s m args below meth c H locs cells slots Q (F0 m pc ls st) := h k
theorem W_cut {E : Prop} {pc' : Nat} {st : List Value} (h : (E → W p l e R s m args below meth c H locs cells slots Q (F0 m pc' ls st)) → W p l e R s m args below meth c H locs cells slots Q (F0 m pc ls st)) (k : E → W p l e R s m args below meth c H locs cells slots Q (F0 m pc' ls st)) : W p l e R s m args below meth c H locs cells slots Q (F0 m pc ls st) := h k
theorem W_loopR1 {α1 : Type} (X : Nat → α1 → Array Slot → Prop) (n : Nat) (a1 : α1) (h : X n a1 ls) (hz : ∀ (a1 : α1) (ls : Array Slot), ¬ X 0 a1 ls) (hs : ∀ n : Nat, (∀ (a1 : α1) (ls : Array Slot), X n a1 ls → W p l e R s m args below meth c H locs cells slots Q (F0 m pc ls [])) → ∀ (a1 : α1) (ls : Array Slot), X (n + 1) a1 ls → W p l e R s m args below meth c H locs cells slots Q (F0 m pc ls [])) : W p l e R s m args below meth c H locs cells slots Q (F0 m pc ls []) := by
  have key : ∀ (n : Nat) (a1 : α1) (ls : Array Slot), X n a1 ls → W p l e R s m args below meth c H locs cells slots Q (F0 m pc ls []) := by
    intro n
    induction n with
    | zero => intro a1 ls h; exact absurd h (hz a1 ls)
    | succ n ih => exact hs n ih
  exact key n a1 ls h
theorem W_loop1 {α1 : Type} (X : Nat → α1 → Heap → List Loc → Array Slot → Prop) (n : Nat) (a1 : α1) (h : X n a1 H locs ls) (hz : ∀ (a1 : α1) (H : Heap) (locs : List Loc) (ls : Array Slot), ¬ X 0 a1 H locs ls) (hs : ∀ n : Nat, (∀ (a1 : α1) (H : Heap) (locs : List Loc) (ls : Array Slot), X n a1 H locs ls → W p l e R s m args below meth c H locs cells slots Q (F0 m pc ls [])) → ∀ (a1 : α1) (H : Heap) (locs : List Loc) (ls : Array Slot), X (n + 1) a1 H locs ls → W p l e R s m args below meth c H locs cells slots Q (F0 m pc ls [])) : W p l e R s m args below meth c H locs cells slots Q (F0 m pc ls []) := by
  have key : ∀ (n : Nat) (a1 : α1) (H : Heap) (locs : List Loc) (ls : Array Slot), X n a1 H locs ls → W p l e R s m args below meth c H locs cells slots Q (F0 m pc ls []) := by
    intro n
    induction n with
    | zero => intro a1 H locs ls h; exact absurd h (hz a1 H locs ls)
    | succ n ih => exact hs n ih
  exact key n a1 H locs ls h
theorem W_loopR2 {α1 : Type} {α2 : Type} (X : Nat → α1 → α2 → Array Slot → Prop) (n : Nat) (a1 : α1) (a2 : α2) (h : X n a1 a2 ls) (hz : ∀ (a1 : α1) (a2 : α2) (ls : Array Slot), ¬ X 0 a1 a2 ls) (hs : ∀ n : Nat, (∀ (a1 : α1) (a2 : α2) (ls : Array Slot), X n a1 a2 ls → W p l e R s m args below meth c H locs cells slots Q (F0 m pc ls [])) → ∀ (a1 : α1) (a2 : α2) (ls : Array Slot), X (n + 1) a1 a2 ls → W p l e R s m args below meth c H locs cells slots Q (F0 m pc ls [])) : W p l e R s m args below meth c H locs cells slots Q (F0 m pc ls []) := by
  have key : ∀ (n : Nat) (a1 : α1) (a2 : α2) (ls : Array Slot), X n a1 a2 ls → W p l e R s m args below meth c H locs cells slots Q (F0 m pc ls []) := by
    intro n
    induction n with
    | zero => intro a1 a2 ls h; exact absurd h (hz a1 a2 ls)
    | succ n ih => exact hs n ih
  exact key n a1 a2 ls h
theorem W_loop2 {α1 : Type} {α2 : Type} (X : Nat → α1 → α2 → Heap → List Loc → Array Slot → Prop) (n : Nat) (a1 : α1) (a2 : α2) (h : X n a1 a2 H locs ls) (hz : ∀ (a1 : α1) (a2 : α2) (H : Heap) (locs : List Loc) (ls : Array Slot), ¬ X 0 a1 a2 H locs ls) (hs : ∀ n : Nat, (∀ (a1 : α1) (a2 : α2) (H : Heap) (locs : List Loc) (ls : Array Slot), X n a1 a2 H locs ls → W p l e R s m args below meth c H locs cells slots Q (F0 m pc ls [])) → ∀ (a1 : α1) (a2 : α2) (H : Heap) (locs : List Loc) (ls : Array Slot), X (n + 1) a1 a2 H locs ls → W p l e R s m args below meth c H locs cells slots Q (F0 m pc ls [])) : W p l e R s m args below meth c H locs cells slots Q (F0 m pc ls []) := by
  have key : ∀ (n : Nat) (a1 : α1) (a2 : α2) (H : Heap) (locs : List Loc) (ls : Array Slot), X n a1 a2 H locs ls → W p l e R s m args below meth c H locs cells slots Q (F0 m pc ls []) := by
    intro n
    induction n with
    | zero => intro a1 a2 H locs ls h; exact absurd h (hz a1 a2 H locs ls)
    | succ n ih => exact hs n ih
  exact key n a1 a2 H locs ls h
theorem W_loopR3 {α1 : Type} {α2 : Type} {α3 : Type} (X : Nat → α1 → α2 → α3 → Array Slot → Prop) (n : Nat) (a1 : α1) (a2 : α2) (a3 : α3) (h : X n a1 a2 a3 ls) (hz : ∀ (a1 : α1) (a2 : α2) (a3 : α3) (ls : Array Slot), ¬ X 0 a1 a2 a3 ls) (hs : ∀ n : Nat, (∀ (a1 : α1) (a2 : α2) (a3 : α3) (ls : Array Slot), X n a1 a2 a3 ls → W p l e R s m args below meth c H locs cells slots Q (F0 m pc ls [])) → ∀ (a1 : α1) (a2 : α2) (a3 : α3) (ls : Array Slot), X (n + 1) a1 a2 a3 ls → W p l e R s m args below meth c H locs cells slots Q (F0 m pc ls [])) : W p l e R s m args below meth c H locs cells slots Q (F0 m pc ls []) := by
  have key : ∀ (n : Nat) (a1 : α1) (a2 : α2) (a3 : α3) (ls : Array Slot), X n a1 a2 a3 ls → W p l e R s m args below meth c H locs cells slots Q (F0 m pc ls []) := by
    intro n
    induction n with
    | zero => intro a1 a2 a3 ls h; exact absurd h (hz a1 a2 a3 ls)
    | succ n ih => exact hs n ih
  exact key n a1 a2 a3 ls h
theorem W_loop3 {α1 : Type} {α2 : Type} {α3 : Type} (X : Nat → α1 → α2 → α3 → Heap → List Loc → Array Slot → Prop) (n : Nat) (a1 : α1) (a2 : α2) (a3 : α3) (h : X n a1 a2 a3 H locs ls) (hz : ∀ (a1 : α1) (a2 : α2) (a3 : α3) (H : Heap) (locs : List Loc) (ls : Array Slot), ¬ X 0 a1 a2 a3 H locs ls) (hs : ∀ n : Nat, (∀ (a1 : α1) (a2 : α2) (a3 : α3) (H : Heap) (locs : List Loc) (ls : Array Slot), X n a1 a2 a3 H locs ls → W p l e R s m args below meth c H locs cells slots Q (F0 m pc ls [])) → ∀ (a1 : α1) (a2 : α2) (a3 : α3) (H : Heap) (locs : List Loc) (ls : Array Slot), X (n + 1) a1 a2 a3 H locs ls → W p l e R s m args below meth c H locs cells slots Q (F0 m pc ls [])) : W p l e R s m args below meth c H locs cells slots Q (F0 m pc ls []) := by
  have key : ∀ (n : Nat) (a1 : α1) (a2 : α2) (a3 : α3) (H : Heap) (locs : List Loc) (ls : Array Slot), X n a1 a2 a3 H locs ls → W p l e R s m args below meth c H locs cells slots Q (F0 m pc ls []) := by
    intro n
    induction n with
    | zero => intro a1 a2 a3 H locs ls h; exact absurd h (hz a1 a2 a3 H locs ls)
    | succ n ih => exact hs n ih
  exact key n a1 a2 a3 H locs ls h
theorem W_loopR4 {α1 : Type} {α2 : Type} {α3 : Type} {α4 : Type} (X : Nat → α1 → α2 → α3 → α4 → Array Slot → Prop) (n : Nat) (a1 : α1) (a2 : α2) (a3 : α3) (a4 : α4) (h : X n a1 a2 a3 a4 ls) (hz : ∀ (a1 : α1) (a2 : α2) (a3 : α3) (a4 : α4) (ls : Array Slot), ¬ X 0 a1 a2 a3 a4 ls) (hs : ∀ n : Nat, (∀ (a1 : α1) (a2 : α2) (a3 : α3) (a4 : α4) (ls : Array Slot), X n a1 a2 a3 a4 ls → W p l e R s m args below meth c H locs cells slots Q (F0 m pc ls [])) → ∀ (a1 : α1) (a2 : α2) (a3 : α3) (a4 : α4) (ls : Array Slot), X (n + 1) a1 a2 a3 a4 ls → W p l e R s m args below meth c H locs cells slots Q (F0 m pc ls [])) : W p l e R s m args below meth c H locs cells slots Q (F0 m pc ls []) := by
  have key : ∀ (n : Nat) (a1 : α1) (a2 : α2) (a3 : α3) (a4 : α4) (ls : Array Slot), X n a1 a2 a3 a4 ls → W p l e R s m args below meth c H locs cells slots Q (F0 m pc ls []) := by
    intro n
    induction n with
    | zero => intro a1 a2 a3 a4 ls h; exact absurd h (hz a1 a2 a3 a4 ls)
    | succ n ih => exact hs n ih
  exact key n a1 a2 a3 a4 ls h
theorem W_loop4 {α1 : Type} {α2 : Type} {α3 : Type} {α4 : Type} (X : Nat → α1 → α2 → α3 → α4 → Heap → List Loc → Array Slot → Prop) (n : Nat) (a1 : α1) (a2 : α2) (a3 : α3) (a4 : α4) (h : X n a1 a2 a3 a4 H locs ls) (hz : ∀ (a1 : α1) (a2 : α2) (a3 : α3) (a4 : α4) (H : Heap) (locs : List Loc) (ls : Array Slot), ¬ X 0 a1 a2 a3 a4 H locs ls) (hs : ∀ n : Nat, (∀ (a1 : α1) (a2 : α2) (a3 : α3) (a4 : α4) (H : Heap) (locs : List Loc) (ls : Array Slot), X n a1 a2 a3 a4 H locs ls → W p l e R s m args below meth c H locs cells slots Q (F0 m pc ls [])) → ∀ (a1 : α1) (a2 : α2) (a3 : α3) (a4 : α4) (H : Heap) (locs : List Loc) (ls : Array Slot), X (n + 1) a1 a2 a3 a4 H locs ls → W p l e R s m args below meth c H locs cells slots Q (F0 m pc ls [])) : W p l e R s m args below meth c H locs cells slots Q (F0 m pc ls []) := by
  have key : ∀ (n : Nat) (a1 : α1) (a2 : α2) (a3 : α3) (a4 : α4) (H : Heap) (locs : List Loc) (ls : Array Slot), X n a1 a2 a3 a4 H locs ls → W p l e R s m args below meth c H locs cells slots Q (F0 m pc ls []) := by
    intro n
    induction n with
    | zero => intro a1 a2 a3 a4 H locs ls h; exact absurd h (hz a1 a2 a3 a4 H locs ls)
    | succ n ih => exact hs n ih
  exact key n a1 a2 a3 a4 H locs ls h
theorem W_loopR5 {α1 : Type} {α2 : Type} {α3 : Type} {α4 : Type} {α5 : Type} (X : Nat → α1 → α2 → α3 → α4 → α5 → Array Slot → Prop) (n : Nat) (a1 : α1) (a2 : α2) (a3 : α3) (a4 : α4) (a5 : α5) (h : X n a1 a2 a3 a4 a5 ls) (hz : ∀ (a1 : α1) (a2 : α2) (a3 : α3) (a4 : α4) (a5 : α5) (ls : Array Slot), ¬ X 0 a1 a2 a3 a4 a5 ls) (hs : ∀ n : Nat, (∀ (a1 : α1) (a2 : α2) (a3 : α3) (a4 : α4) (a5 : α5) (ls : Array Slot), X n a1 a2 a3 a4 a5 ls → W p l e R s m args below meth c H locs cells slots Q (F0 m pc ls [])) → ∀ (a1 : α1) (a2 : α2) (a3 : α3) (a4 : α4) (a5 : α5) (ls : Array Slot), X (n + 1) a1 a2 a3 a4 a5 ls → W p l e R s m args below meth c H locs cells slots Q (F0 m pc ls [])) : W p l e R s m args below meth c H locs cells slots Q (F0 m pc ls []) := by
  have key : ∀ (n : Nat) (a1 : α1) (a2 : α2) (a3 : α3) (a4 : α4) (a5 : α5) (ls : Array Slot), X n a1 a2 a3 a4 a5 ls → W p l e R s m args below meth c H locs cells slots Q (F0 m pc ls []) := by
    intro n
    induction n with
    | zero => intro a1 a2 a3 a4 a5 ls h; exact absurd h (hz a1 a2 a3 a4 a5 ls)
    | succ n ih => exact hs n ih
  exact key n a1 a2 a3 a4 a5 ls h
theorem W_loop5 {α1 : Type} {α2 : Type} {α3 : Type} {α4 : Type} {α5 : Type} (X : Nat → α1 → α2 → α3 → α4 → α5 → Heap → List Loc → Array Slot → Prop) (n : Nat) (a1 : α1) (a2 : α2) (a3 : α3) (a4 : α4) (a5 : α5) (h : X n a1 a2 a3 a4 a5 H locs ls) (hz : ∀ (a1 : α1) (a2 : α2) (a3 : α3) (a4 : α4) (a5 : α5) (H : Heap) (locs : List Loc) (ls : Array Slot), ¬ X 0 a1 a2 a3 a4 a5 H locs ls) (hs : ∀ n : Nat, (∀ (a1 : α1) (a2 : α2) (a3 : α3) (a4 : α4) (a5 : α5) (H : Heap) (locs : List Loc) (ls : Array Slot), X n a1 a2 a3 a4 a5 H locs ls → W p l e R s m args below meth c H locs cells slots Q (F0 m pc ls [])) → ∀ (a1 : α1) (a2 : α2) (a3 : α3) (a4 : α4) (a5 : α5) (H : Heap) (locs : List Loc) (ls : Array Slot), X (n + 1) a1 a2 a3 a4 a5 H locs ls → W p l e R s m args below meth c H locs cells slots Q (F0 m pc ls [])) : W p l e R s m args below meth c H locs cells slots Q (F0 m pc ls []) := by
  have key : ∀ (n : Nat) (a1 : α1) (a2 : α2) (a3 : α3) (a4 : α4) (a5 : α5) (H : Heap) (locs : List Loc) (ls : Array Slot), X n a1 a2 a3 a4 a5 H locs ls → W p l e R s m args below meth c H locs cells slots Q (F0 m pc ls []) := by
    intro n
    induction n with
    | zero => intro a1 a2 a3 a4 a5 H locs ls h; exact absurd h (hz a1 a2 a3 a4 a5 H locs ls)
    | succ n ih => exact hs n ih
  exact key n a1 a2 a3 a4 a5 H locs ls h
theorem vp_callSr {post : Nat → Prop} {a : Array Value} {st0 rest : List Value} (hr : CallRun p l e R s m args below meth c H locs cells slots 0 0 (F0 m pc ls st0) rest (vp_Sr post a) (fun _ => False))
    (kk : ∀ r : Nat, post r → W p l e R s m args below meth c H locs cells slots Q (F0 m (pc + 3) ls (.ref r :: rest))) : W p l e R s m args below meth c H locs cells slots Q (F0 m pc ls st0) := by
  intro T hT X
  obtain ⟨v, st₀, t, T', L, h0, X', hL, e1, ⟨r, hv, hp, hh⟩, st⟩ := hr T hT X
  cases hv
  obtain ⟨t2, a1, b1⟩ := kk r hp T' (by rw [e1, hh, h0]) (Stand.forget X' (fun q h => (hL q h).elim))
  exact ⟨t2, st t2 a1, b1⟩
end WL
/-! The tables' words: one list for every method. -/
/-- the words that a callee may be handed -/
def lw_g : List Cond := lw_tbl.filter goodWord
theorem tw_good (w : Cond) (h : w ∈ lw_g) : (w.onTables && w.keeps) = true ∨ ∃ ty, w = .arrayClass ty := good_of_word (List.mem_filter.mp h).2
theorem wd_in {w : Cond} {i : Nat} (h : lw_tbl[i]? = some w) (hg : goodWord w = true) : w ∈ lw_g := List.mem_filter.mpr ⟨List.mem_of_getElem? h, hg⟩
abbrev mW (y : MethodName) (b : ByteArray) (n : Nat) (r : Option FieldType) : List Cond := Cond.code y b n r :: lw_g
theorem g_in {y : MethodName} {b : ByteArray} {n : Nat} {r : Option FieldType} (h : Cond.code y b n r ∈ lw_g) : GoodIn lw_g (mW y b n r) := by
  intro w hw
  have hm : w ∈ lw_g := by
    rcases List.mem_cons.mp hw with e | h1
    · rw [e]; exact h
    · exact h1
  exact ⟨hm, tw_good w hm⟩
theorem g_S {own : String} {idx : Nat} {y : MethodName} {b : ByteArray} {n : Nat} {r : Option FieldType} (h1 : Cond.methodLink own idx y ∈ lw_g) (h2 : Cond.static y ∈ lw_g) (h3 : Cond.initialized y.cls ∈ lw_g) (h4 : Cond.code y b n r ∈ lw_g) : GoodIn lw_g (va_wsS own idx y (mW y b n r)) := by
  intro w hw
  have hm : w ∈ lw_g := by
    rcases List.mem_append.mp hw with h | h
    · rcases List.mem_cons.mp h with e | h
      · rw [e]; exact h1
      · rcases List.mem_cons.mp h with e | h
        · rw [e]; exact h2
        · rcases List.mem_cons.mp h with e | h
          · rw [e]; exact h3
          · cases h
    · exact (g_in h4 w h).1
  exact ⟨hm, tw_good w hm⟩
theorem g_V {own : String} {idx : Nat} {C : String} {y : MethodName} {b : ByteArray} {n : Nat} {r : Option FieldType} (h1 : Cond.methodLink own idx y ∈ lw_g) (h2 : Cond.instanceMethod y ∈ lw_g) (h3 : Cond.selects C y y ∈ lw_g) (h4 : Cond.initialized C ∈ lw_g) (h5 : Cond.code y b n r ∈ lw_g) : GoodIn lw_g (wsV own idx C y (mW y b n r)) := by
  intro w hw
  have hm : w ∈ lw_g := by
    rcases List.mem_append.mp hw with h | h
    · rcases List.mem_cons.mp h with e | h
      · rw [e]; exact h1
      · rcases List.mem_cons.mp h with e | h
        · rw [e]; exact h2
        · rcases List.mem_cons.mp h with e | h
          · rw [e]; exact h3
          · rcases List.mem_cons.mp h with e | h
            · rw [e]; exact h4
            · cases h
    · exact (g_in h5 w h).1
  exact ⟨hm, tw_good w hm⟩
/-! The classes whose objects the worlds hold -/
abbrev cls : List vw_C := [(R_Ac, F_Ac, 2), (R_Ca, F_Ca, 1), (R_Ch, F_Ch, 1), (R_Co, F_Co, 4), (R_Ma, F_Ma, 8), (R_Po, F_Po, 5), (R_Pr, F_Pr, 2), (R_Ru, F_Ru, 5), (R_F, F_F, 5), (R_M, F_M, 20)]
abbrev tysA (dA : Nat → ClassId) : List (ClassId × FieldType) := [(dA 0, .int), (dA 1, .long), (dA 2, .object "CallFilter$Rule"), (dA 3, .object "CallFilter$Condition"), (dA 4, .boolean)]
theorem in_Ac : ∀ w ∈ u_ws R_Ac F_Ac 2, w ∈ lw_g := by decide +kernel
theorem in_Ca : ∀ w ∈ u_ws R_Ca F_Ca 1, w ∈ lw_g := by decide +kernel
theorem in_Ch : ∀ w ∈ u_ws R_Ch F_Ch 1, w ∈ lw_g := by decide +kernel
theorem in_Co : ∀ w ∈ u_ws R_Co F_Co 4, w ∈ lw_g := by decide +kernel
theorem in_Ma : ∀ w ∈ u_ws R_Ma F_Ma 8, w ∈ lw_g := by decide +kernel
theorem in_Po : ∀ w ∈ u_ws R_Po F_Po 5, w ∈ lw_g := by decide +kernel
theorem in_Pr : ∀ w ∈ u_ws R_Pr F_Pr 2, w ∈ lw_g := by decide +kernel
theorem in_Ru : ∀ w ∈ u_ws R_Ru F_Ru 5, w ∈ lw_g := by decide +kernel
theorem in_F : ∀ w ∈ u_ws R_F F_F 5, w ∈ lw_g := by decide +kernel
theorem in_M : ∀ w ∈ u_ws R_M F_M 20, w ∈ lw_g := by decide +kernel
/-! The class's state: a condition (place, operator, value, mask); a rule (count, from, to, kind, data, conditions); the policy (architecture, count, default, foreign, rules); the program (count, instructions); the machine (cells, done, stored, a, x, next, ended, result) -/
abbrev CT : Type := Int32 × Int32 × Int64 × Int64
abbrev RT : Type := Int32 × Int32 × Int32 × Int32 × Int32 × (Nat → CT)
abbrev PT : Type := Int32 × Int32 × (Int32 × Int32) × (Int32 × Int32) × (Nat → RT)
abbrev GT : Type := Int32 × (Nat → Int64)
abbrev MT : Type := (Nat → Int32) × Int32 × Int32 × Int32 × Int32 × Int32 × Int32 × Int32
def rfs (ad : Nat → Nat) (n o s : Nat) : Nat → Option Nat := fun j => if j < n then some (ad (o + s * j)) else none
def wR (ad : Nat → Nat) (dA : Nat → ClassId) (i : Nat) (r : RT) : va_W :=
  [(ad (13 + 6 * i), .inr (7, [.ref (ad (14 + 6 * i)), .int r.1, .int r.2.1, .int r.2.2.1, .ref (ad (15 + 6 * i))])),
   (ad (14 + 6 * i), .inr (0, [.int r.2.2.2.1, .int r.2.2.2.2.1])),
   (ad (15 + 6 * i), .inl (dA 3, 3, .inr (.inr (.inr (.inr (rfs ad 3 (16 + 6 * i) 1)))))),
   (ad (16 + 6 * i + 0), .inr (3, [.int (r.2.2.2.2.2 0).1, .int (r.2.2.2.2.2 0).2.1, .long (r.2.2.2.2.2 0).2.2.1, .long (r.2.2.2.2.2 0).2.2.2])),
   (ad (16 + 6 * i + 1), .inr (3, [.int (r.2.2.2.2.2 1).1, .int (r.2.2.2.2.2 1).2.1, .long (r.2.2.2.2.2 1).2.2.1, .long (r.2.2.2.2.2 1).2.2.2])),
   (ad (16 + 6 * i + 2), .inr (3, [.int (r.2.2.2.2.2 2).1, .int (r.2.2.2.2.2 2).2.1, .long (r.2.2.2.2.2 2).2.2.1, .long (r.2.2.2.2.2 2).2.2.2]))]
def wC (ad : Nat → Nat) (dA : Nat → ClassId) (w : Nat → Int32) (P : PT) (g : GT) (ss : Nat → Int32) (M : MT) : va_W :=
  [(ad 0, .inr (8, [.ref (ad 1), .ref (ad 3), .ref (ad 7), .ref (ad 9), .ref (ad 11)])),
   (ad 1, .inr (1, [.ref (ad 2)])),
   (ad 2, .inl (dA 0, 16, .inl w)),
   (ad 3, .inr (5, [.ref (ad 4), .ref (ad 5), .ref (ad 6), .int P.2.1, .int P.1])),
   (ad 4, .inr (0, [.int P.2.2.1.1, .int P.2.2.1.2])),
   (ad 5, .inr (0, [.int P.2.2.2.1.1, .int P.2.2.2.1.2])),
   (ad 6, .inl (dA 2, 6, .inr (.inr (.inr (.inr (rfs ad 6 13 6)))))),
   (ad 7, .inr (6, [.ref (ad 8), .int g.1])),
   (ad 8, .inl (dA 1, 64, .inr (.inl g.2))),
   (ad 9, .inr (2, [.ref (ad 10)])),
   (ad 10, .inl (dA 0, 64, .inl ss)),
   (ad 11, .inr (4, [.ref (ad 12), .int M.2.1, .int M.2.2.1, .int M.2.2.2.1, .int M.2.2.2.2.1, .int M.2.2.2.2.2.1, .int M.2.2.2.2.2.2.1, .int M.2.2.2.2.2.2.2])),
   (ad 12, .inl (dA 0, 16, .inl M.1))] ++
  (wR ad dA 0 (P.2.2.2.2 0) ++ (wR ad dA 1 (P.2.2.2.2 1) ++ (wR ad dA 2 (P.2.2.2.2 2) ++ (wR ad dA 3 (P.2.2.2.2 3) ++ (wR ad dA 4 (P.2.2.2.2 4) ++ wR ad dA 5 (P.2.2.2.2 5))))))
/-- the n addresses are apart and lie in A -/
def AdOK (n : Nat) (ad : Nat → Nat) (A : Nat → Prop) : Prop := (∀ i j, i < n → j < n → ad i = ad j → i = j) ∧ ∀ k, k < n → A (ad k)
theorem wC_fst (ad : Nat → Nat) (dA : Nat → ClassId) (w : Nat → Int32) (P : PT) (g : GT) (ss : Nat → Int32) (M : MT) : (wC ad dA w P g ss M).map Prod.fst = (List.range 49).map ad := rfl
theorem wC_adr {ad : Nat → Nat} {dA : Nat → ClassId} {w : Nat → Int32} {P : PT} {g : GT} {ss : Nat → Int32} {M : MT} {k : Nat} {q : Nat × va_E} (h : (wC ad dA w P g ss M)[k]? = some q) : k < 49 ∧ q.1 = ad k := by
  have h1 : ((wC ad dA w P g ss M).map Prod.fst)[k]? = some q.1 := by rw [List.getElem?_map, h]; rfl
  rw [wC_fst, List.getElem?_map] at h1
  have hk : k < 49 := by
    have := (List.getElem?_eq_some_iff.mp h).1
    exact this
  rw [List.getElem?_range hk] at h1
  exact ⟨hk, (Option.some.inj h1).symm⟩
theorem wC_D {ad : Nat → Nat} {A : Nat → Prop} (h : AdOK 49 ad A) {dA : Nat → ClassId} {w : Nat → Int32} {P : PT} {g : GT} {ss : Nat → Int32} {M : MT} : va_D A (wC ad dA w P g ss M) := by
  refine ⟨fun i j p q hp hq e => ?_, fun k q hq => ?_⟩
  · obtain ⟨h1, h2⟩ := wC_adr hp
    obtain ⟨h3, h4⟩ := wC_adr hq
    exact h.1 i j h1 h3 (by rw [← h2, ← h4]; exact e)
  · obtain ⟨h1, h2⟩ := wC_adr hq
    rw [h2]
    exact h.2 k h1
/-- a method's start and end, over the whole world of the class -/
abbrev CG (D : va_G) (dA : Nat → ClassId) (ad : Nat → Nat) (w : Nat → Int32) (P : PT) (g : GT) (ss : Nat → Int32) (M : MT) (U : State) : Prop := va_P D cls (wC ad dA w P g ss M) U.heap ∧ va_K D cls (tysA dA) U ∧ NW U
theorem CG_fb {av : List Value} {D : va_G} {dA : Nat → ClassId} {ad : Nat → Nat} {w : Nat → Int32} {P : PT} {g : GT} {ss : Nat → Int32} {M : MT} : FrameBlind (va_Pc av (fun U => CG D dA ad w P g ss M U)) :=
  fun a U _ _ q => ⟨q.1, q.2.1, va_K.moved (Vm.Alike.refl U.vm) q.2.2.1, NW_same rfl q.2.2.2⟩
theorem CG_at {s U : State} {H : Heap} {D : va_G} {dA : Nat → ClassId} {ad : Nat → Nat} {w : Nat → Int32} {P : PT} {g : GT} {ss : Nat → Int32} {M : MT} (hP : va_P D cls (wC ad dA w P g ss M) H) (hK : va_K D cls (tysA dA) s) (hN : NW s) (hU : U.heap = H) (hW : s.WarmedH U.vm) : CG D dA ad w P g ss M U :=
  ⟨by rw [hU]; exact hP, va_K.moved hW.alike hK, NW_warm hW hN⟩
/-! A rule by its number -/
def updR (R : Nat → RT) (i : Nat) (r : RT) : Nat → RT := fun j => if j = i then r else R j
def updC (c : Nat → CT) (j : Nat) (x : CT) : Nat → CT := fun k => if k = j then x else c k
theorem rf_at {ad : Nat → Nat} {n o s j : Nat} (h : j < n) : va_rf (rfs ad n o s j) = .ref (ad (o + s * j)) := by simp [rfs, h, va_rf]
section Rules
variable {ad : Nat → Nat} {dA : Nat → ClassId} {w : Nat → Int32} {P : PT} {g : GT} {ss : Nat → Int32} {M : MT} {i : Nat}
theorem wC_ix (hi : i < 6) (k : Nat) (hk : k < 6) : (wC ad dA w P g ss M)[13 + 6 * i + k]? = (wR ad dA i (P.2.2.2.2 i))[k]? := by
  rcases (show i = 0 ∨ i = 1 ∨ i = 2 ∨ i = 3 ∨ i = 4 ∨ i = 5 by omega) with rfl | rfl | rfl | rfl | rfl | rfl <;> rcases (show k = 0 ∨ k = 1 ∨ k = 2 ∨ k = 3 ∨ k = 4 ∨ k = 5 by omega) with rfl | rfl | rfl | rfl | rfl | rfl <;> rfl
theorem wC_ru (hi : i < 6) : (wC ad dA w P g ss M)[13 + 6 * i + 0]? = some (ad (13 + 6 * i), .inr (7, [.ref (ad (14 + 6 * i)), .int (P.2.2.2.2 i).1, .int (P.2.2.2.2 i).2.1, .int (P.2.2.2.2 i).2.2.1, .ref (ad (15 + 6 * i))])) := wC_ix hi 0 (by decide)
theorem wC_ra (hi : i < 6) : (wC ad dA w P g ss M)[13 + 6 * i + 1]? = some (ad (14 + 6 * i), .inr (0, [.int (P.2.2.2.2 i).2.2.2.1, .int (P.2.2.2.2 i).2.2.2.2.1])) := wC_ix hi 1 (by decide)
theorem wC_cs (hi : i < 6) : (wC ad dA w P g ss M)[13 + 6 * i + 2]? = some (ad (15 + 6 * i), .inl (dA 3, 3, .inr (.inr (.inr (.inr (rfs ad 3 (16 + 6 * i) 1)))))) := wC_ix hi 2 (by decide)
theorem wC_co {j : Nat} (hi : i < 6) (hj : j < 3) : (wC ad dA w P g ss M)[13 + 6 * i + (3 + j)]? = some (ad (16 + 6 * i + j), .inr (3, [.int ((P.2.2.2.2 i).2.2.2.2.2 j).1, .int ((P.2.2.2.2 i).2.2.2.2.2 j).2.1, .long ((P.2.2.2.2 i).2.2.2.2.2 j).2.2.1, .long ((P.2.2.2.2 i).2.2.2.2.2 j).2.2.2])) := by
  rw [wC_ix hi (3 + j) (by omega)]
  rcases (show j = 0 ∨ j = 1 ∨ j = 2 by omega) with rfl | rfl | rfl <;> rfl
theorem wC_set (hi : i < 6) (k : Nat) (hk : k < 6) {x : Nat × va_E} {r : RT} (h : (wR ad dA i (P.2.2.2.2 i)).set k x = wR ad dA i r) : (wC ad dA w P g ss M).set (13 + 6 * i + k) x = wC ad dA w (P.1, P.2.1, P.2.2.1, P.2.2.2.1, updR P.2.2.2.2 i r) g ss M := by
  apply List.ext_getElem?
  intro n
  rw [List.getElem?_set]
  by_cases hn : 13 + 6 * i + k = n
  · subst hn
    have hl : 13 + 6 * i + k < (wC ad dA w P g ss M).length := by show _ < 49; omega
    rw [if_pos rfl, if_pos hl, wC_ix hi k hk]
    show some x = (wR ad dA i (updR P.2.2.2.2 i r i))[k]?
    rw [show updR P.2.2.2.2 i r i = r by simp [updR], ← h, List.getElem?_set, if_pos rfl, if_pos (by show k < 6; exact hk)]
  · rw [if_neg hn]
    by_cases h1 : n < 13
    · rcases (show n = 0 ∨ n = 1 ∨ n = 2 ∨ n = 3 ∨ n = 4 ∨ n = 5 ∨ n = 6 ∨ n = 7 ∨ n = 8 ∨ n = 9 ∨ n = 10 ∨ n = 11 ∨ n = 12 by omega) with rfl | rfl | rfl | rfl | rfl | rfl | rfl | rfl | rfl | rfl | rfl | rfl | rfl <;> rfl
    · by_cases h2 : n < 49
      · obtain ⟨a, b, ha, hb, rfl⟩ : ∃ a b, a < 6 ∧ b < 6 ∧ n = 13 + 6 * a + b := ⟨(n - 13) / 6, (n - 13) % 6, by omega, by omega, by omega⟩
        rw [wC_ix ha b hb, wC_ix ha b hb]
        show (wR ad dA a (P.2.2.2.2 a))[b]? = (wR ad dA a (updR P.2.2.2.2 i r a))[b]?
        by_cases he : a = i
        · subst he
          rw [show updR P.2.2.2.2 a r a = r by simp [updR], ← h, List.getElem?_set, if_neg (by omega)]
        · rw [show updR P.2.2.2.2 i r a = P.2.2.2.2 a by simp [updR, he]]
      · rw [List.getElem?_eq_none (by show 49 ≤ n; omega), List.getElem?_eq_none (by show 49 ≤ n; omega)]
theorem updR_at {R : Nat → RT} {r : RT} : updR R i r i = r := by simp [updR]
theorem updR_ne {R : Nat → RT} {r : RT} {j : Nat} (h : ¬ j = i) : updR R i r j = R j := by simp [updR, h]
theorem updR_self {R : Nat → RT} : updR R i (R i) = R := by
  funext j
  by_cases h : j = i
  · rw [h, updR_at]
  · rw [updR_ne h]
theorem updR_two {R : Nat → RT} {r r2 : RT} : updR (updR R i r) i r2 = updR R i r2 := by
  funext j
  by_cases h : j = i
  · rw [h, updR_at, updR_at]
  · rw [updR_ne h, updR_ne h, updR_ne h]
theorem updC_at {cs : Nat → CT} {x : CT} : updC cs i x i = x := by simp [updC]
theorem updC_ne {cs : Nat → CT} {x : CT} {j : Nat} (h : ¬ j = i) : updC cs i x j = cs j := by simp [updC, h]
theorem updC_two {cs : Nat → CT} {x x2 : CT} : updC (updC cs i x) i x2 = updC cs i x2 := by
  funext j
  by_cases h : j = i
  · rw [h, updC_at, updC_at]
  · rw [updC_ne h, updC_ne h, updC_ne h]
variable {a b : Int32} {c d : Int32 × Int32} {R0 : Nat → RT} {r : RT} {D : va_G} {H : Heap}
theorem wF_in (h : va_P D cls (wC ad dA w P g ss M) H) : va_P D cls (wC ad dA w (P.1, P.2.1, P.2.2.1, P.2.2.2.1, updR P.2.2.2.2 i (P.2.2.2.2 i)) g ss M) H := by
  rw [updR_self]
  exact h
theorem wF_ru (hi : i < 6) : (wC ad dA w (a, b, c, d, updR R0 i r) g ss M)[13 + 6 * i + 0]? = some (ad (13 + 6 * i), .inr (7, [.ref (ad (14 + 6 * i)), .int r.1, .int r.2.1, .int r.2.2.1, .ref (ad (15 + 6 * i))])) := by
  have h := wC_ru (ad := ad) (dA := dA) (w := w) (P := (a, b, c, d, updR R0 i r)) (g := g) (ss := ss) (M := M) hi
  rw [h]
  show some (_, Sum.inr (7, [_, Value.int (updR R0 i r i).1, Value.int (updR R0 i r i).2.1, Value.int (updR R0 i r i).2.2.1, _])) = _
  rw [updR_at]
theorem wF_ra (hi : i < 6) : (wC ad dA w (a, b, c, d, updR R0 i r) g ss M)[13 + 6 * i + 1]? = some (ad (14 + 6 * i), .inr (0, [.int r.2.2.2.1, .int r.2.2.2.2.1])) := by
  have h := wC_ra (ad := ad) (dA := dA) (w := w) (P := (a, b, c, d, updR R0 i r)) (g := g) (ss := ss) (M := M) hi
  rw [h]
  show some (_, Sum.inr (0, [Value.int (updR R0 i r i).2.2.2.1, Value.int (updR R0 i r i).2.2.2.2.1])) = _
  rw [updR_at]
theorem wF_cs (hi : i < 6) : (wC ad dA w (a, b, c, d, updR R0 i r) g ss M)[13 + 6 * i + 2]? = some (ad (15 + 6 * i), .inl (dA 3, 3, .inr (.inr (.inr (.inr (rfs ad 3 (16 + 6 * i) 1)))))) := wC_cs hi
theorem wF_co {j : Nat} (hi : i < 6) (hj : j < 3) : (wC ad dA w (a, b, c, d, updR R0 i r) g ss M)[13 + 6 * i + (3 + j)]? = some (ad (16 + 6 * i + j), .inr (3, [.int (r.2.2.2.2.2 j).1, .int (r.2.2.2.2.2 j).2.1, .long (r.2.2.2.2.2 j).2.2.1, .long (r.2.2.2.2.2 j).2.2.2])) := by
  have h := wC_co (ad := ad) (dA := dA) (w := w) (P := (a, b, c, d, updR R0 i r)) (g := g) (ss := ss) (M := M) hi hj
  rw [h]
  show some (_, Sum.inr (3, [Value.int ((updR R0 i r i).2.2.2.2.2 j).1, Value.int ((updR R0 i r i).2.2.2.2.2 j).2.1, Value.long ((updR R0 i r i).2.2.2.2.2 j).2.2.1, Value.long ((updR R0 i r i).2.2.2.2.2 j).2.2.2])) = _
  rw [updR_at]
theorem wF_put {ro : RT} {x : Nat × va_E} (hi : i < 6) (k : Nat) (hk : k < 6) (h : (wR ad dA i ro).set k x = wR ad dA i r) (hP : va_P D cls ((wC ad dA w (a, b, c, d, updR R0 i ro) g ss M).set (13 + 6 * i + k) x) H) : va_P D cls (wC ad dA w (a, b, c, d, updR R0 i r) g ss M) H := by
  rw [wC_set (P := (a, b, c, d, updR R0 i ro)) (r := r) hi k hk (by show (wR ad dA i (updR R0 i ro i)).set k x = _; rw [updR_at]; exact h)] at hP
  rw [← updR_two (r := ro)]
  exact hP
theorem wR_co {j : Nat} {r1 r2 r3 r4 r5 : Int32} {cs cs' : Nat → CT} {fs : List Value} (hj : j < 3) (h1 : ∀ k, ¬ k = j → cs' k = cs k) (h2 : fs = [.int (cs' j).1, .int (cs' j).2.1, .long (cs' j).2.2.1, .long (cs' j).2.2.2]) : (wR ad dA i (r1, r2, r3, r4, r5, cs)).set (3 + j) (ad (16 + 6 * i + j), .inr (3, fs)) = wR ad dA i (r1, r2, r3, r4, r5, cs') := by
  subst h2
  rcases (show j = 0 ∨ j = 1 ∨ j = 2 by omega) with rfl | rfl | rfl
  · have e1 := h1 1 (by decide); have e2 := h1 2 (by decide)
    unfold wR
    simp only [e1, e2]
    rfl
  · have e1 := h1 0 (by decide); have e2 := h1 2 (by decide)
    unfold wR
    simp only [e1, e2]
    rfl
  · have e1 := h1 0 (by decide); have e2 := h1 1 (by decide)
    unfold wR
    simp only [e1, e2]
    rfl
end Rules
/-! The reference's state: rules and their arrays; the program; done, a, x, cells, stored -/
abbrev QT : Type := Int32 × (Nat → Int32) × (Nat → Int32) × (Nat → Int32) × (Nat → Int32) × (Nat → Int32) × (Nat → Int32) × (Nat → Int32) × (Nat → Int64) × (Nat → Int64)
abbrev XT : Type := Int32 × Int64 × Int64 × (Nat → Int64) × (Nat → Int32)
def wM (ad : Nat → Nat) (dA : Nat → ClassId) (ho : Int32) (wo : Nat → Int32) (Q : QT) (G : GT) (mk : Nat → Int32) (X : XT) : va_W :=
  [(ad 0, .inr (9, [.int ho, .ref (ad 1), .int Q.1, .ref (ad 2), .ref (ad 3), .ref (ad 4), .ref (ad 5), .ref (ad 6), .ref (ad 7), .ref (ad 8), .ref (ad 9), .ref (ad 10), .int G.1, .ref (ad 11), .ref (ad 12), .int X.1, .long X.2.1, .long X.2.2.1, .ref (ad 13), .ref (ad 14)])),
   (ad 1, .inl (dA 0, 16, .inl wo)),
   (ad 2, .inl (dA 0, 6, .inl Q.2.1)),
   (ad 3, .inl (dA 0, 6, .inl Q.2.2.1)),
   (ad 4, .inl (dA 0, 8, .inl Q.2.2.2.1)),
   (ad 5, .inl (dA 0, 8, .inl Q.2.2.2.2.1)),
   (ad 6, .inl (dA 0, 6, .inl Q.2.2.2.2.2.1)),
   (ad 7, .inl (dA 0, 18, .inl Q.2.2.2.2.2.2.1)),
   (ad 8, .inl (dA 0, 18, .inl Q.2.2.2.2.2.2.2.1)),
   (ad 9, .inl (dA 1, 18, .inr (.inl Q.2.2.2.2.2.2.2.2.1))),
   (ad 10, .inl (dA 1, 18, .inr (.inl Q.2.2.2.2.2.2.2.2.2))),
   (ad 11, .inl (dA 1, 64, .inr (.inl G.2))),
   (ad 12, .inl (dA 4, 64, .inl mk)),
   (ad 13, .inl (dA 1, 16, .inr (.inl X.2.2.2.1))),
   (ad 14, .inl (dA 4, 16, .inl X.2.2.2.2))]
theorem wM_fst (ad : Nat → Nat) (dA : Nat → ClassId) (ho : Int32) (wo : Nat → Int32) (Q : QT) (G : GT) (mk : Nat → Int32) (X : XT) : (wM ad dA ho wo Q G mk X).map Prod.fst = (List.range 15).map ad := rfl
theorem wM_adr {ad : Nat → Nat} {dA : Nat → ClassId} {ho : Int32} {wo : Nat → Int32} {Q : QT} {G : GT} {mk : Nat → Int32} {X : XT} {k : Nat} {q : Nat × va_E} (h : (wM ad dA ho wo Q G mk X)[k]? = some q) : k < 15 ∧ q.1 = ad k := by
  have h1 : ((wM ad dA ho wo Q G mk X).map Prod.fst)[k]? = some q.1 := by rw [List.getElem?_map, h]; rfl
  rw [wM_fst, List.getElem?_map] at h1
  have hk : k < 15 := by
    have := (List.getElem?_eq_some_iff.mp h).1
    exact this
  rw [List.getElem?_range hk] at h1
  exact ⟨hk, (Option.some.inj h1).symm⟩
theorem wM_D {ad : Nat → Nat} {A : Nat → Prop} (h : AdOK 15 ad A) {dA : Nat → ClassId} {ho : Int32} {wo : Nat → Int32} {Q : QT} {G : GT} {mk : Nat → Int32} {X : XT} : va_D A (wM ad dA ho wo Q G mk X) := by
  refine ⟨fun i j p q hp hq e => ?_, fun k q hq => ?_⟩
  · obtain ⟨h1, h2⟩ := wM_adr hp
    obtain ⟨h3, h4⟩ := wM_adr hq
    exact h.1 i j h1 h3 (by rw [← h2, ← h4]; exact e)
  · obtain ⟨h1, h2⟩ := wM_adr hq
    rw [h2]
    exact h.2 k h1
abbrev MG (D : va_G) (dA : Nat → ClassId) (ad : Nat → Nat) (ho : Int32) (wo : Nat → Int32) (Q : QT) (G : GT) (mk : Nat → Int32) (X : XT) (U : State) : Prop := va_P D cls (wM ad dA ho wo Q G mk X) U.heap ∧ va_K D cls (tysA dA) U
theorem MG_fb {av : List Value} {D : va_G} {dA : Nat → ClassId} {ad : Nat → Nat} {ho : Int32} {wo : Nat → Int32} {Q : QT} {G : GT} {mk : Nat → Int32} {X : XT} : FrameBlind (va_Pc av (fun U => MG D dA ad ho wo Q G mk X U)) :=
  fun a U _ _ q => ⟨q.1, q.2.1, va_K.moved (Vm.Alike.refl U.vm) q.2.2⟩
theorem MG_at {s U : State} {H : Heap} {D : va_G} {dA : Nat → ClassId} {ad : Nat → Nat} {ho : Int32} {wo : Nat → Int32} {Q : QT} {G : GT} {mk : Nat → Int32} {X : XT} (hP : va_P D cls (wM ad dA ho wo Q G mk X) H) (hK : va_K D cls (tysA dA) s) (hU : U.heap = H) (hW : s.WarmedH U.vm) : MG D dA ad ho wo Q G mk X U :=
  ⟨by rw [hU]; exact hP, va_K.moved hW.alike hK⟩
/-! The table of the kinds' words -/
def kwf (j : Nat) : Int64 := match j with
  | 0 => 2147483648
  | 1 => 0
  | 2 => 196608
  | 3 => 327680
  | 4 => 2146435072
  | 5 => 2147221504
  | _ => 2147418112
abbrev KW (kt : Nat) (U : State) : Prop := va_Z "CallFilter$Action" "KIND_WORDS" "[J" (.ref kt) (fun _ => False) U U.heap ∧ va_T .long kt 7 (fun j => .long (kwf j)) (fun _ => False) U U.heap
theorem KW_at {s U : State} {kt : Nat} (h : KW kt s) (hU : U.heap = s.heap) (hW : s.WarmedH U.vm) : KW kt U :=
  ⟨by rw [hU]; exact va_Z.moved hW.alike h.1, by rw [hU]; exact va_T.moved hW.alike h.2⟩
theorem CGk_fb {av : List Value} {D : va_G} {dA : Nat → ClassId} {ad : Nat → Nat} {w : Nat → Int32} {P : PT} {g : GT} {ss : Nat → Int32} {M : MT} {kt : Nat} : FrameBlind (va_Pc av (fun U => CG D dA ad w P g ss M U ∧ KW kt U)) :=
  fun a U _ _ q => ⟨q.1, ⟨q.2.1.1, va_K.moved (Vm.Alike.refl U.vm) q.2.1.2.1, NW_same rfl q.2.1.2.2⟩, va_Z.moved (Vm.Alike.refl U.vm) q.2.2.1, va_T.moved (Vm.Alike.refl U.vm) q.2.2.2⟩
/-! Numbers -/
theorem nI_mul (a b : Nat) : nI a * nI b = nI (a * b) := (Int32.ofNat_mul a b).symm
theorem ix_4 {i : Int32} (h : vp_in i 6) : vp_in ((4 : Int32) + (2 : Int32) * i) 16 := by
  obtain ⟨j, hj, rfl⟩ := vp_in_of h (by decide)
  show vp_in (nI 4 + nI 2 * nI j) 16
  rw [nI_mul, nI_add]
  exact vp_in_nI (by omega) (by decide)
theorem ix_5 {i : Int32} (h : vp_in i 6) : vp_in (((4 : Int32) + (2 : Int32) * i) + (1 : Int32)) 16 := by
  obtain ⟨j, hj, rfl⟩ := vp_in_of h (by decide)
  show vp_in (nI 4 + nI 2 * nI j + nI 1) 16
  rw [nI_mul, nI_add, nI_add]
  exact vp_in_nI (by omega) (by decide)
theorem ix_b {x M : Int32} {n : Nat} (hM : M.toInt = (n : Int)) (h1 : ¬ x < 0) (h2 : ¬ M ≤ x) : vp_in x n := by
  rw [vp_in_iff]
  rw [Int32.lt_iff_toInt_lt] at h1
  rw [Int32.le_iff_toInt_le] at h2
  have h0 : (0 : Int32).toInt = 0 := rfl
  omega
theorem ix_of {x : Int32} (h1 : ¬ x < 0) (h2 : ¬ (16 : Int32) ≤ x) : vp_in x 16 := ix_b (M := 16) rfl h1 h2
theorem ix_c {x M : Int32} {n : Nat} (hM : M.toInt = (n : Int)) (h1 : ¬ x < 0) (h2 : x < M) : vp_in x n := by
  rw [vp_in_iff]
  rw [Int32.lt_iff_toInt_lt] at h1 h2
  have h0 : (0 : Int32).toInt = 0 := rfl
  omega
theorem ix_of2 {x : Int32} (h1 : ¬ x < 0) (h2 : x < (16 : Int32)) : vp_in x 16 := ix_c (M := 16) rfl h1 h2
theorem ix_put {x : Int32} (h1 : (0 : Int32) ≤ x) (h2 : x < (64 : Int32)) : vp_in x 64 := ix_c (M := 64) rfl (by
  rw [Int32.lt_iff_toInt_lt]
  rw [Int32.le_iff_toInt_le] at h1
  omega) h2
end
section
/-! pasted from the kit's page of bits (starting text) -/
def uN (x : Int64) : Nat := x.toUInt64.toNat
theorem uN_lt (x : Int64) : uN x < 18446744073709551616 := x.toUInt64.toNat_lt
theorem uN_inj {x y : Int64} (h : uN x = uN y) : x = y := congrArg UInt64.toInt64 (UInt64.toNat_inj.mp h)
theorem uN_add (x y : Int64) : uN (x + y) = (uN x + uN y) % 18446744073709551616 := by
  show (x.toUInt64 + y.toUInt64).toNat = _
  exact UInt64.toNat_add _ _
theorem uN_mul (x y : Int64) : uN (x * y) = (uN x * uN y) % 18446744073709551616 := by
  show (x.toUInt64 * y.toUInt64).toNat = _
  exact UInt64.toNat_mul _ _
theorem uN_shl (x : Int64) : uN (x <<< ((1 : Int32).toInt64 &&& 63)) = (2 * uN x) % 18446744073709551616 := by
  have h : (((1 : Int32).toInt64 &&& 63).toBitVec.smod 64).toNat = 1 := by decide
  show (x.toBitVec <<< (((1 : Int32).toInt64 &&& 63).toBitVec.smod 64).toNat).toNat = _
  rw [h, BitVec.toNat_shiftLeft, Nat.shiftLeft_eq, Nat.mul_comm]
  rfl
theorem uN_shr (x : Int64) (s : UInt64) : uN (x.toUInt64 >>> s).toInt64 = uN x / 2 ^ (s.toNat % 64) := by
  show (x.toUInt64 >>> s).toNat = _
  rw [UInt64.toNat_shiftRight, Nat.shiftRight_eq_div_pow]
  rfl
theorem uN_s32 (x : Int64) : uN (x.toUInt64 >>> ((32 : Int32).toInt64.toUInt64 &&& Int64.toUInt64 63)).toInt64 = uN x / 4294967296 := by
  have h : ((32 : Int32).toInt64.toUInt64 &&& Int64.toUInt64 63).toNat % 64 = 32 := by decide
  rw [uN_shr, h]
theorem uN_s63 (x : Int64) : uN (x.toUInt64 >>> ((63 : Int32).toInt64.toUInt64 &&& Int64.toUInt64 63)).toInt64 = uN x / 9223372036854775808 := by
  have h : ((63 : Int32).toInt64.toUInt64 &&& Int64.toUInt64 63).toNat % 64 = 63 := by decide
  rw [uN_shr, h]
theorem uN_lo (x : Int64) : uN (x &&& 4294967295) = uN x % 4294967296 := by
  show (x.toUInt64 &&& Int64.toUInt64 4294967295).toNat = _
  rw [UInt64.toNat_and]
  exact Nat.and_two_pow_sub_one_eq_mod _ 32
theorem uN_bit (x : Int64) : (x &&& 1) = 0 ↔ uN x % 2 = 0 := by
  have h : uN (x &&& 1) = uN x % 2 := by
    show (x.toUInt64 &&& Int64.toUInt64 1).toNat = _
    rw [UInt64.toNat_and]
    exact Nat.and_two_pow_sub_one_eq_mod _ 1
  rw [← h]
  exact ⟨fun z => by rw [z]; rfl, fun z => uN_inj (z.trans rfl)⟩
theorem uN_or {x y : Int64} (hy : uN y < 2) : uN ((x <<< ((1 : Int32).toInt64 &&& 63)) ||| y) = (2 * uN x) % 18446744073709551616 + uN y := by
  have h1 : uN ((x <<< ((1 : Int32).toInt64 &&& 63)) ||| y) = uN (x <<< ((1 : Int32).toInt64 &&& 63)) ||| uN y := UInt64.toNat_or _ _
  have h2 : (2 * uN x) % 18446744073709551616 = 2 ^ 1 * (uN x % 9223372036854775808) := by omega
  rw [h1, uN_shl, h2]
  exact (Nat.two_pow_add_eq_or_of_lt (i := 1) hy _).symm
theorem nat_xor {a : Nat} (h : a < 18446744073709551616) : a ^^^ 2 ^ 63 = (a + 9223372036854775808) % 18446744073709551616 := by
  have h1 : (a ^^^ 2 ^ 63) % 2 ^ 63 = a % 2 ^ 63 := by rw [Nat.xor_mod_two_pow, Nat.mod_self, Nat.xor_zero]
  have h2 : (a ^^^ 2 ^ 63) / 2 ^ 63 = (a / 2 ^ 63) ^^^ 1 := by rw [Nat.xor_div_two_pow, Nat.div_self (Nat.two_pow_pos 63)]
  have h3 : a / 2 ^ 63 = 0 ∨ a / 2 ^ 63 = 1 := by omega
  generalize a ^^^ 2 ^ 63 = t at h1 h2
  rcases h3 with h3 | h3
  · rw [h3] at h2
    have h2 : t / 2 ^ 63 = 1 := h2
    omega
  · rw [h3] at h2
    have h2 : t / 2 ^ 63 = 0 := h2
    omega
theorem uN_xor (x : Int64) : uN (x ^^^ (-9223372036854775808)) = (uN x + 9223372036854775808) % 18446744073709551616 := by
  rw [← nat_xor (uN_lt x)]
  exact UInt64.toNat_xor _ _
theorem uN_int (x : Int64) : x.toInt = if 2 * uN x < 18446744073709551616 then (uN x : Int) else (uN x : Int) - 18446744073709551616 := BitVec.toInt_eq_toNat_cond _
theorem uN_le (x y : Int64) : (x ^^^ (-9223372036854775808)) ≤ (y ^^^ (-9223372036854775808)) ↔ uN x ≤ uN y := by
  have hx := uN_lt x
  have hy := uN_lt y
  rw [Int64.le_iff_toInt_le, uN_int, uN_int, uN_xor, uN_xor]
  omega
theorem uN_sk (x : Int64) {k : Nat} (hk : k < 64) : uN (x.toUInt64 >>> ((nI k).toInt64.toUInt64 &&& Int64.toUInt64 63)).toInt64 = uN x / 2 ^ k := by
  have h : ((nI k).toInt64.toUInt64 &&& Int64.toUInt64 63).toNat % 64 = k := by
    rw [nI_l (by omega), UInt64.toNat_and]
    have e : (lN k).toUInt64.toNat = k % 2 ^ 64 := rfl
    have e2 : (Int64.toUInt64 63).toNat = 2 ^ 6 - 1 := by decide
    rw [e, e2, Nat.and_two_pow_sub_one_eq_mod]
    omega
  rw [uN_shr, h]
/-! Numbers as naturals: iN of an int, uN of a long (uN's rows are in the part of pasted rows) -/
def iN (x : Int32) : Nat := x.toUInt32.toNat
theorem iN_lt (x : Int32) : iN x < 4294967296 := x.toUInt32.toNat_lt
theorem iN_inj {x y : Int32} (h : iN x = iN y) : x = y := congrArg UInt32.toInt32 (UInt32.toNat_inj.mp h)
theorem iN_int (x : Int32) : x.toInt = if 2 * iN x < 4294967296 then (iN x : Int) else (iN x : Int) - 4294967296 := BitVec.toInt_eq_toNat_cond _
theorem iN_nI (n : Nat) : iN (nI n) = n % 4294967296 := by
  show (BitVec.ofNat 32 n).toNat = _
  rw [BitVec.toNat_ofNat]
theorem nI_iN (x : Int32) : nI (iN x) = x := iN_inj (by rw [iN_nI, Nat.mod_eq_of_lt (iN_lt x)])
theorem uN_lN (n : Nat) : uN (lN n) = n % 18446744073709551616 := by
  show (BitVec.ofNat 64 n).toNat = _
  rw [BitVec.toNat_ofNat]
theorem lN_uN (x : Int64) : lN (uN x) = x := uN_inj (by rw [uN_lN, Nat.mod_eq_of_lt (uN_lt x)])
theorem iN_add (x y : Int32) : iN (x + y) = (iN x + iN y) % 4294967296 := by
  show (x.toUInt32 + y.toUInt32).toNat = _
  exact UInt32.toNat_add _ _
theorem iN_mul (x y : Int32) : iN (x * y) = (iN x * iN y) % 4294967296 := by
  show (x.toUInt32 * y.toUInt32).toNat = _
  exact UInt32.toNat_mul _ _
theorem iN_sub (x y : Int32) : iN (x - y) = (4294967296 - iN y + iN x) % 4294967296 := by
  show (x.toUInt32 - y.toUInt32).toNat = _
  exact UInt32.toNat_sub _ _
theorem uN_sub (x y : Int64) : uN (x - y) = (18446744073709551616 - uN y + uN x) % 18446744073709551616 := by
  show (x.toUInt64 - y.toUInt64).toNat = _
  exact UInt64.toNat_sub _ _
theorem iN_neg (x : Int32) : iN (-x) = (4294967296 - iN x) % 4294967296 := by
  rw [show -x = 0 - x from (Int32.zero_sub x).symm, iN_sub]
  rfl
theorem iN_and (x y : Int32) : iN (x &&& y) = iN x &&& iN y := by
  show (x.toUInt32 &&& y.toUInt32).toNat = _
  exact UInt32.toNat_and _ _
theorem iN_or (x y : Int32) : iN (x ||| y) = iN x ||| iN y := by
  show (x.toUInt32 ||| y.toUInt32).toNat = _
  exact UInt32.toNat_or _ _
theorem iN_xor (x y : Int32) : iN (x ^^^ y) = iN x ^^^ iN y := by
  show (x.toUInt32 ^^^ y.toUInt32).toNat = _
  exact UInt32.toNat_xor _ _
theorem uN_and (x y : Int64) : uN (x &&& y) = uN x &&& uN y := by
  show (x.toUInt64 &&& y.toUInt64).toNat = _
  exact UInt64.toNat_and _ _
theorem uN_orr (x y : Int64) : uN (x ||| y) = uN x ||| uN y := by
  show (x.toUInt64 ||| y.toUInt64).toNat = _
  exact UInt64.toNat_or _ _
theorem uN_xorr (x y : Int64) : uN (x ^^^ y) = uN x ^^^ uN y := by
  show (x.toUInt64 ^^^ y.toUInt64).toNat = _
  exact UInt64.toNat_xor _ _
/-- an int without its sign, as a long -/
theorem uN_ext (x : Int32) : uN (x.toInt64 &&& 4294967295) = iN x := by
  rw [uN_lo]
  have h1 := uN_int x.toInt64
  have h2 := iN_int x
  have h3 := iN_lt x
  have h4 := uN_lt x.toInt64
  rw [Int32.toInt_toInt64] at h1
  omega
theorem iN_tr (x : Int64) : iN x.toInt32 = uN x % 4294967296 := by
  have h := congrArg iN (lN_i (uN x))
  rw [lN_uN, iN_nI] at h
  exact h
/-- the low bits -/
theorem uN_m16 (x : Int64) : uN (x &&& 65535) = uN x % 65536 := by
  rw [uN_and]
  exact Nat.and_two_pow_sub_one_eq_mod _ 16
theorem uN_m8 (x : Int64) : uN (x &&& 255) = uN x % 256 := by
  rw [uN_and]
  exact Nat.and_two_pow_sub_one_eq_mod _ 8
theorem iN_m5 (x : Int32) : iN (x &&& 31) = iN x % 32 := by
  rw [iN_and]
  exact Nat.and_two_pow_sub_one_eq_mod _ 5
theorem sh_31 : ∀ c, c < 32 → ((nI c).toBitVec.smod 32).toNat = c := by decide +kernel
theorem sh_u31 : ∀ c, c < 32 → (nI c).toUInt32.toNat % 32 = c := by decide +kernel
theorem iN_shl (x y : Int32) : iN (x <<< (y &&& 31)) = iN x * 2 ^ (iN y % 32) % 4294967296 := by
  have hy : y &&& 31 = nI (iN y % 32) := iN_inj (by rw [iN_m5, iN_nI]; omega)
  have hc : iN y % 32 < 32 := Nat.mod_lt _ (by decide)
  rw [hy]
  generalize iN y % 32 = k at hc
  show (x.toBitVec <<< ((nI k).toBitVec.smod 32).toNat).toNat = _
  rw [sh_31 k hc, BitVec.toNat_shiftLeft, Nat.shiftLeft_eq]
  rfl
theorem iN_ushr (x y : Int32) : iN ((x.toUInt32 >>> (y.toUInt32 &&& Int32.toUInt32 31)).toInt32) = iN x / 2 ^ (iN y % 32) := by
  have hy : y &&& 31 = nI (iN y % 32) := iN_inj (by rw [iN_m5, iN_nI]; omega)
  have hc : iN y % 32 < 32 := Nat.mod_lt _ (by decide)
  have e : (y.toUInt32 &&& Int32.toUInt32 31) = (y &&& 31).toUInt32 := rfl
  rw [e, hy]
  generalize iN y % 32 = k at hc
  show (x.toUInt32 >>> (nI k).toUInt32).toNat = _
  rw [UInt32.toNat_shiftRight, Nat.shiftRight_eq_div_pow, sh_u31 k hc]
  rfl
theorem lt_n {x y : Int32} (hx : iN x < 2147483648) (hy : iN y < 2147483648) : x < y ↔ iN x < iN y := by
  rw [Int32.lt_iff_toInt_lt, iN_int, iN_int]
  omega
theorem le_n {x y : Int32} (hx : iN x < 2147483648) (hy : iN y < 2147483648) : x ≤ y ↔ iN x ≤ iN y := by
  rw [Int32.le_iff_toInt_le, iN_int, iN_int]
  omega
theorem ltL_n {x y : Int64} (hx : uN x < 9223372036854775808) (hy : uN y < 9223372036854775808) : x < y ↔ uN x < uN y := by
  rw [Int64.lt_iff_toInt_lt, uN_int, uN_int]
  omega
theorem leL_n {x y : Int64} (hx : uN x < 9223372036854775808) (hy : uN y < 9223372036854775808) : x ≤ y ↔ uN x ≤ uN y := by
  rw [Int64.le_iff_toInt_le, uN_int, uN_int]
  omega
theorem uN_eq {x y : Int64} : x = y ↔ uN x = uN y := ⟨fun h => by rw [h], uN_inj⟩
theorem iN_eq {x y : Int32} : x = y ↔ iN x = iN y := ⟨fun h => by rw [h], iN_inj⟩
theorem uN_div {x y : Int64} (hx : uN x < 9223372036854775808) (hy : uN y < 9223372036854775808) (h0 : 0 < uN y) : uN (x / y) = uN x / uN y := by
  have ex : x.toInt = (uN x : Int) := by rw [uN_int]; omega
  have ey : y.toInt = (uN y : Int) := by rw [uN_int]; omega
  have hne : y ≠ -1 := by
    intro h
    rw [h] at hy
    exact absurd hy (by decide)
  have h1 := Int64.toInt_div_of_ne_right x y hne
  rw [ex, ey, ← Int.ofNat_tdiv] at h1
  have h2 := uN_int (x / y)
  have h3 := uN_lt (x / y)
  have h4 : uN x / uN y ≤ uN x := Nat.div_le_self _ _
  rw [h1] at h2
  generalize uN x / uN y = q at h2 h4
  omega
/-- the rest of a division by 32 and by 4 -/
theorem uN_r32 {x : Int64} (hx : uN x < 4294967296) : uN (x - x / 32 * 32) = uN x % 32 := by
  have hd := uN_div (x := x) (y := 32) (by omega) (by decide) (by decide)
  have e : uN 32 = 32 := rfl
  rw [e] at hd
  rw [uN_sub, uN_mul, hd, e]
  have := Nat.div_mul_le_self (uN x) 32
  omega
theorem uN_r4 {x : Int64} (hx : uN x < 4294967296) : uN (x - x / 4 * 4) = uN x % 4 := by
  have hd := uN_div (x := x) (y := 4) (by omega) (by decide) (by decide)
  have e : uN 4 = 4 := rfl
  rw [e] at hd
  rw [uN_sub, uN_mul, hd, e]
  have := Nat.div_mul_le_self (uN x) 4
  omega
theorem iN_d4 {x : Int32} (hx : iN x < 2147483648) : iN (x / 4) = iN x / 4 := by
  have ex : x.toInt = (iN x : Int) := by rw [iN_int]; omega
  have h1 := Int32.toInt_div_of_ne_right x 4 (by decide)
  rw [ex, show (4 : Int32).toInt = ((4 : Nat) : Int) from rfl, ← Int.ofNat_tdiv] at h1
  have h2 := iN_int (x / 4)
  have h3 := iN_lt (x / 4)
  rw [h1] at h2
  omega
theorem uN_i2l {x : Int32} (hx : iN x < 2147483648) : uN x.toInt64 = iN x := by
  have h1 := uN_int x.toInt64
  have h2 := iN_int x
  have h4 := uN_lt x.toInt64
  rw [Int32.toInt_toInt64] at h1
  omega
theorem sh_63 : ∀ c, c < 64 → (((nI c).toInt64 &&& 63).toBitVec.smod 64).toNat = c := by decide +kernel
theorem uN_lshl (x : Int64) {c : Int32} (hc : iN c < 64) : uN (x <<< (c.toInt64 &&& 63)) = uN x * 2 ^ iN c % 18446744073709551616 := by
  have e := nI_iN c
  generalize iN c = k at hc e
  subst e
  show (x.toBitVec <<< (((nI k).toInt64 &&& 63).toBitVec.smod 64).toNat).toNat = _
  rw [sh_63 k hc, BitVec.toNat_shiftLeft, Nat.shiftLeft_eq]
  rfl
theorem uN_lshr {x : Int64} (hx : uN x < 9223372036854775808) {c : Int32} (hc : iN c < 64) : uN (x >>> (c.toInt64 &&& 63)) = uN x / 2 ^ iN c := by
  have e := nI_iN c
  generalize iN c = k at hc e
  subst e
  show (x.toBitVec.sshiftRight (((nI k).toInt64 &&& 63).toBitVec.smod 64).toNat).toNat = _
  rw [sh_63 k hc, BitVec.sshiftRight_eq_of_msb_false, BitVec.toNat_ushiftRight, Nat.shiftRight_eq_div_pow]
  · rfl
  · rw [BitVec.msb_eq_false_iff_two_mul_lt]
    show 2 * uN x < 2 ^ 64
    omega
/-- the low bits of a long that is moved right with its sign -/
theorem uN_sar (x : Int64) {c : Int32} {j : Nat} (hc : iN c + j ≤ 64) (h64 : iN c < 64) : uN (x >>> (c.toInt64 &&& 63)) % 2 ^ j = uN x / 2 ^ iN c % 2 ^ j := by
  have e := nI_iN c
  generalize iN c = k at hc h64 e
  subst e
  apply Nat.eq_of_testBit_eq
  intro i
  rw [Nat.testBit_mod_two_pow, Nat.testBit_mod_two_pow, Nat.testBit_div_two_pow]
  by_cases hi : i < j
  · have h1 : (uN (x >>> ((nI k).toInt64 &&& 63))).testBit i = (x.toBitVec.sshiftRight (((nI k).toInt64 &&& 63).toBitVec.smod 64).toNat).getLsbD i := rfl
    rw [h1, sh_63 k h64, BitVec.getLsbD_sshiftRight]
    have h2 : k + i < 64 := by omega
    simp only [hi, decide_true, Bool.true_and, h2, if_true]
    have h3 : ¬ 64 ≤ i := by omega
    simp only [h3, decide_false, Bool.not_false, Bool.true_and]
    rw [Nat.add_comm]
    rfl
  · simp [hi]
/-! The comparison of longs -/
theorem cmp_cases (x y : Int64) : (y.toInt < x.toInt ∧ lg_cmp x y = 1) ∨ (x.toInt = y.toInt ∧ lg_cmp x y = 0) ∨ (x.toInt < y.toInt ∧ lg_cmp x y = -1) := by
  unfold lg_cmp
  by_cases h : x > y
  · exact Or.inl ⟨Int64.lt_iff_toInt_lt.mp h, by rw [if_pos h]⟩
  · by_cases h2 : x = y
    · exact Or.inr (Or.inl ⟨by rw [h2], by rw [if_neg h, if_pos h2]⟩)
    · refine Or.inr (Or.inr ⟨?_, by rw [if_neg h, if_neg h2]⟩)
      have h3 : ¬ y < x := h
      rw [Int64.lt_iff_toInt_lt] at h3
      have h4 : ¬ x.toInt = y.toInt := fun q => h2 (Int64.toInt_inj.mp q)
      omega
theorem cmp_le (x y : Int64) : lg_cmp x y ≤ (0 : Int32) ↔ x ≤ y := by
  rw [Int64.le_iff_toInt_le]
  rcases cmp_cases x y with ⟨h, e⟩ | ⟨h, e⟩ | ⟨h, e⟩ <;> rw [e]
  · exact ⟨fun q => absurd q (by decide), fun q => by omega⟩
  · exact ⟨fun _ => by omega, fun _ => by decide⟩
  · exact ⟨fun _ => by omega, fun _ => by decide⟩
theorem cmp_ge (x y : Int64) : (0 : Int32) ≤ lg_cmp x y ↔ y ≤ x := by
  rw [Int64.le_iff_toInt_le]
  rcases cmp_cases x y with ⟨h, e⟩ | ⟨h, e⟩ | ⟨h, e⟩ <;> rw [e]
  · exact ⟨fun _ => by omega, fun _ => by decide⟩
  · exact ⟨fun _ => by omega, fun _ => by decide⟩
  · exact ⟨fun q => absurd q (by decide), fun q => by omega⟩
theorem cmp_lt (x y : Int64) : lg_cmp x y < (0 : Int32) ↔ x < y := by
  rw [Int64.lt_iff_toInt_lt]
  rcases cmp_cases x y with ⟨h, e⟩ | ⟨h, e⟩ | ⟨h, e⟩ <;> rw [e]
  · exact ⟨fun q => absurd q (by decide), fun q => by omega⟩
  · exact ⟨fun q => absurd q (by decide), fun q => by omega⟩
  · exact ⟨fun _ => by omega, fun _ => by decide⟩
theorem cmp_gt (x y : Int64) : (0 : Int32) < lg_cmp x y ↔ y < x := by
  rw [Int64.lt_iff_toInt_lt]
  rcases cmp_cases x y with ⟨h, e⟩ | ⟨h, e⟩ | ⟨h, e⟩ <;> rw [e]
  · exact ⟨fun _ => by omega, fun _ => by decide⟩
  · exact ⟨fun q => absurd q (by decide), fun q => by omega⟩
  · exact ⟨fun q => absurd q (by decide), fun q => by omega⟩
theorem cmp_eq (x y : Int64) : lg_cmp x y = (0 : Int32) ↔ x = y := by
  rw [← Int64.toInt_inj]
  rcases cmp_cases x y with ⟨h, e⟩ | ⟨h, e⟩ | ⟨h, e⟩ <;> rw [e]
  · exact ⟨fun q => absurd q (by decide), fun q => by omega⟩
  · exact ⟨fun _ => by omega, fun _ => rfl⟩
  · exact ⟨fun q => absurd q (by decide), fun q => by omega⟩
theorem uN_pack {lo hi : Int64} (hlo : uN lo < 4294967296) (hhi : uN hi < 4294967296) : uN (lo ||| hi <<< ((32 : Int32).toInt64 &&& 63)) = uN hi * 4294967296 + uN lo := by
  rw [uN_orr, uN_lshl hi (c := 32) (by decide), show iN (32 : Int32) = 32 from rfl]
  have h1 : uN hi * 2 ^ 32 % 18446744073709551616 = 2 ^ 32 * uN hi := by omega
  rw [h1, Nat.or_comm, ← Nat.two_pow_add_eq_or_of_lt (i := 32) hlo]
  omega
/-! A code with the bit of X, and without it -/
theorem and9 (c : Int32) : c = c &&& -9 ∨ c = (c &&& -9) ||| 8 := by
  have h1 : iN (c &&& -9) = iN c &&& 4294967287 := by rw [iN_and]; rfl
  have h2 : iN ((c &&& -9) ||| 8) = (iN c &&& 4294967287) ||| 8 := by rw [iN_or, h1]; rfl
  have key : ∀ n, n < 4294967296 → n = n &&& 4294967287 ∨ n = (n &&& 4294967287) ||| 8 := by
    intro n hn
    by_cases hb : n.testBit 3 = true
    · right
      apply Nat.eq_of_testBit_eq
      intro i
      rw [Nat.testBit_or, Nat.testBit_and]
      by_cases hi : i < 32
      · have e : ∀ i, i < 32 → Nat.testBit 4294967287 i = !decide (i = 3) ∧ Nat.testBit 8 i = decide (i = 3) := by decide
        rw [(e i hi).1, (e i hi).2]
        by_cases h3 : i = 3
        · subst h3; rw [hb]; rfl
        · simp [h3]
      · have hz : n.testBit i = false := Nat.testBit_lt_two_pow (Nat.lt_of_lt_of_le hn (by rw [show (4294967296 : Nat) = 2 ^ 32 from rfl]; exact Nat.pow_le_pow_right (by decide) (by omega)))
        have hz8 : Nat.testBit 8 i = false := Nat.testBit_lt_two_pow (Nat.lt_of_lt_of_le (show 8 < 2 ^ 32 by decide) (Nat.pow_le_pow_right (by decide) (by omega)))
        rw [hz, hz8]; rfl
    · left
      apply Nat.eq_of_testBit_eq
      intro i
      rw [Nat.testBit_and]
      by_cases hi : i < 32
      · have e : ∀ i, i < 32 → Nat.testBit 4294967287 i = !decide (i = 3) := by decide
        rw [e i hi]
        by_cases h3 : i = 3
        · subst h3
          have hb' : n.testBit 3 = false := by cases h : n.testBit 3 <;> simp_all
          rw [hb']; rfl
        · simp [h3]
      · have hz : n.testBit i = false := Nat.testBit_lt_two_pow (Nat.lt_of_lt_of_le hn (by rw [show (4294967296 : Nat) = 2 ^ 32 from rfl]; exact Nat.pow_le_pow_right (by decide) (by omega)))
        rw [hz]; rfl
  rcases key (iN c) (iN_lt c) with h | h
  · left; exact iN_inj (by rw [h1]; exact h)
  · right; exact iN_inj (by rw [h2]; exact h)
end
section
theorem wd_36 : Cond.initialized R_In ∈ lw_g := wd_in (i := 36) (by decide +kernel) (by decide +kernel)
theorem wd_37 : Cond.initialized "java/lang/Math" ∈ lw_g := wd_in (i := 37) (by decide +kernel) (by decide +kernel)
theorem wd_247 : Cond.constant R_Ac 13 65535 ∈ lw_g := wd_in (i := 247) (by decide +kernel) (by decide +kernel)
theorem wd_303 : Cond.constantLong R_F 142 4294967295 ∈ lw_g := wd_in (i := 303) (by decide +kernel) (by decide +kernel)
theorem wd_321 : Cond.constantLong R_Co 33 (-9223372036854775808) ∈ lw_g := wd_in (i := 321) (by decide +kernel) (by decide +kernel)
theorem wd_366 : Cond.constantLong R_In 7 65535 ∈ lw_g := wd_in (i := 366) (by decide +kernel) (by decide +kernel)
theorem wd_370 : Cond.methodLink R_In 11 y_In_isArithmetic ∈ lw_g := wd_in (i := 370) (by decide +kernel) (by decide +kernel)
theorem wd_371 : Cond.static y_In_isArithmetic ∈ lw_g := wd_in (i := 371) (by decide +kernel) (by decide +kernel)
theorem wd_372 : Cond.code y_In_isArithmetic prog_6_method_7_code 1 (Option.some Jvm.ClassFile.FieldType.boolean) ∈ lw_g := wd_in (i := 372) (by decide +kernel) (by decide +kernel)
theorem wd_373 : Cond.methodLink R_In 17 y_In_isConditional ∈ lw_g := wd_in (i := 373) (by decide +kernel) (by decide +kernel)
theorem wd_374 : Cond.static y_In_isConditional ∈ lw_g := wd_in (i := 374) (by decide +kernel) (by decide +kernel)
theorem wd_375 : Cond.code y_In_isConditional prog_6_method_8_code 1 (Option.some Jvm.ClassFile.FieldType.boolean) ∈ lw_g := wd_in (i := 375) (by decide +kernel) (by decide +kernel)
theorem wd_376 : Cond.methodLink R_In 20 y_In_endsRun ∈ lw_g := wd_in (i := 376) (by decide +kernel) (by decide +kernel)
theorem wd_377 : Cond.static y_In_endsRun ∈ lw_g := wd_in (i := 377) (by decide +kernel) (by decide +kernel)
theorem wd_378 : Cond.code y_In_endsRun prog_6_method_9_code 1 (Option.some Jvm.ClassFile.FieldType.boolean) ∈ lw_g := wd_in (i := 378) (by decide +kernel) (by decide +kernel)
theorem wd_379 : Cond.methodLink R_Ch 46 y_In_operandOf ∈ lw_g := wd_in (i := 379) (by decide +kernel) (by decide +kernel)
theorem wd_380 : Cond.static y_In_operandOf ∈ lw_g := wd_in (i := 380) (by decide +kernel) (by decide +kernel)
theorem wd_381 : Cond.code y_In_operandOf prog_6_method_5_code 2 (Option.some Jvm.ClassFile.FieldType.long) ∈ lw_g := wd_in (i := 381) (by decide +kernel) (by decide +kernel)
theorem wd_385 : Cond.methodLink R_Ch 58 y_In_loadsCell ∈ lw_g := wd_in (i := 385) (by decide +kernel) (by decide +kernel)
theorem wd_386 : Cond.static y_In_loadsCell ∈ lw_g := wd_in (i := 386) (by decide +kernel) (by decide +kernel)
theorem wd_387 : Cond.code y_In_loadsCell prog_6_method_10_code 1 (Option.some Jvm.ClassFile.FieldType.boolean) ∈ lw_g := wd_in (i := 387) (by decide +kernel) (by decide +kernel)
theorem wd_388 : Cond.methodLink R_Ch 61 y_In_storesCell ∈ lw_g := wd_in (i := 388) (by decide +kernel) (by decide +kernel)
theorem wd_389 : Cond.static y_In_storesCell ∈ lw_g := wd_in (i := 389) (by decide +kernel) (by decide +kernel)
theorem wd_390 : Cond.code y_In_storesCell prog_6_method_11_code 1 (Option.some Jvm.ClassFile.FieldType.boolean) ∈ lw_g := wd_in (i := 390) (by decide +kernel) (by decide +kernel)
theorem wd_391 : Cond.constantLong R_Ch 66 16 ∈ lw_g := wd_in (i := 391) (by decide +kernel) (by decide +kernel)
theorem wd_392 : Cond.constantLong R_Ch 68 4 ∈ lw_g := wd_in (i := 392) (by decide +kernel) (by decide +kernel)
theorem wd_393 : Cond.constantLong R_Ch 72 64 ∈ lw_g := wd_in (i := 393) (by decide +kernel) (by decide +kernel)
theorem wd_394 : Cond.constantLong R_Ch 74 32 ∈ lw_g := wd_in (i := 394) (by decide +kernel) (by decide +kernel)
theorem wd_398 : Cond.methodLink R_Ch 76 y_In_isConditional ∈ lw_g := wd_in (i := 398) (by decide +kernel) (by decide +kernel)
theorem wd_399 : Cond.methodLink R_Ch 79 y_In_distanceIfTrue ∈ lw_g := wd_in (i := 399) (by decide +kernel) (by decide +kernel)
theorem wd_400 : Cond.static y_In_distanceIfTrue ∈ lw_g := wd_in (i := 400) (by decide +kernel) (by decide +kernel)
theorem wd_401 : Cond.code y_In_distanceIfTrue prog_6_method_3_code 2 (Option.some Jvm.ClassFile.FieldType.int) ∈ lw_g := wd_in (i := 401) (by decide +kernel) (by decide +kernel)
theorem wd_402 : Cond.constantLong R_In 9 255 ∈ lw_g := wd_in (i := 402) (by decide +kernel) (by decide +kernel)
theorem wd_403 : Cond.methodLink R_Ch 82 y_In_distanceIfFalse ∈ lw_g := wd_in (i := 403) (by decide +kernel) (by decide +kernel)
theorem wd_404 : Cond.static y_In_distanceIfFalse ∈ lw_g := wd_in (i := 404) (by decide +kernel) (by decide +kernel)
theorem wd_405 : Cond.code y_In_distanceIfFalse prog_6_method_4_code 2 (Option.some Jvm.ClassFile.FieldType.int) ∈ lw_g := wd_in (i := 405) (by decide +kernel) (by decide +kernel)
theorem wd_406 : Cond.methodLink R_Ch 85 ⟨"java/lang/Math", "max", "(II)I"⟩ ∈ lw_g := wd_in (i := 406) (by decide +kernel) (by decide +kernel)
theorem wd_407 : Cond.static ⟨"java/lang/Math", "max", "(II)I"⟩ ∈ lw_g := wd_in (i := 407) (by decide +kernel) (by decide +kernel)
theorem wd_408 : Cond.code ⟨"java/lang/Math", "max", "(II)I"⟩ prog_13_method_65_code 2 (Option.some Jvm.ClassFile.FieldType.int) ∈ lw_g := wd_in (i := 408) (by decide +kernel) (by decide +kernel)
theorem d_F_unsigned_0 : decode b_F_unsigned 0 = .ok (.iload_n 0, 1) := by decide +kernel
theorem d_F_unsigned_1 : decode b_F_unsigned 1 = .ok (.i2l, 1) := by decide +kernel
theorem d_F_unsigned_2 : decode b_F_unsigned 2 = .ok (.ldc2_w 142, 3) := by decide +kernel
theorem d_F_unsigned_5 : decode b_F_unsigned 5 = .ok (.land, 1) := by decide +kernel
theorem d_F_unsigned_6 : decode b_F_unsigned 6 = .ok (.lreturn, 1) := by decide +kernel
theorem d_Ca_hasArgument_0 : decode b_Ca_hasArgument 0 = .ok (.iconst 0, 1) := by decide +kernel
theorem d_Ca_hasArgument_1 : decode b_Ca_hasArgument 1 = .ok (.iload_n 0, 1) := by decide +kernel
theorem d_Ca_hasArgument_2 : decode b_Ca_hasArgument 2 = .ok (.if_icmp .gt 13, 3) := by decide +kernel
theorem d_Ca_hasArgument_5 : decode b_Ca_hasArgument 5 = .ok (.iload_n 0, 1) := by decide +kernel
theorem d_Ca_hasArgument_6 : decode b_Ca_hasArgument 6 = .ok (.bipush 6, 2) := by decide +kernel
theorem d_Ca_hasArgument_8 : decode b_Ca_hasArgument 8 = .ok (.if_icmp .ge 7, 3) := by decide +kernel
theorem d_Ca_hasArgument_11 : decode b_Ca_hasArgument 11 = .ok (.iconst 1, 1) := by decide +kernel
theorem d_Ca_hasArgument_12 : decode b_Ca_hasArgument 12 = .ok (.goto 4, 3) := by decide +kernel
theorem d_Ca_hasArgument_15 : decode b_Ca_hasArgument 15 = .ok (.iconst 0, 1) := by decide +kernel
theorem d_Ca_hasArgument_16 : decode b_Ca_hasArgument 16 = .ok (.ireturn, 1) := by decide +kernel
theorem d_Ac_isPossible_0 : decode b_Ac_isPossible 0 = .ok (.iconst 0, 1) := by decide +kernel
theorem d_Ac_isPossible_1 : decode b_Ac_isPossible 1 = .ok (.iload_n 0, 1) := by decide +kernel
theorem d_Ac_isPossible_2 : decode b_Ac_isPossible 2 = .ok (.if_icmp .gt 24, 3) := by decide +kernel
theorem d_Ac_isPossible_5 : decode b_Ac_isPossible 5 = .ok (.iload_n 0, 1) := by decide +kernel
theorem d_Ac_isPossible_6 : decode b_Ac_isPossible 6 = .ok (.bipush 6, 2) := by decide +kernel
theorem d_Ac_isPossible_8 : decode b_Ac_isPossible 8 = .ok (.if_icmp .gt 18, 3) := by decide +kernel
theorem d_Ac_isPossible_11 : decode b_Ac_isPossible 11 = .ok (.iconst 0, 1) := by decide +kernel
theorem d_Ac_isPossible_12 : decode b_Ac_isPossible 12 = .ok (.iload_n 1, 1) := by decide +kernel
theorem d_Ac_isPossible_13 : decode b_Ac_isPossible 13 = .ok (.if_icmp .gt 13, 3) := by decide +kernel
theorem d_Ac_isPossible_16 : decode b_Ac_isPossible 16 = .ok (.iload_n 1, 1) := by decide +kernel
theorem d_Ac_isPossible_17 : decode b_Ac_isPossible 17 = .ok (.ldc 13, 2) := by decide +kernel
theorem d_Ac_isPossible_19 : decode b_Ac_isPossible 19 = .ok (.if_icmp .gt 7, 3) := by decide +kernel
theorem d_Ac_isPossible_22 : decode b_Ac_isPossible 22 = .ok (.iconst 1, 1) := by decide +kernel
theorem d_Ac_isPossible_23 : decode b_Ac_isPossible 23 = .ok (.goto 4, 3) := by decide +kernel
theorem d_Ac_isPossible_26 : decode b_Ac_isPossible 26 = .ok (.iconst 0, 1) := by decide +kernel
theorem d_Ac_isPossible_27 : decode b_Ac_isPossible 27 = .ok (.ireturn, 1) := by decide +kernel
theorem d_Co_isOperator_0 : decode b_Co_isOperator 0 = .ok (.iconst 0, 1) := by decide +kernel
theorem d_Co_isOperator_1 : decode b_Co_isOperator 1 = .ok (.iload_n 0, 1) := by decide +kernel
theorem d_Co_isOperator_2 : decode b_Co_isOperator 2 = .ok (.if_icmp .gt 13, 3) := by decide +kernel
theorem d_Co_isOperator_5 : decode b_Co_isOperator 5 = .ok (.iload_n 0, 1) := by decide +kernel
theorem d_Co_isOperator_6 : decode b_Co_isOperator 6 = .ok (.bipush 7, 2) := by decide +kernel
theorem d_Co_isOperator_8 : decode b_Co_isOperator 8 = .ok (.if_icmp .ge 7, 3) := by decide +kernel
theorem d_Co_isOperator_11 : decode b_Co_isOperator 11 = .ok (.iconst 1, 1) := by decide +kernel
theorem d_Co_isOperator_12 : decode b_Co_isOperator 12 = .ok (.goto 4, 3) := by decide +kernel
theorem d_Co_isOperator_15 : decode b_Co_isOperator 15 = .ok (.iconst 0, 1) := by decide +kernel
theorem d_Co_isOperator_16 : decode b_Co_isOperator 16 = .ok (.ireturn, 1) := by decide +kernel
theorem d_Co_isBelow_0 : decode b_Co_isBelow 0 = .ok (.ldc2_w 33, 3) := by decide +kernel
theorem d_Co_isBelow_3 : decode b_Co_isBelow 3 = .ok (.lstore 4, 2) := by decide +kernel
theorem d_Co_isBelow_5 : decode b_Co_isBelow 5 = .ok (.lload_n 0, 1) := by decide +kernel
theorem d_Co_isBelow_6 : decode b_Co_isBelow 6 = .ok (.lload 4, 2) := by decide +kernel
theorem d_Co_isBelow_8 : decode b_Co_isBelow 8 = .ok (.lxor, 1) := by decide +kernel
theorem d_Co_isBelow_9 : decode b_Co_isBelow 9 = .ok (.lload_n 2, 1) := by decide +kernel
theorem d_Co_isBelow_10 : decode b_Co_isBelow 10 = .ok (.lload 4, 2) := by decide +kernel
theorem d_Co_isBelow_12 : decode b_Co_isBelow 12 = .ok (.lxor, 1) := by decide +kernel
theorem d_Co_isBelow_13 : decode b_Co_isBelow 13 = .ok (.lcmp, 1) := by decide +kernel
theorem d_Co_isBelow_14 : decode b_Co_isBelow 14 = .ok (.ifCond .ge 7, 3) := by decide +kernel
theorem d_Co_isBelow_17 : decode b_Co_isBelow 17 = .ok (.iconst 1, 1) := by decide +kernel
theorem d_Co_isBelow_18 : decode b_Co_isBelow 18 = .ok (.goto 4, 3) := by decide +kernel
theorem d_Co_isBelow_21 : decode b_Co_isBelow 21 = .ok (.iconst 0, 1) := by decide +kernel
theorem d_Co_isBelow_22 : decode b_Co_isBelow 22 = .ok (.ireturn, 1) := by decide +kernel
theorem d_In_codeOf_0 : decode b_In_codeOf 0 = .ok (.lload_n 0, 1) := by decide +kernel
theorem d_In_codeOf_1 : decode b_In_codeOf 1 = .ok (.ldc2_w 7, 3) := by decide +kernel
theorem d_In_codeOf_4 : decode b_In_codeOf 4 = .ok (.land, 1) := by decide +kernel
theorem d_In_codeOf_5 : decode b_In_codeOf 5 = .ok (.l2i, 1) := by decide +kernel
theorem d_In_codeOf_6 : decode b_In_codeOf 6 = .ok (.ireturn, 1) := by decide +kernel
theorem d_In_distanceIfTrue_0 : decode b_In_distanceIfTrue 0 = .ok (.lload_n 0, 1) := by decide +kernel
theorem d_In_distanceIfTrue_1 : decode b_In_distanceIfTrue 1 = .ok (.bipush 16, 2) := by decide +kernel
theorem d_In_distanceIfTrue_3 : decode b_In_distanceIfTrue 3 = .ok (.lushr, 1) := by decide +kernel
theorem d_In_distanceIfTrue_4 : decode b_In_distanceIfTrue 4 = .ok (.ldc2_w 9, 3) := by decide +kernel
theorem d_In_distanceIfTrue_7 : decode b_In_distanceIfTrue 7 = .ok (.land, 1) := by decide +kernel
theorem d_In_distanceIfTrue_8 : decode b_In_distanceIfTrue 8 = .ok (.l2i, 1) := by decide +kernel
theorem d_In_distanceIfTrue_9 : decode b_In_distanceIfTrue 9 = .ok (.ireturn, 1) := by decide +kernel
theorem d_In_distanceIfFalse_0 : decode b_In_distanceIfFalse 0 = .ok (.lload_n 0, 1) := by decide +kernel
theorem d_In_distanceIfFalse_1 : decode b_In_distanceIfFalse 1 = .ok (.bipush 24, 2) := by decide +kernel
theorem d_In_distanceIfFalse_3 : decode b_In_distanceIfFalse 3 = .ok (.lushr, 1) := by decide +kernel
theorem d_In_distanceIfFalse_4 : decode b_In_distanceIfFalse 4 = .ok (.ldc2_w 9, 3) := by decide +kernel
theorem d_In_distanceIfFalse_7 : decode b_In_distanceIfFalse 7 = .ok (.land, 1) := by decide +kernel
theorem d_In_distanceIfFalse_8 : decode b_In_distanceIfFalse 8 = .ok (.l2i, 1) := by decide +kernel
theorem d_In_distanceIfFalse_9 : decode b_In_distanceIfFalse 9 = .ok (.ireturn, 1) := by decide +kernel
theorem d_In_operandOf_0 : decode b_In_operandOf 0 = .ok (.lload_n 0, 1) := by decide +kernel
theorem d_In_operandOf_1 : decode b_In_operandOf 1 = .ok (.bipush 32, 2) := by decide +kernel
theorem d_In_operandOf_3 : decode b_In_operandOf 3 = .ok (.lushr, 1) := by decide +kernel
theorem d_In_operandOf_4 : decode b_In_operandOf 4 = .ok (.lreturn, 1) := by decide +kernel
theorem d_In_isArithmetic_0 : decode b_In_isArithmetic 0 = .ok (.iload_n 0, 1) := by decide +kernel
theorem d_In_isArithmetic_1 : decode b_In_isArithmetic 1 = .ok (.lookupswitch 165 #[(4, 163), (12, 163), (20, 163), (28, 163), (36, 163), (44, 163), (52, 163), (60, 163), (68, 163), (76, 163), (84, 163), (92, 163), (100, 163), (108, 163), (116, 163), (124, 163), (132, 163), (164, 163), (172, 163)], 163) := by decide +kernel
theorem d_In_isArithmetic_164 : decode b_In_isArithmetic 164 = .ok (.iconst 1, 1) := by decide +kernel
theorem d_In_isArithmetic_165 : decode b_In_isArithmetic 165 = .ok (.ireturn, 1) := by decide +kernel
theorem d_In_isArithmetic_166 : decode b_In_isArithmetic 166 = .ok (.iconst 0, 1) := by decide +kernel
theorem d_In_isArithmetic_167 : decode b_In_isArithmetic 167 = .ok (.ireturn, 1) := by decide +kernel
theorem d_In_isConditional_0 : decode b_In_isConditional 0 = .ok (.iload_n 0, 1) := by decide +kernel
theorem d_In_isConditional_1 : decode b_In_isConditional 1 = .ok (.lookupswitch 77 #[(21, 75), (29, 75), (37, 75), (45, 75), (53, 75), (61, 75), (69, 75), (77, 75)], 75) := by decide +kernel
theorem d_In_isConditional_76 : decode b_In_isConditional 76 = .ok (.iconst 1, 1) := by decide +kernel
theorem d_In_isConditional_77 : decode b_In_isConditional 77 = .ok (.ireturn, 1) := by decide +kernel
theorem d_In_isConditional_78 : decode b_In_isConditional 78 = .ok (.iconst 0, 1) := by decide +kernel
theorem d_In_isConditional_79 : decode b_In_isConditional 79 = .ok (.ireturn, 1) := by decide +kernel
theorem d_In_endsRun_0 : decode b_In_endsRun 0 = .ok (.iload_n 0, 1) := by decide +kernel
theorem d_In_endsRun_1 : decode b_In_endsRun 1 = .ok (.bipush 6, 2) := by decide +kernel
theorem d_In_endsRun_3 : decode b_In_endsRun 3 = .ok (.if_icmp .eq 9, 3) := by decide +kernel
theorem d_In_endsRun_6 : decode b_In_endsRun 6 = .ok (.iload_n 0, 1) := by decide +kernel
theorem d_In_endsRun_7 : decode b_In_endsRun 7 = .ok (.bipush 22, 2) := by decide +kernel
theorem d_In_endsRun_9 : decode b_In_endsRun 9 = .ok (.if_icmp .ne 7, 3) := by decide +kernel
theorem d_In_endsRun_12 : decode b_In_endsRun 12 = .ok (.iconst 1, 1) := by decide +kernel
theorem d_In_endsRun_13 : decode b_In_endsRun 13 = .ok (.goto 4, 3) := by decide +kernel
theorem d_In_endsRun_16 : decode b_In_endsRun 16 = .ok (.iconst 0, 1) := by decide +kernel
theorem d_In_endsRun_17 : decode b_In_endsRun 17 = .ok (.ireturn, 1) := by decide +kernel
theorem d_In_loadsCell_0 : decode b_In_loadsCell 0 = .ok (.iload_n 0, 1) := by decide +kernel
theorem d_In_loadsCell_1 : decode b_In_loadsCell 1 = .ok (.bipush 96, 2) := by decide +kernel
theorem d_In_loadsCell_3 : decode b_In_loadsCell 3 = .ok (.if_icmp .eq 9, 3) := by decide +kernel
theorem d_In_loadsCell_6 : decode b_In_loadsCell 6 = .ok (.iload_n 0, 1) := by decide +kernel
theorem d_In_loadsCell_7 : decode b_In_loadsCell 7 = .ok (.bipush 97, 2) := by decide +kernel
theorem d_In_loadsCell_9 : decode b_In_loadsCell 9 = .ok (.if_icmp .ne 7, 3) := by decide +kernel
theorem d_In_loadsCell_12 : decode b_In_loadsCell 12 = .ok (.iconst 1, 1) := by decide +kernel
theorem d_In_loadsCell_13 : decode b_In_loadsCell 13 = .ok (.goto 4, 3) := by decide +kernel
theorem d_In_loadsCell_16 : decode b_In_loadsCell 16 = .ok (.iconst 0, 1) := by decide +kernel
theorem d_In_loadsCell_17 : decode b_In_loadsCell 17 = .ok (.ireturn, 1) := by decide +kernel
theorem d_In_storesCell_0 : decode b_In_storesCell 0 = .ok (.iload_n 0, 1) := by decide +kernel
theorem d_In_storesCell_1 : decode b_In_storesCell 1 = .ok (.iconst 2, 1) := by decide +kernel
theorem d_In_storesCell_2 : decode b_In_storesCell 2 = .ok (.if_icmp .eq 8, 3) := by decide +kernel
theorem d_In_storesCell_5 : decode b_In_storesCell 5 = .ok (.iload_n 0, 1) := by decide +kernel
theorem d_In_storesCell_6 : decode b_In_storesCell 6 = .ok (.iconst 3, 1) := by decide +kernel
theorem d_In_storesCell_7 : decode b_In_storesCell 7 = .ok (.if_icmp .ne 7, 3) := by decide +kernel
theorem d_In_storesCell_10 : decode b_In_storesCell 10 = .ok (.iconst 1, 1) := by decide +kernel
theorem d_In_storesCell_11 : decode b_In_storesCell 11 = .ok (.goto 4, 3) := by decide +kernel
theorem d_In_storesCell_14 : decode b_In_storesCell 14 = .ok (.iconst 0, 1) := by decide +kernel
theorem d_In_storesCell_15 : decode b_In_storesCell 15 = .ok (.ireturn, 1) := by decide +kernel
theorem d_In_isKnown_0 : decode b_In_isKnown 0 = .ok (.iload_n 0, 1) := by decide +kernel
theorem d_In_isKnown_1 : decode b_In_isKnown 1 = .ok (.lookupswitch 109 #[(0, 107), (1, 107), (2, 107), (3, 107), (5, 107), (7, 107), (32, 107), (96, 107), (97, 107), (128, 107), (129, 107), (135, 107)], 107) := by decide +kernel
theorem d_In_isKnown_108 : decode b_In_isKnown 108 = .ok (.iconst 1, 1) := by decide +kernel
theorem d_In_isKnown_109 : decode b_In_isKnown 109 = .ok (.ireturn, 1) := by decide +kernel
theorem d_In_isKnown_110 : decode b_In_isKnown 110 = .ok (.iload_n 0, 1) := by decide +kernel
theorem d_In_isKnown_111 : decode b_In_isKnown 111 = .ok (.invokestatic 11, 3) := by decide +kernel
theorem d_In_isKnown_114 : decode b_In_isKnown 114 = .ok (.ifCond .ne 17, 3) := by decide +kernel
theorem d_In_isKnown_117 : decode b_In_isKnown 117 = .ok (.iload_n 0, 1) := by decide +kernel
theorem d_In_isKnown_118 : decode b_In_isKnown 118 = .ok (.invokestatic 17, 3) := by decide +kernel
theorem d_In_isKnown_121 : decode b_In_isKnown 121 = .ok (.ifCond .ne 10, 3) := by decide +kernel
theorem d_In_isKnown_124 : decode b_In_isKnown 124 = .ok (.iload_n 0, 1) := by decide +kernel
theorem d_In_isKnown_125 : decode b_In_isKnown 125 = .ok (.invokestatic 20, 3) := by decide +kernel
theorem d_In_isKnown_128 : decode b_In_isKnown 128 = .ok (.ifCond .eq 7, 3) := by decide +kernel
theorem d_In_isKnown_131 : decode b_In_isKnown 131 = .ok (.iconst 1, 1) := by decide +kernel
theorem d_In_isKnown_132 : decode b_In_isKnown 132 = .ok (.goto 4, 3) := by decide +kernel
theorem d_In_isKnown_135 : decode b_In_isKnown 135 = .ok (.iconst 0, 1) := by decide +kernel
theorem d_In_isKnown_136 : decode b_In_isKnown 136 = .ok (.ireturn, 1) := by decide +kernel
theorem d_Ch_isOperandFit_0 : decode b_Ch_isOperandFit 0 = .ok (.iload_n 0, 1) := by decide +kernel
theorem d_Ch_isOperandFit_1 : decode b_Ch_isOperandFit 1 = .ok (.invokestatic 58, 3) := by decide +kernel
theorem d_Ch_isOperandFit_4 : decode b_Ch_isOperandFit 4 = .ok (.ifCond .ne 10, 3) := by decide +kernel
theorem d_Ch_isOperandFit_7 : decode b_Ch_isOperandFit 7 = .ok (.iload_n 0, 1) := by decide +kernel
theorem d_Ch_isOperandFit_8 : decode b_Ch_isOperandFit 8 = .ok (.invokestatic 61, 3) := by decide +kernel
theorem d_Ch_isOperandFit_11 : decode b_Ch_isOperandFit 11 = .ok (.ifCond .eq 17, 3) := by decide +kernel
theorem d_Ch_isOperandFit_14 : decode b_Ch_isOperandFit 14 = .ok (.lload_n 1, 1) := by decide +kernel
theorem d_Ch_isOperandFit_15 : decode b_Ch_isOperandFit 15 = .ok (.ldc2_w 66, 3) := by decide +kernel
theorem d_Ch_isOperandFit_18 : decode b_Ch_isOperandFit 18 = .ok (.lcmp, 1) := by decide +kernel
theorem d_Ch_isOperandFit_19 : decode b_Ch_isOperandFit 19 = .ok (.ifCond .ge 7, 3) := by decide +kernel
theorem d_Ch_isOperandFit_22 : decode b_Ch_isOperandFit 22 = .ok (.iconst 1, 1) := by decide +kernel
theorem d_Ch_isOperandFit_23 : decode b_Ch_isOperandFit 23 = .ok (.goto 4, 3) := by decide +kernel
theorem d_Ch_isOperandFit_26 : decode b_Ch_isOperandFit 26 = .ok (.iconst 0, 1) := by decide +kernel
theorem d_Ch_isOperandFit_27 : decode b_Ch_isOperandFit 27 = .ok (.ireturn, 1) := by decide +kernel
theorem d_Ch_isOperandFit_28 : decode b_Ch_isOperandFit 28 = .ok (.iload_n 0, 1) := by decide +kernel
theorem d_Ch_isOperandFit_29 : decode b_Ch_isOperandFit 29 = .ok (.lookupswitch 93 #[(32, 43), (52, 67), (100, 79), (116, 79)], 43) := by decide +kernel
theorem d_Ch_isOperandFit_72 : decode b_Ch_isOperandFit 72 = .ok (.lload_n 1, 1) := by decide +kernel
theorem d_Ch_isOperandFit_73 : decode b_Ch_isOperandFit 73 = .ok (.ldc2_w 68, 3) := by decide +kernel
theorem d_Ch_isOperandFit_76 : decode b_Ch_isOperandFit 76 = .ok (.lrem, 1) := by decide +kernel
theorem d_Ch_isOperandFit_77 : decode b_Ch_isOperandFit 77 = .ok (.lconst 0, 1) := by decide +kernel
theorem d_Ch_isOperandFit_78 : decode b_Ch_isOperandFit 78 = .ok (.lcmp, 1) := by decide +kernel
theorem d_Ch_isOperandFit_79 : decode b_Ch_isOperandFit 79 = .ok (.ifCond .ne 15, 3) := by decide +kernel
theorem d_Ch_isOperandFit_82 : decode b_Ch_isOperandFit 82 = .ok (.lload_n 1, 1) := by decide +kernel
theorem d_Ch_isOperandFit_83 : decode b_Ch_isOperandFit 83 = .ok (.ldc2_w 72, 3) := by decide +kernel
theorem d_Ch_isOperandFit_86 : decode b_Ch_isOperandFit 86 = .ok (.lcmp, 1) := by decide +kernel
theorem d_Ch_isOperandFit_87 : decode b_Ch_isOperandFit 87 = .ok (.ifCond .ge 7, 3) := by decide +kernel
theorem d_Ch_isOperandFit_90 : decode b_Ch_isOperandFit 90 = .ok (.iconst 1, 1) := by decide +kernel
theorem d_Ch_isOperandFit_91 : decode b_Ch_isOperandFit 91 = .ok (.goto 4, 3) := by decide +kernel
theorem d_Ch_isOperandFit_94 : decode b_Ch_isOperandFit 94 = .ok (.iconst 0, 1) := by decide +kernel
theorem d_Ch_isOperandFit_95 : decode b_Ch_isOperandFit 95 = .ok (.ireturn, 1) := by decide +kernel
theorem d_Ch_isOperandFit_96 : decode b_Ch_isOperandFit 96 = .ok (.lload_n 1, 1) := by decide +kernel
theorem d_Ch_isOperandFit_97 : decode b_Ch_isOperandFit 97 = .ok (.lconst 0, 1) := by decide +kernel
theorem d_Ch_isOperandFit_98 : decode b_Ch_isOperandFit 98 = .ok (.lcmp, 1) := by decide +kernel
theorem d_Ch_isOperandFit_99 : decode b_Ch_isOperandFit 99 = .ok (.ifCond .eq 7, 3) := by decide +kernel
theorem d_Ch_isOperandFit_102 : decode b_Ch_isOperandFit 102 = .ok (.iconst 1, 1) := by decide +kernel
theorem d_Ch_isOperandFit_103 : decode b_Ch_isOperandFit 103 = .ok (.goto 4, 3) := by decide +kernel
theorem d_Ch_isOperandFit_106 : decode b_Ch_isOperandFit 106 = .ok (.iconst 0, 1) := by decide +kernel
theorem d_Ch_isOperandFit_107 : decode b_Ch_isOperandFit 107 = .ok (.ireturn, 1) := by decide +kernel
theorem d_Ch_isOperandFit_108 : decode b_Ch_isOperandFit 108 = .ok (.lload_n 1, 1) := by decide +kernel
theorem d_Ch_isOperandFit_109 : decode b_Ch_isOperandFit 109 = .ok (.ldc2_w 74, 3) := by decide +kernel
theorem d_Ch_isOperandFit_112 : decode b_Ch_isOperandFit 112 = .ok (.lcmp, 1) := by decide +kernel
theorem d_Ch_isOperandFit_113 : decode b_Ch_isOperandFit 113 = .ok (.ifCond .ge 7, 3) := by decide +kernel
theorem d_Ch_isOperandFit_116 : decode b_Ch_isOperandFit 116 = .ok (.iconst 1, 1) := by decide +kernel
theorem d_Ch_isOperandFit_117 : decode b_Ch_isOperandFit 117 = .ok (.goto 4, 3) := by decide +kernel
theorem d_Ch_isOperandFit_120 : decode b_Ch_isOperandFit 120 = .ok (.iconst 0, 1) := by decide +kernel
theorem d_Ch_isOperandFit_121 : decode b_Ch_isOperandFit 121 = .ok (.ireturn, 1) := by decide +kernel
theorem d_Ch_isOperandFit_122 : decode b_Ch_isOperandFit 122 = .ok (.iconst 1, 1) := by decide +kernel
theorem d_Ch_isOperandFit_123 : decode b_Ch_isOperandFit 123 = .ok (.ireturn, 1) := by decide +kernel
theorem d_Ch_longestSkip_0 : decode b_Ch_longestSkip 0 = .ok (.iload_n 0, 1) := by decide +kernel
theorem d_Ch_longestSkip_1 : decode b_Ch_longestSkip 1 = .ok (.iconst 5, 1) := by decide +kernel
theorem d_Ch_longestSkip_2 : decode b_Ch_longestSkip 2 = .ok (.if_icmp .ne 10, 3) := by decide +kernel
theorem d_Ch_longestSkip_5 : decode b_Ch_longestSkip 5 = .ok (.lconst 1, 1) := by decide +kernel
theorem d_Ch_longestSkip_6 : decode b_Ch_longestSkip 6 = .ok (.lload_n 1, 1) := by decide +kernel
theorem d_Ch_longestSkip_7 : decode b_Ch_longestSkip 7 = .ok (.invokestatic 46, 3) := by decide +kernel
theorem d_Ch_longestSkip_10 : decode b_Ch_longestSkip 10 = .ok (.ladd, 1) := by decide +kernel
theorem d_Ch_longestSkip_11 : decode b_Ch_longestSkip 11 = .ok (.lreturn, 1) := by decide +kernel
theorem d_Ch_longestSkip_12 : decode b_Ch_longestSkip 12 = .ok (.iload_n 0, 1) := by decide +kernel
theorem d_Ch_longestSkip_13 : decode b_Ch_longestSkip 13 = .ok (.invokestatic 76, 3) := by decide +kernel
theorem d_Ch_longestSkip_16 : decode b_Ch_longestSkip 16 = .ok (.ifCond .ne 5, 3) := by decide +kernel
theorem d_Ch_longestSkip_19 : decode b_Ch_longestSkip 19 = .ok (.lconst 0, 1) := by decide +kernel
theorem d_Ch_longestSkip_20 : decode b_Ch_longestSkip 20 = .ok (.lreturn, 1) := by decide +kernel
theorem d_Ch_longestSkip_21 : decode b_Ch_longestSkip 21 = .ok (.lload_n 1, 1) := by decide +kernel
theorem d_Ch_longestSkip_22 : decode b_Ch_longestSkip 22 = .ok (.invokestatic 79, 3) := by decide +kernel
theorem d_Ch_longestSkip_25 : decode b_Ch_longestSkip 25 = .ok (.istore_n 3, 1) := by decide +kernel
theorem d_Ch_longestSkip_26 : decode b_Ch_longestSkip 26 = .ok (.lload_n 1, 1) := by decide +kernel
theorem d_Ch_longestSkip_27 : decode b_Ch_longestSkip 27 = .ok (.invokestatic 82, 3) := by decide +kernel
theorem d_Ch_longestSkip_30 : decode b_Ch_longestSkip 30 = .ok (.istore 4, 2) := by decide +kernel
theorem d_Ch_longestSkip_32 : decode b_Ch_longestSkip 32 = .ok (.iconst 1, 1) := by decide +kernel
theorem d_Ch_longestSkip_33 : decode b_Ch_longestSkip 33 = .ok (.iload_n 3, 1) := by decide +kernel
theorem d_Ch_longestSkip_34 : decode b_Ch_longestSkip 34 = .ok (.iload 4, 2) := by decide +kernel
theorem d_Ch_longestSkip_36 : decode b_Ch_longestSkip 36 = .ok (.invokestatic 85, 3) := by decide +kernel
theorem d_Ch_longestSkip_39 : decode b_Ch_longestSkip 39 = .ok (.iadd, 1) := by decide +kernel
theorem d_Ch_longestSkip_40 : decode b_Ch_longestSkip 40 = .ok (.i2l, 1) := by decide +kernel
theorem d_Ch_longestSkip_41 : decode b_Ch_longestSkip 41 = .ok (.lreturn, 1) := by decide +kernel
def m_F_unsigned (v : Int32) : Int64 := v.toInt64 &&& (4294967295 : Int64)
set_option maxHeartbeats 4000000 in
set_option maxRecDepth 100000 in
theorem c_F_unsigned (l : Launch) (v : Int32) : Met l y_F_unsigned (mW y_F_unsigned b_F_unsigned 1 (some .long)) { frames := 0, cells := 0, slots := 0, locals := 0 } (va_Pc [.int v] (fun _ => True)) (vp_Sl (fun r => r = m_F_unsigned v)) 0 0 (fun _ => False) := by
  refine Met.ofW (cc := b_F_unsigned) (maxL := 1) (ret := (some .long)) (by decide) rfl ?_
  intro p e s m args below meth c s₁ B hml hv
  obtain ⟨rfl, -⟩ := hv
  have hx := B.exec
  have hb := B.bytes
  have hr := B.returns
  have hlocks := B.notSynchronized
  have hts := fun (w : Cond) (h : w ∈ lw_g) => atoms_spec (ws := mW y_F_unsigned b_F_unsigned 1 (some .long)) B.pre w (List.mem_cons_of_mem _ h)
  have hown : s.vm.findClass R_F = some m.cls := findClass_of_methodNamed B.named
  have hl := lv_entry ([.int v]) (n := 1) (Nat.le_of_ble_eq_true rfl)
  rw [lg_entry_eq]
  generalize (lg_sl ([.int v]) ++ List.replicate (1 - (lg_sl ([.int v])).length) Slot.unset).toArray = ls at hl ⊢
  have hl : lv_has ls 1 [(0, .int v)] := hl
  refine lv_iload_n hx hb d_F_unsigned_0 rfl (lv_at hl 0 rfl) ?_
  refine lv_i2l hx hb d_F_unsigned_1 rfl ?_
  refine lv_ldc2 (v := 4294967295) hx hb hown (hts _ wd_303) d_F_unsigned_2 ?_
  refine lv_land hx hb d_F_unsigned_5 ?_
  exact W.lret hx hb hr (fun t ht hW => ⟨_, rfl, (by rw [m_F_unsigned]), ht⟩) (fun _ h => by cases h) d_F_unsigned_6
def m_Ca_hasArgument (i : Int32) : Int32 := if i < (0 : Int32) then (0 : Int32) else if (6 : Int32) ≤ i then (0 : Int32) else (1 : Int32)
set_option maxHeartbeats 4000000 in
set_option maxRecDepth 100000 in
theorem c_Ca_hasArgument (l : Launch) (i : Int32) : Met l y_Ca_hasArgument (mW y_Ca_hasArgument b_Ca_hasArgument 1 (some .boolean)) { frames := 0, cells := 0, slots := 0, locals := 0 } (va_Pc [.int i] (fun _ => True)) (vp_Si (fun r => r = m_Ca_hasArgument i)) 0 0 (fun _ => False) := by
  refine Met.ofW (cc := b_Ca_hasArgument) (maxL := 1) (ret := (some .boolean)) (by decide) rfl ?_
  intro p e s m args below meth c s₁ B hml hv
  obtain ⟨rfl, -⟩ := hv
  have hx := B.exec
  have hb := B.bytes
  have hr := B.returns
  have hlocks := B.notSynchronized
  have hts := fun (w : Cond) (h : w ∈ lw_g) => atoms_spec (ws := mW y_Ca_hasArgument b_Ca_hasArgument 1 (some .boolean)) B.pre w (List.mem_cons_of_mem _ h)
  have hown : s.vm.findClass R_Ca = some m.cls := findClass_of_methodNamed B.named
  have hl := lv_entry ([.int i]) (n := 1) (Nat.le_of_ble_eq_true rfl)
  rw [lg_entry_eq]
  generalize (lg_sl ([.int i]) ++ List.replicate (1 - (lg_sl ([.int i])).length) Slot.unset).toArray = ls at hl ⊢
  have hl : lv_has ls 1 [(0, .int i)] := hl
  refine lv_iconst (v := 0) hx hb d_Ca_hasArgument_0 (by decide) ?_
  refine lv_iload_n hx hb d_Ca_hasArgument_1 rfl (lv_at hl 0 rfl) ?_
  refine lv_icmp_gt (tgt := 15) hx hb d_Ca_hasArgument_2 (by decide) (fun h1 => ?_) (fun h1 => ?_)
  · refine lv_iconst (v := 0) hx hb d_Ca_hasArgument_15 (by decide) ?_
    exact W.zret hx hb hr rfl (fun t ht hW => ⟨_, rfl, (by rw [m_Ca_hasArgument, if_pos h1]), ht⟩) (fun _ h => by cases h) d_Ca_hasArgument_16
  refine lv_iload_n hx hb d_Ca_hasArgument_5 rfl (lv_at hl 0 rfl) ?_
  refine lv_bipush (v := 6) hx hb d_Ca_hasArgument_6 (by decide) ?_
  refine lv_icmp_ge (tgt := 15) hx hb d_Ca_hasArgument_8 (by decide) (fun h2 => ?_) (fun h2 => ?_)
  · refine lv_iconst (v := 0) hx hb d_Ca_hasArgument_15 (by decide) ?_
    exact W.zret hx hb hr rfl (fun t ht hW => ⟨_, rfl, (by rw [m_Ca_hasArgument, if_neg h1, if_pos h2]), ht⟩) (fun _ h => by cases h) d_Ca_hasArgument_16
  refine lv_iconst (v := 1) hx hb d_Ca_hasArgument_11 (by decide) ?_
  refine lv_goto (tgt := 16) hx hb d_Ca_hasArgument_12 (by decide) ?_
  exact W.zret hx hb hr rfl (fun t ht hW => ⟨_, rfl, (by rw [m_Ca_hasArgument, if_neg h1, if_neg h2]), ht⟩) (fun _ h => by cases h) d_Ca_hasArgument_16
def m_Ac_isPossible (kd : Int32) (dt : Int32) : Int32 := if kd < (0 : Int32) then (0 : Int32) else if (6 : Int32) < kd then (0 : Int32) else if dt < (0 : Int32) then (0 : Int32) else if (65535 : Int32) < dt then (0 : Int32) else (1 : Int32)
set_option maxHeartbeats 4000000 in
set_option maxRecDepth 100000 in
theorem c_Ac_isPossible (l : Launch) (kd : Int32) (dt : Int32) : Met l y_Ac_isPossible (mW y_Ac_isPossible b_Ac_isPossible 2 (some .boolean)) { frames := 0, cells := 0, slots := 0, locals := 0 } (va_Pc [.int kd, .int dt] (fun _ => True)) (vp_Si (fun r => r = m_Ac_isPossible kd dt)) 0 0 (fun _ => False) := by
  refine Met.ofW (cc := b_Ac_isPossible) (maxL := 2) (ret := (some .boolean)) (by decide) rfl ?_
  intro p e s m args below meth c s₁ B hml hv
  obtain ⟨rfl, -⟩ := hv
  have hx := B.exec
  have hb := B.bytes
  have hr := B.returns
  have hlocks := B.notSynchronized
  have hts := fun (w : Cond) (h : w ∈ lw_g) => atoms_spec (ws := mW y_Ac_isPossible b_Ac_isPossible 2 (some .boolean)) B.pre w (List.mem_cons_of_mem _ h)
  have hown : s.vm.findClass R_Ac = some m.cls := findClass_of_methodNamed B.named
  have hl := lv_entry ([.int kd, .int dt]) (n := 2) (Nat.le_of_ble_eq_true rfl)
  rw [lg_entry_eq]
  generalize (lg_sl ([.int kd, .int dt]) ++ List.replicate (2 - (lg_sl ([.int kd, .int dt])).length) Slot.unset).toArray = ls at hl ⊢
  have hl : lv_has ls 2 [(0, .int kd), (1, .int dt)] := hl
  refine lv_iconst (v := 0) hx hb d_Ac_isPossible_0 (by decide) ?_
  refine lv_iload_n hx hb d_Ac_isPossible_1 rfl (lv_at hl 0 rfl) ?_
  refine lv_icmp_gt (tgt := 26) hx hb d_Ac_isPossible_2 (by decide) (fun h1 => ?_) (fun h1 => ?_)
  · refine lv_iconst (v := 0) hx hb d_Ac_isPossible_26 (by decide) ?_
    exact W.zret hx hb hr rfl (fun t ht hW => ⟨_, rfl, (by rw [m_Ac_isPossible, if_pos h1]), ht⟩) (fun _ h => by cases h) d_Ac_isPossible_27
  refine lv_iload_n hx hb d_Ac_isPossible_5 rfl (lv_at hl 0 rfl) ?_
  refine lv_bipush (v := 6) hx hb d_Ac_isPossible_6 (by decide) ?_
  refine lv_icmp_gt (tgt := 26) hx hb d_Ac_isPossible_8 (by decide) (fun h2 => ?_) (fun h2 => ?_)
  · refine lv_iconst (v := 0) hx hb d_Ac_isPossible_26 (by decide) ?_
    exact W.zret hx hb hr rfl (fun t ht hW => ⟨_, rfl, (by rw [m_Ac_isPossible, if_neg h1, if_pos h2]), ht⟩) (fun _ h => by cases h) d_Ac_isPossible_27
  refine lv_iconst (v := 0) hx hb d_Ac_isPossible_11 (by decide) ?_
  refine lv_iload_n hx hb d_Ac_isPossible_12 rfl (lv_at hl 1 rfl) ?_
  refine lv_icmp_gt (tgt := 26) hx hb d_Ac_isPossible_13 (by decide) (fun h3 => ?_) (fun h3 => ?_)
  · refine lv_iconst (v := 0) hx hb d_Ac_isPossible_26 (by decide) ?_
    exact W.zret hx hb hr rfl (fun t ht hW => ⟨_, rfl, (by rw [m_Ac_isPossible, if_neg h1, if_neg h2, if_pos h3]), ht⟩) (fun _ h => by cases h) d_Ac_isPossible_27
  refine lv_iload_n hx hb d_Ac_isPossible_16 rfl (lv_at hl 1 rfl) ?_
  refine lv_ldc (v := 65535) hx hb hown (hts _ wd_247) d_Ac_isPossible_17 ?_
  refine lv_icmp_gt (tgt := 26) hx hb d_Ac_isPossible_19 (by decide) (fun h4 => ?_) (fun h4 => ?_)
  · refine lv_iconst (v := 0) hx hb d_Ac_isPossible_26 (by decide) ?_
    exact W.zret hx hb hr rfl (fun t ht hW => ⟨_, rfl, (by rw [m_Ac_isPossible, if_neg h1, if_neg h2, if_neg h3, if_pos h4]), ht⟩) (fun _ h => by cases h) d_Ac_isPossible_27
  refine lv_iconst (v := 1) hx hb d_Ac_isPossible_22 (by decide) ?_
  refine lv_goto (tgt := 27) hx hb d_Ac_isPossible_23 (by decide) ?_
  exact W.zret hx hb hr rfl (fun t ht hW => ⟨_, rfl, (by rw [m_Ac_isPossible, if_neg h1, if_neg h2, if_neg h3, if_neg h4]), ht⟩) (fun _ h => by cases h) d_Ac_isPossible_27
def m_Co_isOperator (op : Int32) : Int32 := if op < (0 : Int32) then (0 : Int32) else if (7 : Int32) ≤ op then (0 : Int32) else (1 : Int32)
set_option maxHeartbeats 4000000 in
set_option maxRecDepth 100000 in
theorem c_Co_isOperator (l : Launch) (op : Int32) : Met l y_Co_isOperator (mW y_Co_isOperator b_Co_isOperator 1 (some .boolean)) { frames := 0, cells := 0, slots := 0, locals := 0 } (va_Pc [.int op] (fun _ => True)) (vp_Si (fun r => r = m_Co_isOperator op)) 0 0 (fun _ => False) := by
  refine Met.ofW (cc := b_Co_isOperator) (maxL := 1) (ret := (some .boolean)) (by decide) rfl ?_
  intro p e s m args below meth c s₁ B hml hv
  obtain ⟨rfl, -⟩ := hv
  have hx := B.exec
  have hb := B.bytes
  have hr := B.returns
  have hlocks := B.notSynchronized
  have hts := fun (w : Cond) (h : w ∈ lw_g) => atoms_spec (ws := mW y_Co_isOperator b_Co_isOperator 1 (some .boolean)) B.pre w (List.mem_cons_of_mem _ h)
  have hown : s.vm.findClass R_Co = some m.cls := findClass_of_methodNamed B.named
  have hl := lv_entry ([.int op]) (n := 1) (Nat.le_of_ble_eq_true rfl)
  rw [lg_entry_eq]
  generalize (lg_sl ([.int op]) ++ List.replicate (1 - (lg_sl ([.int op])).length) Slot.unset).toArray = ls at hl ⊢
  have hl : lv_has ls 1 [(0, .int op)] := hl
  refine lv_iconst (v := 0) hx hb d_Co_isOperator_0 (by decide) ?_
  refine lv_iload_n hx hb d_Co_isOperator_1 rfl (lv_at hl 0 rfl) ?_
  refine lv_icmp_gt (tgt := 15) hx hb d_Co_isOperator_2 (by decide) (fun h1 => ?_) (fun h1 => ?_)
  · refine lv_iconst (v := 0) hx hb d_Co_isOperator_15 (by decide) ?_
    exact W.zret hx hb hr rfl (fun t ht hW => ⟨_, rfl, (by rw [m_Co_isOperator, if_pos h1]), ht⟩) (fun _ h => by cases h) d_Co_isOperator_16
  refine lv_iload_n hx hb d_Co_isOperator_5 rfl (lv_at hl 0 rfl) ?_
  refine lv_bipush (v := 7) hx hb d_Co_isOperator_6 (by decide) ?_
  refine lv_icmp_ge (tgt := 15) hx hb d_Co_isOperator_8 (by decide) (fun h2 => ?_) (fun h2 => ?_)
  · refine lv_iconst (v := 0) hx hb d_Co_isOperator_15 (by decide) ?_
    exact W.zret hx hb hr rfl (fun t ht hW => ⟨_, rfl, (by rw [m_Co_isOperator, if_neg h1, if_pos h2]), ht⟩) (fun _ h => by cases h) d_Co_isOperator_16
  refine lv_iconst (v := 1) hx hb d_Co_isOperator_11 (by decide) ?_
  refine lv_goto (tgt := 16) hx hb d_Co_isOperator_12 (by decide) ?_
  exact W.zret hx hb hr rfl (fun t ht hW => ⟨_, rfl, (by rw [m_Co_isOperator, if_neg h1, if_neg h2]), ht⟩) (fun _ h => by cases h) d_Co_isOperator_16
def m_Co_isBelow (u : Int64) (v : Int64) : Int32 := if (0 : Int32) ≤ (lg_cmp (u ^^^ (-9223372036854775808 : Int64)) (v ^^^ (-9223372036854775808 : Int64))) then (0 : Int32) else (1 : Int32)
set_option maxHeartbeats 4000000 in
set_option maxRecDepth 100000 in
theorem c_Co_isBelow (l : Launch) (u : Int64) (v : Int64) : Met l y_Co_isBelow (mW y_Co_isBelow b_Co_isBelow 6 (some .boolean)) { frames := 0, cells := 0, slots := 0, locals := 0 } (va_Pc [.long u, .long v] (fun _ => True)) (vp_Si (fun r => r = m_Co_isBelow u v)) 0 0 (fun _ => False) := by
  refine Met.ofW (cc := b_Co_isBelow) (maxL := 6) (ret := (some .boolean)) (by decide) rfl ?_
  intro p e s m args below meth c s₁ B hml hv
  obtain ⟨rfl, -⟩ := hv
  have hx := B.exec
  have hb := B.bytes
  have hr := B.returns
  have hlocks := B.notSynchronized
  have hts := fun (w : Cond) (h : w ∈ lw_g) => atoms_spec (ws := mW y_Co_isBelow b_Co_isBelow 6 (some .boolean)) B.pre w (List.mem_cons_of_mem _ h)
  have hown : s.vm.findClass R_Co = some m.cls := findClass_of_methodNamed B.named
  have hl := lv_entry ([.long u, .long v]) (n := 6) (Nat.le_of_ble_eq_true rfl)
  rw [lg_entry_eq]
  generalize (lg_sl ([.long u, .long v]) ++ List.replicate (6 - (lg_sl ([.long u, .long v])).length) Slot.unset).toArray = ls at hl ⊢
  have hl : lv_has ls 6 [(0, .long u), (2, .long v)] := hl
  refine lv_ldc2 (v := -9223372036854775808) hx hb hown (hts _ wd_321) d_Co_isBelow_0 ?_
  refine lv_lstore hx hb d_Co_isBelow_3 hl (by decide) rfl (fun ls hl => ?_)
  have hl : lv_has ls 6 [(4, .long (-9223372036854775808 : Int64)), (0, .long u), (2, .long v)] := hl
  refine lv_lload_n hx hb d_Co_isBelow_5 rfl (lv_at hl 1 rfl) ?_
  refine lv_lload hx hb d_Co_isBelow_6 (lv_at hl 0 rfl) ?_
  refine lv_lxor hx hb d_Co_isBelow_8 ?_
  refine lv_lload_n hx hb d_Co_isBelow_9 rfl (lv_at hl 2 rfl) ?_
  refine lv_lload hx hb d_Co_isBelow_10 (lv_at hl 0 rfl) ?_
  refine lv_lxor hx hb d_Co_isBelow_12 ?_
  refine W.lcmp hx hb d_Co_isBelow_13 ?_
  refine lv_if_ge (tgt := 21) hx hb d_Co_isBelow_14 (by decide) (fun h1 => ?_) (fun h1 => ?_)
  · refine lv_iconst (v := 0) hx hb d_Co_isBelow_21 (by decide) ?_
    exact W.zret hx hb hr rfl (fun t ht hW => ⟨_, rfl, (by rw [m_Co_isBelow, if_pos h1]), ht⟩) (fun _ h => by cases h) d_Co_isBelow_22
  refine lv_iconst (v := 1) hx hb d_Co_isBelow_17 (by decide) ?_
  refine lv_goto (tgt := 22) hx hb d_Co_isBelow_18 (by decide) ?_
  exact W.zret hx hb hr rfl (fun t ht hW => ⟨_, rfl, (by rw [m_Co_isBelow, if_neg h1]), ht⟩) (fun _ h => by cases h) d_Co_isBelow_22
def m_In_codeOf (z : Int64) : Int32 := (z &&& (65535 : Int64)).toInt32
set_option maxHeartbeats 4000000 in
set_option maxRecDepth 100000 in
theorem c_In_codeOf (l : Launch) (z : Int64) : Met l y_In_codeOf (mW y_In_codeOf b_In_codeOf 2 (some .int)) { frames := 0, cells := 0, slots := 0, locals := 0 } (va_Pc [.long z] (fun _ => True)) (vp_Si (fun r => r = m_In_codeOf z)) 0 0 (fun _ => False) := by
  refine Met.ofW (cc := b_In_codeOf) (maxL := 2) (ret := (some .int)) (by decide) rfl ?_
  intro p e s m args below meth c s₁ B hml hv
  obtain ⟨rfl, -⟩ := hv
  have hx := B.exec
  have hb := B.bytes
  have hr := B.returns
  have hlocks := B.notSynchronized
  have hts := fun (w : Cond) (h : w ∈ lw_g) => atoms_spec (ws := mW y_In_codeOf b_In_codeOf 2 (some .int)) B.pre w (List.mem_cons_of_mem _ h)
  have hown : s.vm.findClass R_In = some m.cls := findClass_of_methodNamed B.named
  have hl := lv_entry ([.long z]) (n := 2) (Nat.le_of_ble_eq_true rfl)
  rw [lg_entry_eq]
  generalize (lg_sl ([.long z]) ++ List.replicate (2 - (lg_sl ([.long z])).length) Slot.unset).toArray = ls at hl ⊢
  have hl : lv_has ls 2 [(0, .long z)] := hl
  refine lv_lload_n hx hb d_In_codeOf_0 rfl (lv_at hl 0 rfl) ?_
  refine lv_ldc2 (v := 65535) hx hb hown (hts _ wd_366) d_In_codeOf_1 ?_
  refine lv_land hx hb d_In_codeOf_4 ?_
  refine lv_l2i hx hb d_In_codeOf_5 rfl ?_
  exact W.iret hx hb hr (fun t ht hW => ⟨_, rfl, (by rw [m_In_codeOf]), ht⟩) (fun _ h => by cases h) d_In_codeOf_6
def m_In_distanceIfTrue (z : Int64) : Int32 := (((z.toUInt64 >>> ((16 : Int32).toInt64.toUInt64 &&& Int64.toUInt64 63)).toInt64) &&& (255 : Int64)).toInt32
set_option maxHeartbeats 4000000 in
set_option maxRecDepth 100000 in
theorem c_In_distanceIfTrue (l : Launch) (z : Int64) : Met l y_In_distanceIfTrue (mW y_In_distanceIfTrue b_In_distanceIfTrue 2 (some .int)) { frames := 0, cells := 0, slots := 0, locals := 0 } (va_Pc [.long z] (fun _ => True)) (vp_Si (fun r => r = m_In_distanceIfTrue z)) 0 0 (fun _ => False) := by
  refine Met.ofW (cc := b_In_distanceIfTrue) (maxL := 2) (ret := (some .int)) (by decide) rfl ?_
  intro p e s m args below meth c s₁ B hml hv
  obtain ⟨rfl, -⟩ := hv
  have hx := B.exec
  have hb := B.bytes
  have hr := B.returns
  have hlocks := B.notSynchronized
  have hts := fun (w : Cond) (h : w ∈ lw_g) => atoms_spec (ws := mW y_In_distanceIfTrue b_In_distanceIfTrue 2 (some .int)) B.pre w (List.mem_cons_of_mem _ h)
  have hown : s.vm.findClass R_In = some m.cls := findClass_of_methodNamed B.named
  have hl := lv_entry ([.long z]) (n := 2) (Nat.le_of_ble_eq_true rfl)
  rw [lg_entry_eq]
  generalize (lg_sl ([.long z]) ++ List.replicate (2 - (lg_sl ([.long z])).length) Slot.unset).toArray = ls at hl ⊢
  have hl : lv_has ls 2 [(0, .long z)] := hl
  refine lv_lload_n hx hb d_In_distanceIfTrue_0 rfl (lv_at hl 0 rfl) ?_
  refine lv_bipush (v := 16) hx hb d_In_distanceIfTrue_1 (by decide) ?_
  refine lv_lushr hx hb d_In_distanceIfTrue_3 rfl ?_
  refine lv_ldc2 (v := 255) hx hb hown (hts _ wd_402) d_In_distanceIfTrue_4 ?_
  refine lv_land hx hb d_In_distanceIfTrue_7 ?_
  refine lv_l2i hx hb d_In_distanceIfTrue_8 rfl ?_
  exact W.iret hx hb hr (fun t ht hW => ⟨_, rfl, (by rw [m_In_distanceIfTrue]), ht⟩) (fun _ h => by cases h) d_In_distanceIfTrue_9
def m_In_distanceIfFalse (z : Int64) : Int32 := (((z.toUInt64 >>> ((24 : Int32).toInt64.toUInt64 &&& Int64.toUInt64 63)).toInt64) &&& (255 : Int64)).toInt32
set_option maxHeartbeats 4000000 in
set_option maxRecDepth 100000 in
theorem c_In_distanceIfFalse (l : Launch) (z : Int64) : Met l y_In_distanceIfFalse (mW y_In_distanceIfFalse b_In_distanceIfFalse 2 (some .int)) { frames := 0, cells := 0, slots := 0, locals := 0 } (va_Pc [.long z] (fun _ => True)) (vp_Si (fun r => r = m_In_distanceIfFalse z)) 0 0 (fun _ => False) := by
  refine Met.ofW (cc := b_In_distanceIfFalse) (maxL := 2) (ret := (some .int)) (by decide) rfl ?_
  intro p e s m args below meth c s₁ B hml hv
  obtain ⟨rfl, -⟩ := hv
  have hx := B.exec
  have hb := B.bytes
  have hr := B.returns
  have hlocks := B.notSynchronized
  have hts := fun (w : Cond) (h : w ∈ lw_g) => atoms_spec (ws := mW y_In_distanceIfFalse b_In_distanceIfFalse 2 (some .int)) B.pre w (List.mem_cons_of_mem _ h)
  have hown : s.vm.findClass R_In = some m.cls := findClass_of_methodNamed B.named
  have hl := lv_entry ([.long z]) (n := 2) (Nat.le_of_ble_eq_true rfl)
  rw [lg_entry_eq]
  generalize (lg_sl ([.long z]) ++ List.replicate (2 - (lg_sl ([.long z])).length) Slot.unset).toArray = ls at hl ⊢
  have hl : lv_has ls 2 [(0, .long z)] := hl
  refine lv_lload_n hx hb d_In_distanceIfFalse_0 rfl (lv_at hl 0 rfl) ?_
  refine lv_bipush (v := 24) hx hb d_In_distanceIfFalse_1 (by decide) ?_
  refine lv_lushr hx hb d_In_distanceIfFalse_3 rfl ?_
  refine lv_ldc2 (v := 255) hx hb hown (hts _ wd_402) d_In_distanceIfFalse_4 ?_
  refine lv_land hx hb d_In_distanceIfFalse_7 ?_
  refine lv_l2i hx hb d_In_distanceIfFalse_8 rfl ?_
  exact W.iret hx hb hr (fun t ht hW => ⟨_, rfl, (by rw [m_In_distanceIfFalse]), ht⟩) (fun _ h => by cases h) d_In_distanceIfFalse_9
def m_In_operandOf (z : Int64) : Int64 := (z.toUInt64 >>> ((32 : Int32).toInt64.toUInt64 &&& Int64.toUInt64 63)).toInt64
set_option maxHeartbeats 4000000 in
set_option maxRecDepth 100000 in
theorem c_In_operandOf (l : Launch) (z : Int64) : Met l y_In_operandOf (mW y_In_operandOf b_In_operandOf 2 (some .long)) { frames := 0, cells := 0, slots := 0, locals := 0 } (va_Pc [.long z] (fun _ => True)) (vp_Sl (fun r => r = m_In_operandOf z)) 0 0 (fun _ => False) := by
  refine Met.ofW (cc := b_In_operandOf) (maxL := 2) (ret := (some .long)) (by decide) rfl ?_
  intro p e s m args below meth c s₁ B hml hv
  obtain ⟨rfl, -⟩ := hv
  have hx := B.exec
  have hb := B.bytes
  have hr := B.returns
  have hlocks := B.notSynchronized
  have hts := fun (w : Cond) (h : w ∈ lw_g) => atoms_spec (ws := mW y_In_operandOf b_In_operandOf 2 (some .long)) B.pre w (List.mem_cons_of_mem _ h)
  have hown : s.vm.findClass R_In = some m.cls := findClass_of_methodNamed B.named
  have hl := lv_entry ([.long z]) (n := 2) (Nat.le_of_ble_eq_true rfl)
  rw [lg_entry_eq]
  generalize (lg_sl ([.long z]) ++ List.replicate (2 - (lg_sl ([.long z])).length) Slot.unset).toArray = ls at hl ⊢
  have hl : lv_has ls 2 [(0, .long z)] := hl
  refine lv_lload_n hx hb d_In_operandOf_0 rfl (lv_at hl 0 rfl) ?_
  refine lv_bipush (v := 32) hx hb d_In_operandOf_1 (by decide) ?_
  refine lv_lushr hx hb d_In_operandOf_3 rfl ?_
  exact W.lret hx hb hr (fun t ht hW => ⟨_, rfl, (by rw [m_In_operandOf]), ht⟩) (fun _ h => by cases h) d_In_operandOf_4
def m_In_isArithmetic (cd : Int32) : Int32 := if cd = (4 : Int32) then (1 : Int32) else if cd = (12 : Int32) then (1 : Int32) else if cd = (20 : Int32) then (1 : Int32) else if cd = (28 : Int32) then (1 : Int32) else if cd = (36 : Int32) then (1 : Int32) else if cd = (44 : Int32) then (1 : Int32) else if cd = (52 : Int32) then (1 : Int32) else if cd = (60 : Int32) then (1 : Int32) else if cd = (68 : Int32) then (1 : Int32) else if cd = (76 : Int32) then (1 : Int32) else if cd = (84 : Int32) then (1 : Int32) else if cd = (92 : Int32) then (1 : Int32) else if cd = (100 : Int32) then (1 : Int32) else if cd = (108 : Int32) then (1 : Int32) else if cd = (116 : Int32) then (1 : Int32) else if cd = (124 : Int32) then (1 : Int32) else if cd = (132 : Int32) then (1 : Int32) else if cd = (164 : Int32) then (1 : Int32) else if cd = (172 : Int32) then (1 : Int32) else (0 : Int32)
set_option maxHeartbeats 4000000 in
set_option maxRecDepth 100000 in
theorem c_In_isArithmetic (l : Launch) (cd : Int32) : Met l y_In_isArithmetic (mW y_In_isArithmetic b_In_isArithmetic 1 (some .boolean)) { frames := 0, cells := 0, slots := 0, locals := 0 } (va_Pc [.int cd] (fun _ => True)) (vp_Si (fun r => r = m_In_isArithmetic cd)) 0 0 (fun _ => False) := by
  refine Met.ofW (cc := b_In_isArithmetic) (maxL := 1) (ret := (some .boolean)) (by decide) rfl ?_
  intro p e s m args below meth c s₁ B hml hv
  obtain ⟨rfl, -⟩ := hv
  have hx := B.exec
  have hb := B.bytes
  have hr := B.returns
  have hlocks := B.notSynchronized
  have hts := fun (w : Cond) (h : w ∈ lw_g) => atoms_spec (ws := mW y_In_isArithmetic b_In_isArithmetic 1 (some .boolean)) B.pre w (List.mem_cons_of_mem _ h)
  have hown : s.vm.findClass R_In = some m.cls := findClass_of_methodNamed B.named
  have hl := lv_entry ([.int cd]) (n := 1) (Nat.le_of_ble_eq_true rfl)
  rw [lg_entry_eq]
  generalize (lg_sl ([.int cd]) ++ List.replicate (1 - (lg_sl ([.int cd])).length) Slot.unset).toArray = ls at hl ⊢
  have hl : lv_has ls 1 [(0, .int cd)] := hl
  refine lv_iload_n hx hb d_In_isArithmetic_0 rfl (lv_at hl 0 rfl) ?_
  by_cases h1 : cd = (4 : Int32)
  · refine lv_lookup (tgt := 164) (off := 163) hx hb d_In_isArithmetic_1 (by decide) (by rw [h1] <;> rfl) (by decide) ?_
    refine lv_iconst (v := 1) hx hb d_In_isArithmetic_164 (by decide) ?_
    exact W.zret hx hb hr rfl (fun t ht hW => ⟨_, rfl, (by rw [m_In_isArithmetic, if_pos h1]), ht⟩) (fun _ h => by cases h) d_In_isArithmetic_165
  by_cases h2 : cd = (12 : Int32)
  · refine lv_lookup (tgt := 164) (off := 163) hx hb d_In_isArithmetic_1 (by decide) (by rw [h2] <;> rfl) (by decide) ?_
    refine lv_iconst (v := 1) hx hb d_In_isArithmetic_164 (by decide) ?_
    exact W.zret hx hb hr rfl (fun t ht hW => ⟨_, rfl, (by rw [m_In_isArithmetic, if_neg h1, if_pos h2]), ht⟩) (fun _ h => by cases h) d_In_isArithmetic_165
  by_cases h3 : cd = (20 : Int32)
  · refine lv_lookup (tgt := 164) (off := 163) hx hb d_In_isArithmetic_1 (by decide) (by rw [h3] <;> rfl) (by decide) ?_
    refine lv_iconst (v := 1) hx hb d_In_isArithmetic_164 (by decide) ?_
    exact W.zret hx hb hr rfl (fun t ht hW => ⟨_, rfl, (by rw [m_In_isArithmetic, if_neg h1, if_neg h2, if_pos h3]), ht⟩) (fun _ h => by cases h) d_In_isArithmetic_165
  by_cases h4 : cd = (28 : Int32)
  · refine lv_lookup (tgt := 164) (off := 163) hx hb d_In_isArithmetic_1 (by decide) (by rw [h4] <;> rfl) (by decide) ?_
    refine lv_iconst (v := 1) hx hb d_In_isArithmetic_164 (by decide) ?_
    exact W.zret hx hb hr rfl (fun t ht hW => ⟨_, rfl, (by rw [m_In_isArithmetic, if_neg h1, if_neg h2, if_neg h3, if_pos h4]), ht⟩) (fun _ h => by cases h) d_In_isArithmetic_165
  by_cases h5 : cd = (36 : Int32)
  · refine lv_lookup (tgt := 164) (off := 163) hx hb d_In_isArithmetic_1 (by decide) (by rw [h5] <;> rfl) (by decide) ?_
    refine lv_iconst (v := 1) hx hb d_In_isArithmetic_164 (by decide) ?_
    exact W.zret hx hb hr rfl (fun t ht hW => ⟨_, rfl, (by rw [m_In_isArithmetic, if_neg h1, if_neg h2, if_neg h3, if_neg h4, if_pos h5]), ht⟩) (fun _ h => by cases h) d_In_isArithmetic_165
  by_cases h6 : cd = (44 : Int32)
  · refine lv_lookup (tgt := 164) (off := 163) hx hb d_In_isArithmetic_1 (by decide) (by rw [h6] <;> rfl) (by decide) ?_
    refine lv_iconst (v := 1) hx hb d_In_isArithmetic_164 (by decide) ?_
    exact W.zret hx hb hr rfl (fun t ht hW => ⟨_, rfl, (by rw [m_In_isArithmetic, if_neg h1, if_neg h2, if_neg h3, if_neg h4, if_neg h5, if_pos h6]), ht⟩) (fun _ h => by cases h) d_In_isArithmetic_165
  by_cases h7 : cd = (52 : Int32)
  · refine lv_lookup (tgt := 164) (off := 163) hx hb d_In_isArithmetic_1 (by decide) (by rw [h7] <;> rfl) (by decide) ?_
    refine lv_iconst (v := 1) hx hb d_In_isArithmetic_164 (by decide) ?_
    exact W.zret hx hb hr rfl (fun t ht hW => ⟨_, rfl, (by rw [m_In_isArithmetic, if_neg h1, if_neg h2, if_neg h3, if_neg h4, if_neg h5, if_neg h6, if_pos h7]), ht⟩) (fun _ h => by cases h) d_In_isArithmetic_165
  by_cases h8 : cd = (60 : Int32)
  · refine lv_lookup (tgt := 164) (off := 163) hx hb d_In_isArithmetic_1 (by decide) (by rw [h8] <;> rfl) (by decide) ?_
    refine lv_iconst (v := 1) hx hb d_In_isArithmetic_164 (by decide) ?_
    exact W.zret hx hb hr rfl (fun t ht hW => ⟨_, rfl, (by rw [m_In_isArithmetic, if_neg h1, if_neg h2, if_neg h3, if_neg h4, if_neg h5, if_neg h6, if_neg h7, if_pos h8]), ht⟩) (fun _ h => by cases h) d_In_isArithmetic_165
  by_cases h9 : cd = (68 : Int32)
  · refine lv_lookup (tgt := 164) (off := 163) hx hb d_In_isArithmetic_1 (by decide) (by rw [h9] <;> rfl) (by decide) ?_
    refine lv_iconst (v := 1) hx hb d_In_isArithmetic_164 (by decide) ?_
    exact W.zret hx hb hr rfl (fun t ht hW => ⟨_, rfl, (by rw [m_In_isArithmetic, if_neg h1, if_neg h2, if_neg h3, if_neg h4, if_neg h5, if_neg h6, if_neg h7, if_neg h8, if_pos h9]), ht⟩) (fun _ h => by cases h) d_In_isArithmetic_165
  by_cases h10 : cd = (76 : Int32)
  · refine lv_lookup (tgt := 164) (off := 163) hx hb d_In_isArithmetic_1 (by decide) (by rw [h10] <;> rfl) (by decide) ?_
    refine lv_iconst (v := 1) hx hb d_In_isArithmetic_164 (by decide) ?_
    exact W.zret hx hb hr rfl (fun t ht hW => ⟨_, rfl, (by rw [m_In_isArithmetic, if_neg h1, if_neg h2, if_neg h3, if_neg h4, if_neg h5, if_neg h6, if_neg h7, if_neg h8, if_neg h9, if_pos h10]), ht⟩) (fun _ h => by cases h) d_In_isArithmetic_165
  by_cases h11 : cd = (84 : Int32)
  · refine lv_lookup (tgt := 164) (off := 163) hx hb d_In_isArithmetic_1 (by decide) (by rw [h11] <;> rfl) (by decide) ?_
    refine lv_iconst (v := 1) hx hb d_In_isArithmetic_164 (by decide) ?_
    exact W.zret hx hb hr rfl (fun t ht hW => ⟨_, rfl, (by rw [m_In_isArithmetic, if_neg h1, if_neg h2, if_neg h3, if_neg h4, if_neg h5, if_neg h6, if_neg h7, if_neg h8, if_neg h9, if_neg h10, if_pos h11]), ht⟩) (fun _ h => by cases h) d_In_isArithmetic_165
  by_cases h12 : cd = (92 : Int32)
  · refine lv_lookup (tgt := 164) (off := 163) hx hb d_In_isArithmetic_1 (by decide) (by rw [h12] <;> rfl) (by decide) ?_
    refine lv_iconst (v := 1) hx hb d_In_isArithmetic_164 (by decide) ?_
    exact W.zret hx hb hr rfl (fun t ht hW => ⟨_, rfl, (by rw [m_In_isArithmetic, if_neg h1, if_neg h2, if_neg h3, if_neg h4, if_neg h5, if_neg h6, if_neg h7, if_neg h8, if_neg h9, if_neg h10, if_neg h11, if_pos h12]), ht⟩) (fun _ h => by cases h) d_In_isArithmetic_165
  by_cases h13 : cd = (100 : Int32)
  · refine lv_lookup (tgt := 164) (off := 163) hx hb d_In_isArithmetic_1 (by decide) (by rw [h13] <;> rfl) (by decide) ?_
    refine lv_iconst (v := 1) hx hb d_In_isArithmetic_164 (by decide) ?_
    exact W.zret hx hb hr rfl (fun t ht hW => ⟨_, rfl, (by rw [m_In_isArithmetic, if_neg h1, if_neg h2, if_neg h3, if_neg h4, if_neg h5, if_neg h6, if_neg h7, if_neg h8, if_neg h9, if_neg h10, if_neg h11, if_neg h12, if_pos h13]), ht⟩) (fun _ h => by cases h) d_In_isArithmetic_165
  by_cases h14 : cd = (108 : Int32)
  · refine lv_lookup (tgt := 164) (off := 163) hx hb d_In_isArithmetic_1 (by decide) (by rw [h14] <;> rfl) (by decide) ?_
    refine lv_iconst (v := 1) hx hb d_In_isArithmetic_164 (by decide) ?_
    exact W.zret hx hb hr rfl (fun t ht hW => ⟨_, rfl, (by rw [m_In_isArithmetic, if_neg h1, if_neg h2, if_neg h3, if_neg h4, if_neg h5, if_neg h6, if_neg h7, if_neg h8, if_neg h9, if_neg h10, if_neg h11, if_neg h12, if_neg h13, if_pos h14]), ht⟩) (fun _ h => by cases h) d_In_isArithmetic_165
  by_cases h15 : cd = (116 : Int32)
  · refine lv_lookup (tgt := 164) (off := 163) hx hb d_In_isArithmetic_1 (by decide) (by rw [h15] <;> rfl) (by decide) ?_
    refine lv_iconst (v := 1) hx hb d_In_isArithmetic_164 (by decide) ?_
    exact W.zret hx hb hr rfl (fun t ht hW => ⟨_, rfl, (by rw [m_In_isArithmetic, if_neg h1, if_neg h2, if_neg h3, if_neg h4, if_neg h5, if_neg h6, if_neg h7, if_neg h8, if_neg h9, if_neg h10, if_neg h11, if_neg h12, if_neg h13, if_neg h14, if_pos h15]), ht⟩) (fun _ h => by cases h) d_In_isArithmetic_165
  by_cases h16 : cd = (124 : Int32)
  · refine lv_lookup (tgt := 164) (off := 163) hx hb d_In_isArithmetic_1 (by decide) (by rw [h16] <;> rfl) (by decide) ?_
    refine lv_iconst (v := 1) hx hb d_In_isArithmetic_164 (by decide) ?_
    exact W.zret hx hb hr rfl (fun t ht hW => ⟨_, rfl, (by rw [m_In_isArithmetic, if_neg h1, if_neg h2, if_neg h3, if_neg h4, if_neg h5, if_neg h6, if_neg h7, if_neg h8, if_neg h9, if_neg h10, if_neg h11, if_neg h12, if_neg h13, if_neg h14, if_neg h15, if_pos h16]), ht⟩) (fun _ h => by cases h) d_In_isArithmetic_165
  by_cases h17 : cd = (132 : Int32)
  · refine lv_lookup (tgt := 164) (off := 163) hx hb d_In_isArithmetic_1 (by decide) (by rw [h17] <;> rfl) (by decide) ?_
    refine lv_iconst (v := 1) hx hb d_In_isArithmetic_164 (by decide) ?_
    exact W.zret hx hb hr rfl (fun t ht hW => ⟨_, rfl, (by rw [m_In_isArithmetic, if_neg h1, if_neg h2, if_neg h3, if_neg h4, if_neg h5, if_neg h6, if_neg h7, if_neg h8, if_neg h9, if_neg h10, if_neg h11, if_neg h12, if_neg h13, if_neg h14, if_neg h15, if_neg h16, if_pos h17]), ht⟩) (fun _ h => by cases h) d_In_isArithmetic_165
  by_cases h18 : cd = (164 : Int32)
  · refine lv_lookup (tgt := 164) (off := 163) hx hb d_In_isArithmetic_1 (by decide) (by rw [h18] <;> rfl) (by decide) ?_
    refine lv_iconst (v := 1) hx hb d_In_isArithmetic_164 (by decide) ?_
    exact W.zret hx hb hr rfl (fun t ht hW => ⟨_, rfl, (by rw [m_In_isArithmetic, if_neg h1, if_neg h2, if_neg h3, if_neg h4, if_neg h5, if_neg h6, if_neg h7, if_neg h8, if_neg h9, if_neg h10, if_neg h11, if_neg h12, if_neg h13, if_neg h14, if_neg h15, if_neg h16, if_neg h17, if_pos h18]), ht⟩) (fun _ h => by cases h) d_In_isArithmetic_165
  by_cases h19 : cd = (172 : Int32)
  · refine lv_lookup (tgt := 164) (off := 163) hx hb d_In_isArithmetic_1 (by decide) (by rw [h19] <;> rfl) (by decide) ?_
    refine lv_iconst (v := 1) hx hb d_In_isArithmetic_164 (by decide) ?_
    exact W.zret hx hb hr rfl (fun t ht hW => ⟨_, rfl, (by rw [m_In_isArithmetic, if_neg h1, if_neg h2, if_neg h3, if_neg h4, if_neg h5, if_neg h6, if_neg h7, if_neg h8, if_neg h9, if_neg h10, if_neg h11, if_neg h12, if_neg h13, if_neg h14, if_neg h15, if_neg h16, if_neg h17, if_neg h18, if_pos h19]), ht⟩) (fun _ h => by cases h) d_In_isArithmetic_165
  refine lv_lookup (tgt := 166) (off := 165) hx hb d_In_isArithmetic_1 (by decide) ((lv_osw h1 (by decide)).trans ((lv_osw h2 (by decide)).trans ((lv_osw h3 (by decide)).trans ((lv_osw h4 (by decide)).trans ((lv_osw h5 (by decide)).trans ((lv_osw h6 (by decide)).trans ((lv_osw h7 (by decide)).trans ((lv_osw h8 (by decide)).trans ((lv_osw h9 (by decide)).trans ((lv_osw h10 (by decide)).trans ((lv_osw h11 (by decide)).trans ((lv_osw h12 (by decide)).trans ((lv_osw h13 (by decide)).trans ((lv_osw h14 (by decide)).trans ((lv_osw h15 (by decide)).trans ((lv_osw h16 (by decide)).trans ((lv_osw h17 (by decide)).trans ((lv_osw h18 (by decide)).trans ((lv_osw h19 (by decide)).trans rfl))))))))))))))))))) (by decide) ?_
  refine lv_iconst (v := 0) hx hb d_In_isArithmetic_166 (by decide) ?_
  exact W.zret hx hb hr rfl (fun t ht hW => ⟨_, rfl, (by rw [m_In_isArithmetic, if_neg h1, if_neg h2, if_neg h3, if_neg h4, if_neg h5, if_neg h6, if_neg h7, if_neg h8, if_neg h9, if_neg h10, if_neg h11, if_neg h12, if_neg h13, if_neg h14, if_neg h15, if_neg h16, if_neg h17, if_neg h18, if_neg h19]), ht⟩) (fun _ h => by cases h) d_In_isArithmetic_167
def m_In_isConditional (cd : Int32) : Int32 := if cd = (21 : Int32) then (1 : Int32) else if cd = (29 : Int32) then (1 : Int32) else if cd = (37 : Int32) then (1 : Int32) else if cd = (45 : Int32) then (1 : Int32) else if cd = (53 : Int32) then (1 : Int32) else if cd = (61 : Int32) then (1 : Int32) else if cd = (69 : Int32) then (1 : Int32) else if cd = (77 : Int32) then (1 : Int32) else (0 : Int32)
set_option maxHeartbeats 4000000 in
set_option maxRecDepth 100000 in
theorem c_In_isConditional (l : Launch) (cd : Int32) : Met l y_In_isConditional (mW y_In_isConditional b_In_isConditional 1 (some .boolean)) { frames := 0, cells := 0, slots := 0, locals := 0 } (va_Pc [.int cd] (fun _ => True)) (vp_Si (fun r => r = m_In_isConditional cd)) 0 0 (fun _ => False) := by
  refine Met.ofW (cc := b_In_isConditional) (maxL := 1) (ret := (some .boolean)) (by decide) rfl ?_
  intro p e s m args below meth c s₁ B hml hv
  obtain ⟨rfl, -⟩ := hv
  have hx := B.exec
  have hb := B.bytes
  have hr := B.returns
  have hlocks := B.notSynchronized
  have hts := fun (w : Cond) (h : w ∈ lw_g) => atoms_spec (ws := mW y_In_isConditional b_In_isConditional 1 (some .boolean)) B.pre w (List.mem_cons_of_mem _ h)
  have hown : s.vm.findClass R_In = some m.cls := findClass_of_methodNamed B.named
  have hl := lv_entry ([.int cd]) (n := 1) (Nat.le_of_ble_eq_true rfl)
  rw [lg_entry_eq]
  generalize (lg_sl ([.int cd]) ++ List.replicate (1 - (lg_sl ([.int cd])).length) Slot.unset).toArray = ls at hl ⊢
  have hl : lv_has ls 1 [(0, .int cd)] := hl
  refine lv_iload_n hx hb d_In_isConditional_0 rfl (lv_at hl 0 rfl) ?_
  by_cases h1 : cd = (21 : Int32)
  · refine lv_lookup (tgt := 76) (off := 75) hx hb d_In_isConditional_1 (by decide) (by rw [h1] <;> rfl) (by decide) ?_
    refine lv_iconst (v := 1) hx hb d_In_isConditional_76 (by decide) ?_
    exact W.zret hx hb hr rfl (fun t ht hW => ⟨_, rfl, (by rw [m_In_isConditional, if_pos h1]), ht⟩) (fun _ h => by cases h) d_In_isConditional_77
  by_cases h2 : cd = (29 : Int32)
  · refine lv_lookup (tgt := 76) (off := 75) hx hb d_In_isConditional_1 (by decide) (by rw [h2] <;> rfl) (by decide) ?_
    refine lv_iconst (v := 1) hx hb d_In_isConditional_76 (by decide) ?_
    exact W.zret hx hb hr rfl (fun t ht hW => ⟨_, rfl, (by rw [m_In_isConditional, if_neg h1, if_pos h2]), ht⟩) (fun _ h => by cases h) d_In_isConditional_77
  by_cases h3 : cd = (37 : Int32)
  · refine lv_lookup (tgt := 76) (off := 75) hx hb d_In_isConditional_1 (by decide) (by rw [h3] <;> rfl) (by decide) ?_
    refine lv_iconst (v := 1) hx hb d_In_isConditional_76 (by decide) ?_
    exact W.zret hx hb hr rfl (fun t ht hW => ⟨_, rfl, (by rw [m_In_isConditional, if_neg h1, if_neg h2, if_pos h3]), ht⟩) (fun _ h => by cases h) d_In_isConditional_77
  by_cases h4 : cd = (45 : Int32)
  · refine lv_lookup (tgt := 76) (off := 75) hx hb d_In_isConditional_1 (by decide) (by rw [h4] <;> rfl) (by decide) ?_
    refine lv_iconst (v := 1) hx hb d_In_isConditional_76 (by decide) ?_
    exact W.zret hx hb hr rfl (fun t ht hW => ⟨_, rfl, (by rw [m_In_isConditional, if_neg h1, if_neg h2, if_neg h3, if_pos h4]), ht⟩) (fun _ h => by cases h) d_In_isConditional_77
  by_cases h5 : cd = (53 : Int32)
  · refine lv_lookup (tgt := 76) (off := 75) hx hb d_In_isConditional_1 (by decide) (by rw [h5] <;> rfl) (by decide) ?_
    refine lv_iconst (v := 1) hx hb d_In_isConditional_76 (by decide) ?_
    exact W.zret hx hb hr rfl (fun t ht hW => ⟨_, rfl, (by rw [m_In_isConditional, if_neg h1, if_neg h2, if_neg h3, if_neg h4, if_pos h5]), ht⟩) (fun _ h => by cases h) d_In_isConditional_77
  by_cases h6 : cd = (61 : Int32)
  · refine lv_lookup (tgt := 76) (off := 75) hx hb d_In_isConditional_1 (by decide) (by rw [h6] <;> rfl) (by decide) ?_
    refine lv_iconst (v := 1) hx hb d_In_isConditional_76 (by decide) ?_
    exact W.zret hx hb hr rfl (fun t ht hW => ⟨_, rfl, (by rw [m_In_isConditional, if_neg h1, if_neg h2, if_neg h3, if_neg h4, if_neg h5, if_pos h6]), ht⟩) (fun _ h => by cases h) d_In_isConditional_77
  by_cases h7 : cd = (69 : Int32)
  · refine lv_lookup (tgt := 76) (off := 75) hx hb d_In_isConditional_1 (by decide) (by rw [h7] <;> rfl) (by decide) ?_
    refine lv_iconst (v := 1) hx hb d_In_isConditional_76 (by decide) ?_
    exact W.zret hx hb hr rfl (fun t ht hW => ⟨_, rfl, (by rw [m_In_isConditional, if_neg h1, if_neg h2, if_neg h3, if_neg h4, if_neg h5, if_neg h6, if_pos h7]), ht⟩) (fun _ h => by cases h) d_In_isConditional_77
  by_cases h8 : cd = (77 : Int32)
  · refine lv_lookup (tgt := 76) (off := 75) hx hb d_In_isConditional_1 (by decide) (by rw [h8] <;> rfl) (by decide) ?_
    refine lv_iconst (v := 1) hx hb d_In_isConditional_76 (by decide) ?_
    exact W.zret hx hb hr rfl (fun t ht hW => ⟨_, rfl, (by rw [m_In_isConditional, if_neg h1, if_neg h2, if_neg h3, if_neg h4, if_neg h5, if_neg h6, if_neg h7, if_pos h8]), ht⟩) (fun _ h => by cases h) d_In_isConditional_77
  refine lv_lookup (tgt := 78) (off := 77) hx hb d_In_isConditional_1 (by decide) ((lv_osw h1 (by decide)).trans ((lv_osw h2 (by decide)).trans ((lv_osw h3 (by decide)).trans ((lv_osw h4 (by decide)).trans ((lv_osw h5 (by decide)).trans ((lv_osw h6 (by decide)).trans ((lv_osw h7 (by decide)).trans ((lv_osw h8 (by decide)).trans rfl)))))))) (by decide) ?_
  refine lv_iconst (v := 0) hx hb d_In_isConditional_78 (by decide) ?_
  exact W.zret hx hb hr rfl (fun t ht hW => ⟨_, rfl, (by rw [m_In_isConditional, if_neg h1, if_neg h2, if_neg h3, if_neg h4, if_neg h5, if_neg h6, if_neg h7, if_neg h8]), ht⟩) (fun _ h => by cases h) d_In_isConditional_79
def m_In_endsRun (cd : Int32) : Int32 := if cd = (6 : Int32) then (1 : Int32) else if cd = (22 : Int32) then (1 : Int32) else (0 : Int32)
set_option maxHeartbeats 4000000 in
set_option maxRecDepth 100000 in
theorem c_In_endsRun (l : Launch) (cd : Int32) : Met l y_In_endsRun (mW y_In_endsRun b_In_endsRun 1 (some .boolean)) { frames := 0, cells := 0, slots := 0, locals := 0 } (va_Pc [.int cd] (fun _ => True)) (vp_Si (fun r => r = m_In_endsRun cd)) 0 0 (fun _ => False) := by
  refine Met.ofW (cc := b_In_endsRun) (maxL := 1) (ret := (some .boolean)) (by decide) rfl ?_
  intro p e s m args below meth c s₁ B hml hv
  obtain ⟨rfl, -⟩ := hv
  have hx := B.exec
  have hb := B.bytes
  have hr := B.returns
  have hlocks := B.notSynchronized
  have hts := fun (w : Cond) (h : w ∈ lw_g) => atoms_spec (ws := mW y_In_endsRun b_In_endsRun 1 (some .boolean)) B.pre w (List.mem_cons_of_mem _ h)
  have hown : s.vm.findClass R_In = some m.cls := findClass_of_methodNamed B.named
  have hl := lv_entry ([.int cd]) (n := 1) (Nat.le_of_ble_eq_true rfl)
  rw [lg_entry_eq]
  generalize (lg_sl ([.int cd]) ++ List.replicate (1 - (lg_sl ([.int cd])).length) Slot.unset).toArray = ls at hl ⊢
  have hl : lv_has ls 1 [(0, .int cd)] := hl
  refine lv_iload_n hx hb d_In_endsRun_0 rfl (lv_at hl 0 rfl) ?_
  refine lv_bipush (v := 6) hx hb d_In_endsRun_1 (by decide) ?_
  refine lv_icmp_eq (tgt := 12) hx hb d_In_endsRun_3 (by decide) (fun h1 => ?_) (fun h1 => ?_)
  · refine lv_iconst (v := 1) hx hb d_In_endsRun_12 (by decide) ?_
    refine lv_goto (tgt := 17) hx hb d_In_endsRun_13 (by decide) ?_
    exact W.zret hx hb hr rfl (fun t ht hW => ⟨_, rfl, (by rw [m_In_endsRun, if_pos h1]), ht⟩) (fun _ h => by cases h) d_In_endsRun_17
  refine lv_iload_n hx hb d_In_endsRun_6 rfl (lv_at hl 0 rfl) ?_
  refine lv_bipush (v := 22) hx hb d_In_endsRun_7 (by decide) ?_
  refine lv_icmp_ne (tgt := 16) hx hb d_In_endsRun_9 (by decide) (fun h2 => ?_) (fun h2 => ?_)
  · refine lv_iconst (v := 0) hx hb d_In_endsRun_16 (by decide) ?_
    exact W.zret hx hb hr rfl (fun t ht hW => ⟨_, rfl, (by rw [m_In_endsRun, if_neg h1, if_neg h2]), ht⟩) (fun _ h => by cases h) d_In_endsRun_17
  refine lv_iconst (v := 1) hx hb d_In_endsRun_12 (by decide) ?_
  refine lv_goto (tgt := 17) hx hb d_In_endsRun_13 (by decide) ?_
  exact W.zret hx hb hr rfl (fun t ht hW => ⟨_, rfl, (by rw [m_In_endsRun, if_neg h1, if_pos h2]), ht⟩) (fun _ h => by cases h) d_In_endsRun_17
def m_In_loadsCell (cd : Int32) : Int32 := if cd = (96 : Int32) then (1 : Int32) else if cd = (97 : Int32) then (1 : Int32) else (0 : Int32)
set_option maxHeartbeats 4000000 in
set_option maxRecDepth 100000 in
theorem c_In_loadsCell (l : Launch) (cd : Int32) : Met l y_In_loadsCell (mW y_In_loadsCell b_In_loadsCell 1 (some .boolean)) { frames := 0, cells := 0, slots := 0, locals := 0 } (va_Pc [.int cd] (fun _ => True)) (vp_Si (fun r => r = m_In_loadsCell cd)) 0 0 (fun _ => False) := by
  refine Met.ofW (cc := b_In_loadsCell) (maxL := 1) (ret := (some .boolean)) (by decide) rfl ?_
  intro p e s m args below meth c s₁ B hml hv
  obtain ⟨rfl, -⟩ := hv
  have hx := B.exec
  have hb := B.bytes
  have hr := B.returns
  have hlocks := B.notSynchronized
  have hts := fun (w : Cond) (h : w ∈ lw_g) => atoms_spec (ws := mW y_In_loadsCell b_In_loadsCell 1 (some .boolean)) B.pre w (List.mem_cons_of_mem _ h)
  have hown : s.vm.findClass R_In = some m.cls := findClass_of_methodNamed B.named
  have hl := lv_entry ([.int cd]) (n := 1) (Nat.le_of_ble_eq_true rfl)
  rw [lg_entry_eq]
  generalize (lg_sl ([.int cd]) ++ List.replicate (1 - (lg_sl ([.int cd])).length) Slot.unset).toArray = ls at hl ⊢
  have hl : lv_has ls 1 [(0, .int cd)] := hl
  refine lv_iload_n hx hb d_In_loadsCell_0 rfl (lv_at hl 0 rfl) ?_
  refine lv_bipush (v := 96) hx hb d_In_loadsCell_1 (by decide) ?_
  refine lv_icmp_eq (tgt := 12) hx hb d_In_loadsCell_3 (by decide) (fun h1 => ?_) (fun h1 => ?_)
  · refine lv_iconst (v := 1) hx hb d_In_loadsCell_12 (by decide) ?_
    refine lv_goto (tgt := 17) hx hb d_In_loadsCell_13 (by decide) ?_
    exact W.zret hx hb hr rfl (fun t ht hW => ⟨_, rfl, (by rw [m_In_loadsCell, if_pos h1]), ht⟩) (fun _ h => by cases h) d_In_loadsCell_17
  refine lv_iload_n hx hb d_In_loadsCell_6 rfl (lv_at hl 0 rfl) ?_
  refine lv_bipush (v := 97) hx hb d_In_loadsCell_7 (by decide) ?_
  refine lv_icmp_ne (tgt := 16) hx hb d_In_loadsCell_9 (by decide) (fun h2 => ?_) (fun h2 => ?_)
  · refine lv_iconst (v := 0) hx hb d_In_loadsCell_16 (by decide) ?_
    exact W.zret hx hb hr rfl (fun t ht hW => ⟨_, rfl, (by rw [m_In_loadsCell, if_neg h1, if_neg h2]), ht⟩) (fun _ h => by cases h) d_In_loadsCell_17
  refine lv_iconst (v := 1) hx hb d_In_loadsCell_12 (by decide) ?_
  refine lv_goto (tgt := 17) hx hb d_In_loadsCell_13 (by decide) ?_
  exact W.zret hx hb hr rfl (fun t ht hW => ⟨_, rfl, (by rw [m_In_loadsCell, if_neg h1, if_pos h2]), ht⟩) (fun _ h => by cases h) d_In_loadsCell_17
def m_In_storesCell (cd : Int32) : Int32 := if cd = (2 : Int32) then (1 : Int32) else if cd = (3 : Int32) then (1 : Int32) else (0 : Int32)
set_option maxHeartbeats 4000000 in
set_option maxRecDepth 100000 in
theorem c_In_storesCell (l : Launch) (cd : Int32) : Met l y_In_storesCell (mW y_In_storesCell b_In_storesCell 1 (some .boolean)) { frames := 0, cells := 0, slots := 0, locals := 0 } (va_Pc [.int cd] (fun _ => True)) (vp_Si (fun r => r = m_In_storesCell cd)) 0 0 (fun _ => False) := by
  refine Met.ofW (cc := b_In_storesCell) (maxL := 1) (ret := (some .boolean)) (by decide) rfl ?_
  intro p e s m args below meth c s₁ B hml hv
  obtain ⟨rfl, -⟩ := hv
  have hx := B.exec
  have hb := B.bytes
  have hr := B.returns
  have hlocks := B.notSynchronized
  have hts := fun (w : Cond) (h : w ∈ lw_g) => atoms_spec (ws := mW y_In_storesCell b_In_storesCell 1 (some .boolean)) B.pre w (List.mem_cons_of_mem _ h)
  have hown : s.vm.findClass R_In = some m.cls := findClass_of_methodNamed B.named
  have hl := lv_entry ([.int cd]) (n := 1) (Nat.le_of_ble_eq_true rfl)
  rw [lg_entry_eq]
  generalize (lg_sl ([.int cd]) ++ List.replicate (1 - (lg_sl ([.int cd])).length) Slot.unset).toArray = ls at hl ⊢
  have hl : lv_has ls 1 [(0, .int cd)] := hl
  refine lv_iload_n hx hb d_In_storesCell_0 rfl (lv_at hl 0 rfl) ?_
  refine lv_iconst (v := 2) hx hb d_In_storesCell_1 (by decide) ?_
  refine lv_icmp_eq (tgt := 10) hx hb d_In_storesCell_2 (by decide) (fun h1 => ?_) (fun h1 => ?_)
  · refine lv_iconst (v := 1) hx hb d_In_storesCell_10 (by decide) ?_
    refine lv_goto (tgt := 15) hx hb d_In_storesCell_11 (by decide) ?_
    exact W.zret hx hb hr rfl (fun t ht hW => ⟨_, rfl, (by rw [m_In_storesCell, if_pos h1]), ht⟩) (fun _ h => by cases h) d_In_storesCell_15
  refine lv_iload_n hx hb d_In_storesCell_5 rfl (lv_at hl 0 rfl) ?_
  refine lv_iconst (v := 3) hx hb d_In_storesCell_6 (by decide) ?_
  refine lv_icmp_ne (tgt := 14) hx hb d_In_storesCell_7 (by decide) (fun h2 => ?_) (fun h2 => ?_)
  · refine lv_iconst (v := 0) hx hb d_In_storesCell_14 (by decide) ?_
    exact W.zret hx hb hr rfl (fun t ht hW => ⟨_, rfl, (by rw [m_In_storesCell, if_neg h1, if_neg h2]), ht⟩) (fun _ h => by cases h) d_In_storesCell_15
  refine lv_iconst (v := 1) hx hb d_In_storesCell_10 (by decide) ?_
  refine lv_goto (tgt := 15) hx hb d_In_storesCell_11 (by decide) ?_
  exact W.zret hx hb hr rfl (fun t ht hW => ⟨_, rfl, (by rw [m_In_storesCell, if_neg h1, if_pos h2]), ht⟩) (fun _ h => by cases h) d_In_storesCell_15
def m_In_isKnown (cd : Int32) : Int32 := if cd = (0 : Int32) then (1 : Int32) else if cd = (1 : Int32) then (1 : Int32) else if cd = (2 : Int32) then (1 : Int32) else if cd = (3 : Int32) then (1 : Int32) else if cd = (5 : Int32) then (1 : Int32) else if cd = (7 : Int32) then (1 : Int32) else if cd = (32 : Int32) then (1 : Int32) else if cd = (96 : Int32) then (1 : Int32) else if cd = (97 : Int32) then (1 : Int32) else if cd = (128 : Int32) then (1 : Int32) else if cd = (129 : Int32) then (1 : Int32) else if cd = (135 : Int32) then (1 : Int32) else if (m_In_isArithmetic cd) = (0 : Int32) then if (m_In_isConditional cd) = (0 : Int32) then if (m_In_endsRun cd) = (0 : Int32) then (0 : Int32) else (1 : Int32) else (1 : Int32) else (1 : Int32)
set_option maxHeartbeats 4000000 in
set_option maxRecDepth 100000 in
theorem c_In_isKnown (l : Launch) (cd : Int32) : Met l y_In_isKnown (mW y_In_isKnown b_In_isKnown 1 (some .boolean)) { frames := 1, cells := 0, slots := 0, locals := 20 } (va_Pc [.int cd] (fun _ => True)) (vp_Si (fun r => r = m_In_isKnown cd)) 0 0 (fun _ => False) := by
  refine Met.ofW (cc := b_In_isKnown) (maxL := 1) (ret := (some .boolean)) (by decide) rfl ?_
  intro p e s m args below meth c s₁ B hml hv
  obtain ⟨rfl, -⟩ := hv
  have hx := B.exec
  have hb := B.bytes
  have hr := B.returns
  have hlocks := B.notSynchronized
  have hts := fun (w : Cond) (h : w ∈ lw_g) => atoms_spec (ws := mW y_In_isKnown b_In_isKnown 1 (some .boolean)) B.pre w (List.mem_cons_of_mem _ h)
  have hown : s.vm.findClass R_In = some m.cls := findClass_of_methodNamed B.named
  have hl := lv_entry ([.int cd]) (n := 1) (Nat.le_of_ble_eq_true rfl)
  rw [lg_entry_eq]
  generalize (lg_sl ([.int cd]) ++ List.replicate (1 - (lg_sl ([.int cd])).length) Slot.unset).toArray = ls at hl ⊢
  have hl : lv_has ls 1 [(0, .int cd)] := hl
  refine lv_iload_n hx hb d_In_isKnown_0 rfl (lv_at hl 0 rfl) ?_
  by_cases h1 : cd = (0 : Int32)
  · refine lv_lookup (tgt := 108) (off := 107) hx hb d_In_isKnown_1 (by decide) (by rw [h1] <;> rfl) (by decide) ?_
    refine lv_iconst (v := 1) hx hb d_In_isKnown_108 (by decide) ?_
    exact W.zret hx hb hr rfl (fun t ht hW => ⟨_, rfl, (by rw [m_In_isKnown, if_pos h1]), ht⟩) (fun _ h => by cases h) d_In_isKnown_109
  by_cases h2 : cd = (1 : Int32)
  · refine lv_lookup (tgt := 108) (off := 107) hx hb d_In_isKnown_1 (by decide) (by rw [h2] <;> rfl) (by decide) ?_
    refine lv_iconst (v := 1) hx hb d_In_isKnown_108 (by decide) ?_
    exact W.zret hx hb hr rfl (fun t ht hW => ⟨_, rfl, (by rw [m_In_isKnown, if_neg h1, if_pos h2]), ht⟩) (fun _ h => by cases h) d_In_isKnown_109
  by_cases h3 : cd = (2 : Int32)
  · refine lv_lookup (tgt := 108) (off := 107) hx hb d_In_isKnown_1 (by decide) (by rw [h3] <;> rfl) (by decide) ?_
    refine lv_iconst (v := 1) hx hb d_In_isKnown_108 (by decide) ?_
    exact W.zret hx hb hr rfl (fun t ht hW => ⟨_, rfl, (by rw [m_In_isKnown, if_neg h1, if_neg h2, if_pos h3]), ht⟩) (fun _ h => by cases h) d_In_isKnown_109
  by_cases h4 : cd = (3 : Int32)
  · refine lv_lookup (tgt := 108) (off := 107) hx hb d_In_isKnown_1 (by decide) (by rw [h4] <;> rfl) (by decide) ?_
    refine lv_iconst (v := 1) hx hb d_In_isKnown_108 (by decide) ?_
    exact W.zret hx hb hr rfl (fun t ht hW => ⟨_, rfl, (by rw [m_In_isKnown, if_neg h1, if_neg h2, if_neg h3, if_pos h4]), ht⟩) (fun _ h => by cases h) d_In_isKnown_109
  by_cases h5 : cd = (5 : Int32)
  · refine lv_lookup (tgt := 108) (off := 107) hx hb d_In_isKnown_1 (by decide) (by rw [h5] <;> rfl) (by decide) ?_
    refine lv_iconst (v := 1) hx hb d_In_isKnown_108 (by decide) ?_
    exact W.zret hx hb hr rfl (fun t ht hW => ⟨_, rfl, (by rw [m_In_isKnown, if_neg h1, if_neg h2, if_neg h3, if_neg h4, if_pos h5]), ht⟩) (fun _ h => by cases h) d_In_isKnown_109
  by_cases h6 : cd = (7 : Int32)
  · refine lv_lookup (tgt := 108) (off := 107) hx hb d_In_isKnown_1 (by decide) (by rw [h6] <;> rfl) (by decide) ?_
    refine lv_iconst (v := 1) hx hb d_In_isKnown_108 (by decide) ?_
    exact W.zret hx hb hr rfl (fun t ht hW => ⟨_, rfl, (by rw [m_In_isKnown, if_neg h1, if_neg h2, if_neg h3, if_neg h4, if_neg h5, if_pos h6]), ht⟩) (fun _ h => by cases h) d_In_isKnown_109
  by_cases h7 : cd = (32 : Int32)
  · refine lv_lookup (tgt := 108) (off := 107) hx hb d_In_isKnown_1 (by decide) (by rw [h7] <;> rfl) (by decide) ?_
    refine lv_iconst (v := 1) hx hb d_In_isKnown_108 (by decide) ?_
    exact W.zret hx hb hr rfl (fun t ht hW => ⟨_, rfl, (by rw [m_In_isKnown, if_neg h1, if_neg h2, if_neg h3, if_neg h4, if_neg h5, if_neg h6, if_pos h7]), ht⟩) (fun _ h => by cases h) d_In_isKnown_109
  by_cases h8 : cd = (96 : Int32)
  · refine lv_lookup (tgt := 108) (off := 107) hx hb d_In_isKnown_1 (by decide) (by rw [h8] <;> rfl) (by decide) ?_
    refine lv_iconst (v := 1) hx hb d_In_isKnown_108 (by decide) ?_
    exact W.zret hx hb hr rfl (fun t ht hW => ⟨_, rfl, (by rw [m_In_isKnown, if_neg h1, if_neg h2, if_neg h3, if_neg h4, if_neg h5, if_neg h6, if_neg h7, if_pos h8]), ht⟩) (fun _ h => by cases h) d_In_isKnown_109
  by_cases h9 : cd = (97 : Int32)
  · refine lv_lookup (tgt := 108) (off := 107) hx hb d_In_isKnown_1 (by decide) (by rw [h9] <;> rfl) (by decide) ?_
    refine lv_iconst (v := 1) hx hb d_In_isKnown_108 (by decide) ?_
    exact W.zret hx hb hr rfl (fun t ht hW => ⟨_, rfl, (by rw [m_In_isKnown, if_neg h1, if_neg h2, if_neg h3, if_neg h4, if_neg h5, if_neg h6, if_neg h7, if_neg h8, if_pos h9]), ht⟩) (fun _ h => by cases h) d_In_isKnown_109
  by_cases h10 : cd = (128 : Int32)
  · refine lv_lookup (tgt := 108) (off := 107) hx hb d_In_isKnown_1 (by decide) (by rw [h10] <;> rfl) (by decide) ?_
    refine lv_iconst (v := 1) hx hb d_In_isKnown_108 (by decide) ?_
    exact W.zret hx hb hr rfl (fun t ht hW => ⟨_, rfl, (by rw [m_In_isKnown, if_neg h1, if_neg h2, if_neg h3, if_neg h4, if_neg h5, if_neg h6, if_neg h7, if_neg h8, if_neg h9, if_pos h10]), ht⟩) (fun _ h => by cases h) d_In_isKnown_109
  by_cases h11 : cd = (129 : Int32)
  · refine lv_lookup (tgt := 108) (off := 107) hx hb d_In_isKnown_1 (by decide) (by rw [h11] <;> rfl) (by decide) ?_
    refine lv_iconst (v := 1) hx hb d_In_isKnown_108 (by decide) ?_
    exact W.zret hx hb hr rfl (fun t ht hW => ⟨_, rfl, (by rw [m_In_isKnown, if_neg h1, if_neg h2, if_neg h3, if_neg h4, if_neg h5, if_neg h6, if_neg h7, if_neg h8, if_neg h9, if_neg h10, if_pos h11]), ht⟩) (fun _ h => by cases h) d_In_isKnown_109
  by_cases h12 : cd = (135 : Int32)
  · refine lv_lookup (tgt := 108) (off := 107) hx hb d_In_isKnown_1 (by decide) (by rw [h12] <;> rfl) (by decide) ?_
    refine lv_iconst (v := 1) hx hb d_In_isKnown_108 (by decide) ?_
    exact W.zret hx hb hr rfl (fun t ht hW => ⟨_, rfl, (by rw [m_In_isKnown, if_neg h1, if_neg h2, if_neg h3, if_neg h4, if_neg h5, if_neg h6, if_neg h7, if_neg h8, if_neg h9, if_neg h10, if_neg h11, if_pos h12]), ht⟩) (fun _ h => by cases h) d_In_isKnown_109
  refine lv_lookup (tgt := 110) (off := 109) hx hb d_In_isKnown_1 (by decide) ((lv_osw h1 (by decide)).trans ((lv_osw h2 (by decide)).trans ((lv_osw h3 (by decide)).trans ((lv_osw h4 (by decide)).trans ((lv_osw h5 (by decide)).trans ((lv_osw h6 (by decide)).trans ((lv_osw h7 (by decide)).trans ((lv_osw h8 (by decide)).trans ((lv_osw h9 (by decide)).trans ((lv_osw h10 (by decide)).trans ((lv_osw h11 (by decide)).trans ((lv_osw h12 (by decide)).trans rfl)))))))))))) (by decide) ?_
  refine lv_iload_n hx hb d_In_isKnown_110 rfl (lv_at hl 0 rfl) ?_
  refine vp_callSi (va_Run.run (va_runS (As := [.int cd]) (rest := []) ⟨hx, hb, hml, hown, hts⟩ (c_In_isArithmetic l cd) (va_cwS 1 hts (g_S wd_370 wd_371 wd_36 wd_372) rfl rfl rfl (by decide +kernel) ⟨Nat.le_of_ble_eq_true rfl, Nat.le_of_ble_eq_true rfl⟩) ⟨fun _ _ _ _ q => q, fun _ _ _ => ⟨rfl, trivial⟩⟩ rfl rfl hl.1 rfl (lv_room (Nat.le_of_ble_eq_true rfl)) d_In_isKnown_111 ⟨Nat.le_of_ble_eq_true rfl, Nat.le_of_ble_eq_true rfl⟩)) (fun r1 e1 => ?_)
  subst e1
  refine lv_if_ne (tgt := 131) hx hb d_In_isKnown_114 (by decide) (fun h13 => ?_) (fun h13 => ?_)
  · refine lv_iconst (v := 1) hx hb d_In_isKnown_131 (by decide) ?_
    refine lv_goto (tgt := 136) hx hb d_In_isKnown_132 (by decide) ?_
    exact W.zret hx hb hr rfl (fun t ht hW => ⟨_, rfl, (by rw [m_In_isKnown, if_neg h1, if_neg h2, if_neg h3, if_neg h4, if_neg h5, if_neg h6, if_neg h7, if_neg h8, if_neg h9, if_neg h10, if_neg h11, if_neg h12, if_neg h13]), ht⟩) (fun _ h => by cases h) d_In_isKnown_136
  refine lv_iload_n hx hb d_In_isKnown_117 rfl (lv_at hl 0 rfl) ?_
  refine vp_callSi (va_Run.run (va_runS (As := [.int cd]) (rest := []) ⟨hx, hb, hml, hown, hts⟩ (c_In_isConditional l cd) (va_cwS 1 hts (g_S wd_373 wd_374 wd_36 wd_375) rfl rfl rfl (by decide +kernel) ⟨Nat.le_of_ble_eq_true rfl, Nat.le_of_ble_eq_true rfl⟩) ⟨fun _ _ _ _ q => q, fun _ _ _ => ⟨rfl, trivial⟩⟩ rfl rfl hl.1 rfl (lv_room (Nat.le_of_ble_eq_true rfl)) d_In_isKnown_118 ⟨Nat.le_of_ble_eq_true rfl, Nat.le_of_ble_eq_true rfl⟩)) (fun r2 e2 => ?_)
  subst e2
  refine lv_if_ne (tgt := 131) hx hb d_In_isKnown_121 (by decide) (fun h14 => ?_) (fun h14 => ?_)
  · refine lv_iconst (v := 1) hx hb d_In_isKnown_131 (by decide) ?_
    refine lv_goto (tgt := 136) hx hb d_In_isKnown_132 (by decide) ?_
    exact W.zret hx hb hr rfl (fun t ht hW => ⟨_, rfl, (by rw [m_In_isKnown, if_neg h1, if_neg h2, if_neg h3, if_neg h4, if_neg h5, if_neg h6, if_neg h7, if_neg h8, if_neg h9, if_neg h10, if_neg h11, if_neg h12, if_pos h13, if_neg h14]), ht⟩) (fun _ h => by cases h) d_In_isKnown_136
  refine lv_iload_n hx hb d_In_isKnown_124 rfl (lv_at hl 0 rfl) ?_
  refine vp_callSi (va_Run.run (va_runS (As := [.int cd]) (rest := []) ⟨hx, hb, hml, hown, hts⟩ (c_In_endsRun l cd) (va_cwS 1 hts (g_S wd_376 wd_377 wd_36 wd_378) rfl rfl rfl (by decide +kernel) ⟨Nat.le_of_ble_eq_true rfl, Nat.le_of_ble_eq_true rfl⟩) ⟨fun _ _ _ _ q => q, fun _ _ _ => ⟨rfl, trivial⟩⟩ rfl rfl hl.1 rfl (lv_room (Nat.le_of_ble_eq_true rfl)) d_In_isKnown_125 ⟨Nat.le_of_ble_eq_true rfl, Nat.le_of_ble_eq_true rfl⟩)) (fun r3 e3 => ?_)
  subst e3
  refine lv_if_eq (tgt := 135) hx hb d_In_isKnown_128 (by decide) (fun h15 => ?_) (fun h15 => ?_)
  · refine lv_iconst (v := 0) hx hb d_In_isKnown_135 (by decide) ?_
    exact W.zret hx hb hr rfl (fun t ht hW => ⟨_, rfl, (by rw [m_In_isKnown, if_neg h1, if_neg h2, if_neg h3, if_neg h4, if_neg h5, if_neg h6, if_neg h7, if_neg h8, if_neg h9, if_neg h10, if_neg h11, if_neg h12, if_pos h13, if_pos h14, if_pos h15]), ht⟩) (fun _ h => by cases h) d_In_isKnown_136
  refine lv_iconst (v := 1) hx hb d_In_isKnown_131 (by decide) ?_
  refine lv_goto (tgt := 136) hx hb d_In_isKnown_132 (by decide) ?_
  exact W.zret hx hb hr rfl (fun t ht hW => ⟨_, rfl, (by rw [m_In_isKnown, if_neg h1, if_neg h2, if_neg h3, if_neg h4, if_neg h5, if_neg h6, if_neg h7, if_neg h8, if_neg h9, if_neg h10, if_neg h11, if_neg h12, if_pos h13, if_pos h14, if_neg h15]), ht⟩) (fun _ h => by cases h) d_In_isKnown_136
def m_Ch_isOperandFit (cd : Int32) (k : Int64) : Int32 := if (m_In_loadsCell cd) = (0 : Int32) then if (m_In_storesCell cd) = (0 : Int32) then if cd = (32 : Int32) then if (lg_cmp (k - k / (4 : Int64) * (4 : Int64)) (0 : Int64)) = (0 : Int32) then if (0 : Int32) ≤ (lg_cmp k (64 : Int64)) then (0 : Int32) else (1 : Int32) else (0 : Int32) else if cd = (52 : Int32) then if (lg_cmp k (0 : Int64)) = (0 : Int32) then (0 : Int32) else (1 : Int32) else if cd = (100 : Int32) then if (0 : Int32) ≤ (lg_cmp k (32 : Int64)) then (0 : Int32) else (1 : Int32) else if cd = (116 : Int32) then if (0 : Int32) ≤ (lg_cmp k (32 : Int64)) then (0 : Int32) else (1 : Int32) else (1 : Int32) else if (0 : Int32) ≤ (lg_cmp k (16 : Int64)) then (0 : Int32) else (1 : Int32) else if (0 : Int32) ≤ (lg_cmp k (16 : Int64)) then (0 : Int32) else (1 : Int32)
set_option maxHeartbeats 4000000 in
set_option maxRecDepth 100000 in
theorem c_Ch_isOperandFit (l : Launch) (cd : Int32) (k : Int64) : Met l y_Ch_isOperandFit (mW y_Ch_isOperandFit b_Ch_isOperandFit 3 (some .boolean)) { frames := 1, cells := 0, slots := 0, locals := 20 } (va_Pc [.int cd, .long k] (fun _ => True)) (vp_Si (fun r => r = m_Ch_isOperandFit cd k)) 0 0 (fun _ => False) := by
  refine Met.ofW (cc := b_Ch_isOperandFit) (maxL := 3) (ret := (some .boolean)) (by decide) rfl ?_
  intro p e s m args below meth c s₁ B hml hv
  obtain ⟨rfl, -⟩ := hv
  have hx := B.exec
  have hb := B.bytes
  have hr := B.returns
  have hlocks := B.notSynchronized
  have hts := fun (w : Cond) (h : w ∈ lw_g) => atoms_spec (ws := mW y_Ch_isOperandFit b_Ch_isOperandFit 3 (some .boolean)) B.pre w (List.mem_cons_of_mem _ h)
  have hown : s.vm.findClass R_Ch = some m.cls := findClass_of_methodNamed B.named
  have hl := lv_entry ([.int cd, .long k]) (n := 3) (Nat.le_of_ble_eq_true rfl)
  rw [lg_entry_eq]
  generalize (lg_sl ([.int cd, .long k]) ++ List.replicate (3 - (lg_sl ([.int cd, .long k])).length) Slot.unset).toArray = ls at hl ⊢
  have hl : lv_has ls 3 [(0, .int cd), (1, .long k)] := hl
  refine lv_iload_n hx hb d_Ch_isOperandFit_0 rfl (lv_at hl 0 rfl) ?_
  refine vp_callSi (va_Run.run (va_runS (As := [.int cd]) (rest := []) ⟨hx, hb, hml, hown, hts⟩ (c_In_loadsCell l cd) (va_cwS 1 hts (g_S wd_385 wd_386 wd_36 wd_387) rfl rfl rfl (by decide +kernel) ⟨Nat.le_of_ble_eq_true rfl, Nat.le_of_ble_eq_true rfl⟩) ⟨fun _ _ _ _ q => q, fun _ _ _ => ⟨rfl, trivial⟩⟩ rfl rfl hl.1 rfl (lv_room (Nat.le_of_ble_eq_true rfl)) d_Ch_isOperandFit_1 ⟨Nat.le_of_ble_eq_true rfl, Nat.le_of_ble_eq_true rfl⟩)) (fun r1 e1 => ?_)
  subst e1
  refine lv_if_ne (tgt := 14) hx hb d_Ch_isOperandFit_4 (by decide) (fun h1 => ?_) (fun h1 => ?_)
  · refine lv_lload_n hx hb d_Ch_isOperandFit_14 rfl (lv_at hl 1 rfl) ?_
    refine lv_ldc2 (v := 16) hx hb hown (hts _ wd_391) d_Ch_isOperandFit_15 ?_
    refine W.lcmp hx hb d_Ch_isOperandFit_18 ?_
    refine lv_if_ge (tgt := 26) hx hb d_Ch_isOperandFit_19 (by decide) (fun h2 => ?_) (fun h2 => ?_)
    · refine lv_iconst (v := 0) hx hb d_Ch_isOperandFit_26 (by decide) ?_
      exact W.zret hx hb hr rfl (fun t ht hW => ⟨_, rfl, (by rw [m_Ch_isOperandFit, if_neg h1, if_pos h2]), ht⟩) (fun _ h => by cases h) d_Ch_isOperandFit_27
    refine lv_iconst (v := 1) hx hb d_Ch_isOperandFit_22 (by decide) ?_
    refine lv_goto (tgt := 27) hx hb d_Ch_isOperandFit_23 (by decide) ?_
    exact W.zret hx hb hr rfl (fun t ht hW => ⟨_, rfl, (by rw [m_Ch_isOperandFit, if_neg h1, if_neg h2]), ht⟩) (fun _ h => by cases h) d_Ch_isOperandFit_27
  refine lv_iload_n hx hb d_Ch_isOperandFit_7 rfl (lv_at hl 0 rfl) ?_
  refine vp_callSi (va_Run.run (va_runS (As := [.int cd]) (rest := []) ⟨hx, hb, hml, hown, hts⟩ (c_In_storesCell l cd) (va_cwS 1 hts (g_S wd_388 wd_389 wd_36 wd_390) rfl rfl rfl (by decide +kernel) ⟨Nat.le_of_ble_eq_true rfl, Nat.le_of_ble_eq_true rfl⟩) ⟨fun _ _ _ _ q => q, fun _ _ _ => ⟨rfl, trivial⟩⟩ rfl rfl hl.1 rfl (lv_room (Nat.le_of_ble_eq_true rfl)) d_Ch_isOperandFit_8 ⟨Nat.le_of_ble_eq_true rfl, Nat.le_of_ble_eq_true rfl⟩)) (fun r2 e2 => ?_)
  subst e2
  refine lv_if_eq (tgt := 28) hx hb d_Ch_isOperandFit_11 (by decide) (fun h3 => ?_) (fun h3 => ?_)
  · refine lv_iload_n hx hb d_Ch_isOperandFit_28 rfl (lv_at hl 0 rfl) ?_
    by_cases h4 : cd = (32 : Int32)
    · refine lv_lookup (tgt := 72) (off := 43) hx hb d_Ch_isOperandFit_29 (by decide) (by rw [h4] <;> rfl) (by decide) ?_
      refine lv_lload_n hx hb d_Ch_isOperandFit_72 rfl (lv_at hl 1 rfl) ?_
      refine lv_ldc2 (v := 4) hx hb hown (hts _ wd_392) d_Ch_isOperandFit_73 ?_
      refine lv_lrem hx hb d_Ch_isOperandFit_76 (by decide) ?_
      refine lv_lconst (v := 0) hx hb d_Ch_isOperandFit_77 (by decide) ?_
      refine W.lcmp hx hb d_Ch_isOperandFit_78 ?_
      refine lv_if_ne (tgt := 94) hx hb d_Ch_isOperandFit_79 (by decide) (fun h5 => ?_) (fun h5 => ?_)
      · refine lv_iconst (v := 0) hx hb d_Ch_isOperandFit_94 (by decide) ?_
        exact W.zret hx hb hr rfl (fun t ht hW => ⟨_, rfl, (by rw [m_Ch_isOperandFit, if_pos h1, if_pos h3, if_pos h4, if_neg h5]), ht⟩) (fun _ h => by cases h) d_Ch_isOperandFit_95
      refine lv_lload_n hx hb d_Ch_isOperandFit_82 rfl (lv_at hl 1 rfl) ?_
      refine lv_ldc2 (v := 64) hx hb hown (hts _ wd_393) d_Ch_isOperandFit_83 ?_
      refine W.lcmp hx hb d_Ch_isOperandFit_86 ?_
      refine lv_if_ge (tgt := 94) hx hb d_Ch_isOperandFit_87 (by decide) (fun h6 => ?_) (fun h6 => ?_)
      · refine lv_iconst (v := 0) hx hb d_Ch_isOperandFit_94 (by decide) ?_
        exact W.zret hx hb hr rfl (fun t ht hW => ⟨_, rfl, (by rw [m_Ch_isOperandFit, if_pos h1, if_pos h3, if_pos h4, if_pos h5, if_pos h6]), ht⟩) (fun _ h => by cases h) d_Ch_isOperandFit_95
      refine lv_iconst (v := 1) hx hb d_Ch_isOperandFit_90 (by decide) ?_
      refine lv_goto (tgt := 95) hx hb d_Ch_isOperandFit_91 (by decide) ?_
      exact W.zret hx hb hr rfl (fun t ht hW => ⟨_, rfl, (by rw [m_Ch_isOperandFit, if_pos h1, if_pos h3, if_pos h4, if_pos h5, if_neg h6]), ht⟩) (fun _ h => by cases h) d_Ch_isOperandFit_95
    by_cases h7 : cd = (52 : Int32)
    · refine lv_lookup (tgt := 96) (off := 67) hx hb d_Ch_isOperandFit_29 (by decide) (by rw [h7] <;> rfl) (by decide) ?_
      refine lv_lload_n hx hb d_Ch_isOperandFit_96 rfl (lv_at hl 1 rfl) ?_
      refine lv_lconst (v := 0) hx hb d_Ch_isOperandFit_97 (by decide) ?_
      refine W.lcmp hx hb d_Ch_isOperandFit_98 ?_
      refine lv_if_eq (tgt := 106) hx hb d_Ch_isOperandFit_99 (by decide) (fun h8 => ?_) (fun h8 => ?_)
      · refine lv_iconst (v := 0) hx hb d_Ch_isOperandFit_106 (by decide) ?_
        exact W.zret hx hb hr rfl (fun t ht hW => ⟨_, rfl, (by rw [m_Ch_isOperandFit, if_pos h1, if_pos h3, if_neg h4, if_pos h7, if_pos h8]), ht⟩) (fun _ h => by cases h) d_Ch_isOperandFit_107
      refine lv_iconst (v := 1) hx hb d_Ch_isOperandFit_102 (by decide) ?_
      refine lv_goto (tgt := 107) hx hb d_Ch_isOperandFit_103 (by decide) ?_
      exact W.zret hx hb hr rfl (fun t ht hW => ⟨_, rfl, (by rw [m_Ch_isOperandFit, if_pos h1, if_pos h3, if_neg h4, if_pos h7, if_neg h8]), ht⟩) (fun _ h => by cases h) d_Ch_isOperandFit_107
    by_cases h9 : cd = (100 : Int32)
    · refine lv_lookup (tgt := 108) (off := 79) hx hb d_Ch_isOperandFit_29 (by decide) (by rw [h9] <;> rfl) (by decide) ?_
      refine lv_lload_n hx hb d_Ch_isOperandFit_108 rfl (lv_at hl 1 rfl) ?_
      refine lv_ldc2 (v := 32) hx hb hown (hts _ wd_394) d_Ch_isOperandFit_109 ?_
      refine W.lcmp hx hb d_Ch_isOperandFit_112 ?_
      refine lv_if_ge (tgt := 120) hx hb d_Ch_isOperandFit_113 (by decide) (fun h10 => ?_) (fun h10 => ?_)
      · refine lv_iconst (v := 0) hx hb d_Ch_isOperandFit_120 (by decide) ?_
        exact W.zret hx hb hr rfl (fun t ht hW => ⟨_, rfl, (by rw [m_Ch_isOperandFit, if_pos h1, if_pos h3, if_neg h4, if_neg h7, if_pos h9, if_pos h10]), ht⟩) (fun _ h => by cases h) d_Ch_isOperandFit_121
      refine lv_iconst (v := 1) hx hb d_Ch_isOperandFit_116 (by decide) ?_
      refine lv_goto (tgt := 121) hx hb d_Ch_isOperandFit_117 (by decide) ?_
      exact W.zret hx hb hr rfl (fun t ht hW => ⟨_, rfl, (by rw [m_Ch_isOperandFit, if_pos h1, if_pos h3, if_neg h4, if_neg h7, if_pos h9, if_neg h10]), ht⟩) (fun _ h => by cases h) d_Ch_isOperandFit_121
    by_cases h11 : cd = (116 : Int32)
    · refine lv_lookup (tgt := 108) (off := 79) hx hb d_Ch_isOperandFit_29 (by decide) (by rw [h11] <;> rfl) (by decide) ?_
      refine lv_lload_n hx hb d_Ch_isOperandFit_108 rfl (lv_at hl 1 rfl) ?_
      refine lv_ldc2 (v := 32) hx hb hown (hts _ wd_394) d_Ch_isOperandFit_109 ?_
      refine W.lcmp hx hb d_Ch_isOperandFit_112 ?_
      refine lv_if_ge (tgt := 120) hx hb d_Ch_isOperandFit_113 (by decide) (fun h12 => ?_) (fun h12 => ?_)
      · refine lv_iconst (v := 0) hx hb d_Ch_isOperandFit_120 (by decide) ?_
        exact W.zret hx hb hr rfl (fun t ht hW => ⟨_, rfl, (by rw [m_Ch_isOperandFit, if_pos h1, if_pos h3, if_neg h4, if_neg h7, if_neg h9, if_pos h11, if_pos h12]), ht⟩) (fun _ h => by cases h) d_Ch_isOperandFit_121
      refine lv_iconst (v := 1) hx hb d_Ch_isOperandFit_116 (by decide) ?_
      refine lv_goto (tgt := 121) hx hb d_Ch_isOperandFit_117 (by decide) ?_
      exact W.zret hx hb hr rfl (fun t ht hW => ⟨_, rfl, (by rw [m_Ch_isOperandFit, if_pos h1, if_pos h3, if_neg h4, if_neg h7, if_neg h9, if_pos h11, if_neg h12]), ht⟩) (fun _ h => by cases h) d_Ch_isOperandFit_121
    refine lv_lookup (tgt := 122) (off := 93) hx hb d_Ch_isOperandFit_29 (by decide) ((lv_osw h4 (by decide)).trans ((lv_osw h7 (by decide)).trans ((lv_osw h9 (by decide)).trans ((lv_osw h11 (by decide)).trans rfl)))) (by decide) ?_
    refine lv_iconst (v := 1) hx hb d_Ch_isOperandFit_122 (by decide) ?_
    exact W.zret hx hb hr rfl (fun t ht hW => ⟨_, rfl, (by rw [m_Ch_isOperandFit, if_pos h1, if_pos h3, if_neg h4, if_neg h7, if_neg h9, if_neg h11]), ht⟩) (fun _ h => by cases h) d_Ch_isOperandFit_123
  refine lv_lload_n hx hb d_Ch_isOperandFit_14 rfl (lv_at hl 1 rfl) ?_
  refine lv_ldc2 (v := 16) hx hb hown (hts _ wd_391) d_Ch_isOperandFit_15 ?_
  refine W.lcmp hx hb d_Ch_isOperandFit_18 ?_
  refine lv_if_ge (tgt := 26) hx hb d_Ch_isOperandFit_19 (by decide) (fun h13 => ?_) (fun h13 => ?_)
  · refine lv_iconst (v := 0) hx hb d_Ch_isOperandFit_26 (by decide) ?_
    exact W.zret hx hb hr rfl (fun t ht hW => ⟨_, rfl, (by rw [m_Ch_isOperandFit, if_pos h1, if_neg h3, if_pos h13]), ht⟩) (fun _ h => by cases h) d_Ch_isOperandFit_27
  refine lv_iconst (v := 1) hx hb d_Ch_isOperandFit_22 (by decide) ?_
  refine lv_goto (tgt := 27) hx hb d_Ch_isOperandFit_23 (by decide) ?_
  exact W.zret hx hb hr rfl (fun t ht hW => ⟨_, rfl, (by rw [m_Ch_isOperandFit, if_pos h1, if_neg h3, if_neg h13]), ht⟩) (fun _ h => by cases h) d_Ch_isOperandFit_27
def m_Ch_longestSkip (cd : Int32) (z : Int64) : Int64 := if cd = (5 : Int32) then (1 : Int64) + (m_In_operandOf z) else if (m_In_isConditional cd) = (0 : Int32) then (0 : Int64) else ((1 : Int32) + (if (m_In_distanceIfTrue z) < (m_In_distanceIfFalse z) then m_In_distanceIfFalse z else m_In_distanceIfTrue z)).toInt64
set_option maxHeartbeats 4000000 in
set_option maxRecDepth 100000 in
theorem c_Ch_longestSkip (l : Launch) (cd : Int32) (z : Int64) : Met l y_Ch_longestSkip (mW y_Ch_longestSkip b_Ch_longestSkip 5 (some .long)) { frames := 1, cells := 0, slots := 0, locals := 21 } (va_Pc [.int cd, .long z] (fun _ => True)) (vp_Sl (fun r => r = m_Ch_longestSkip cd z)) 0 0 (fun _ => False) := by
  refine Met.ofW (cc := b_Ch_longestSkip) (maxL := 5) (ret := (some .long)) (by decide) rfl ?_
  intro p e s m args below meth c s₁ B hml hv
  obtain ⟨rfl, -⟩ := hv
  have hx := B.exec
  have hb := B.bytes
  have hr := B.returns
  have hlocks := B.notSynchronized
  have hts := fun (w : Cond) (h : w ∈ lw_g) => atoms_spec (ws := mW y_Ch_longestSkip b_Ch_longestSkip 5 (some .long)) B.pre w (List.mem_cons_of_mem _ h)
  have hown : s.vm.findClass R_Ch = some m.cls := findClass_of_methodNamed B.named
  have hl := lv_entry ([.int cd, .long z]) (n := 5) (Nat.le_of_ble_eq_true rfl)
  rw [lg_entry_eq]
  generalize (lg_sl ([.int cd, .long z]) ++ List.replicate (5 - (lg_sl ([.int cd, .long z])).length) Slot.unset).toArray = ls at hl ⊢
  have hl : lv_has ls 5 [(0, .int cd), (1, .long z)] := hl
  refine lv_iload_n hx hb d_Ch_longestSkip_0 rfl (lv_at hl 0 rfl) ?_
  refine lv_iconst (v := 5) hx hb d_Ch_longestSkip_1 (by decide) ?_
  refine lv_icmp_ne (tgt := 12) hx hb d_Ch_longestSkip_2 (by decide) (fun h1 => ?_) (fun h1 => ?_)
  · refine lv_iload_n hx hb d_Ch_longestSkip_12 rfl (lv_at hl 0 rfl) ?_
    refine vp_callSi (va_Run.run (va_runS (As := [.int cd]) (rest := []) ⟨hx, hb, hml, hown, hts⟩ (c_In_isConditional l cd) (va_cwS 1 hts (g_S wd_398 wd_374 wd_36 wd_375) rfl rfl rfl (by decide +kernel) ⟨Nat.le_of_ble_eq_true rfl, Nat.le_of_ble_eq_true rfl⟩) ⟨fun _ _ _ _ q => q, fun _ _ _ => ⟨rfl, trivial⟩⟩ rfl rfl hl.1 rfl (lv_room (Nat.le_of_ble_eq_true rfl)) d_Ch_longestSkip_13 ⟨Nat.le_of_ble_eq_true rfl, Nat.le_of_ble_eq_true rfl⟩)) (fun r1 e1 => ?_)
    subst e1
    refine lv_if_ne (tgt := 21) hx hb d_Ch_longestSkip_16 (by decide) (fun h2 => ?_) (fun h2 => ?_)
    · refine lv_lload_n hx hb d_Ch_longestSkip_21 rfl (lv_at hl 1 rfl) ?_
      refine vp_callSi (va_Run.run (va_runS (As := [.long z]) (rest := []) ⟨hx, hb, hml, hown, hts⟩ (c_In_distanceIfTrue l z) (va_cwS 1 hts (g_S wd_399 wd_400 wd_36 wd_401) rfl rfl rfl (by decide +kernel) ⟨Nat.le_of_ble_eq_true rfl, Nat.le_of_ble_eq_true rfl⟩) ⟨fun _ _ _ _ q => q, fun _ _ _ => ⟨rfl, trivial⟩⟩ rfl rfl hl.1 rfl (lv_room (Nat.le_of_ble_eq_true rfl)) d_Ch_longestSkip_22 ⟨Nat.le_of_ble_eq_true rfl, Nat.le_of_ble_eq_true rfl⟩)) (fun r2 e2 => ?_)
      subst e2
      refine lv_istore_n hx hb d_Ch_longestSkip_25 rfl hl (by decide) rfl (fun ls hl => ?_)
      have hl : lv_has ls 5 [(3, .int (m_In_distanceIfTrue z)), (0, .int cd), (1, .long z)] := hl
      refine lv_lload_n hx hb d_Ch_longestSkip_26 rfl (lv_at hl 2 rfl) ?_
      refine vp_callSi (va_Run.run (va_runS (As := [.long z]) (rest := []) ⟨hx, hb, hml, hown, hts⟩ (c_In_distanceIfFalse l z) (va_cwS 1 hts (g_S wd_403 wd_404 wd_36 wd_405) rfl rfl rfl (by decide +kernel) ⟨Nat.le_of_ble_eq_true rfl, Nat.le_of_ble_eq_true rfl⟩) ⟨fun _ _ _ _ q => q, fun _ _ _ => ⟨rfl, trivial⟩⟩ rfl rfl hl.1 rfl (lv_room (Nat.le_of_ble_eq_true rfl)) d_Ch_longestSkip_27 ⟨Nat.le_of_ble_eq_true rfl, Nat.le_of_ble_eq_true rfl⟩)) (fun r3 e3 => ?_)
      subst e3
      refine lv_istore hx hb d_Ch_longestSkip_30 hl (by decide) rfl (fun ls hl => ?_)
      have hl : lv_has ls 5 [(4, .int (m_In_distanceIfFalse z)), (3, .int (m_In_distanceIfTrue z)), (0, .int cd), (1, .long z)] := hl
      refine lv_iconst (v := 1) hx hb d_Ch_longestSkip_32 (by decide) ?_
      refine lv_iload_n hx hb d_Ch_longestSkip_33 rfl (lv_at hl 1 rfl) ?_
      refine lv_iload hx hb d_Ch_longestSkip_34 (lv_at hl 0 rfl) ?_
      refine va_mmax hx hb (hml.trans hl.1.symm) hown (hts _ wd_406) (hts _ wd_407) (hts _ wd_37) (hts _ wd_408) (Nat.le_of_ble_eq_true rfl) (Nat.le_of_ble_eq_true rfl) (Nat.le_refl _) (Nat.le_refl _) d_Ch_longestSkip_36 ?_
      refine lv_iadd hx hb d_Ch_longestSkip_39 ?_
      refine lv_i2l hx hb d_Ch_longestSkip_40 rfl ?_
      exact W.lret hx hb hr (fun t ht hW => ⟨_, rfl, (by rw [m_Ch_longestSkip, if_neg h1, if_neg h2]), ht⟩) (fun _ h => by cases h) d_Ch_longestSkip_41
    refine lv_lconst (v := 0) hx hb d_Ch_longestSkip_19 (by decide) ?_
    exact W.lret hx hb hr (fun t ht hW => ⟨_, rfl, (by rw [m_Ch_longestSkip, if_neg h1, if_pos h2]), ht⟩) (fun _ h => by cases h) d_Ch_longestSkip_20
  refine lv_lconst (v := 1) hx hb d_Ch_longestSkip_5 (by decide) ?_
  refine lv_lload_n hx hb d_Ch_longestSkip_6 rfl (lv_at hl 1 rfl) ?_
  refine vp_callSl (va_Run.run (va_runS (As := [.long z]) (rest := [.long (1 : Int64)]) ⟨hx, hb, hml, hown, hts⟩ (c_In_operandOf l z) (va_cwS 1 hts (g_S wd_379 wd_380 wd_36 wd_381) rfl rfl rfl (by decide +kernel) ⟨Nat.le_of_ble_eq_true rfl, Nat.le_of_ble_eq_true rfl⟩) ⟨fun _ _ _ _ q => q, fun _ _ _ => ⟨rfl, trivial⟩⟩ rfl rfl hl.1 rfl (lv_room (Nat.le_of_ble_eq_true rfl)) d_Ch_longestSkip_7 ⟨Nat.le_of_ble_eq_true rfl, Nat.le_of_ble_eq_true rfl⟩)) (fun r4 e4 => ?_)
  subst e4
  refine lv_ladd hx hb d_Ch_longestSkip_10 ?_
  exact W.lret hx hb hr (fun t ht hW => ⟨_, rfl, (by rw [m_Ch_longestSkip, if_pos h1]), ht⟩) (fun _ h => by cases h) d_Ch_longestSkip_11
theorem z_below (u v : Int64) : narrow .boolean (.int (m_Co_isBelow u v)) = .int (m_Co_isBelow u v) := by
  unfold m_Co_isBelow
  split <;> rfl
/-! What the helpers answer, as numbers -/
theorem uN_s16 (x : Int64) : uN (x.toUInt64 >>> ((16 : Int32).toInt64.toUInt64 &&& Int64.toUInt64 63)).toInt64 = uN x / 65536 := by
  have h : ((16 : Int32).toInt64.toUInt64 &&& Int64.toUInt64 63).toNat % 64 = 16 := by decide
  rw [uN_shr, h]
theorem uN_s24 (x : Int64) : uN (x.toUInt64 >>> ((24 : Int32).toInt64.toUInt64 &&& Int64.toUInt64 63)).toInt64 = uN x / 16777216 := by
  have h : ((24 : Int32).toInt64.toUInt64 &&& Int64.toUInt64 63).toNat % 64 = 24 := by decide
  rw [uN_shr, h]
theorem un_n (v : Int32) : uN (m_F_unsigned v) = iN v := by
  unfold m_F_unsigned
  exact uN_ext v
theorem code_n (z : Int64) : iN (m_In_codeOf z) = uN z % 65536 := by
  unfold m_In_codeOf
  rw [iN_tr, uN_m16]
  omega
theorem opnd_n (z : Int64) : uN (m_In_operandOf z) = uN z / 4294967296 := by
  unfold m_In_operandOf
  exact uN_s32 z
theorem dT_n (z : Int64) : iN (m_In_distanceIfTrue z) = uN z / 65536 % 256 := by
  unfold m_In_distanceIfTrue
  rw [iN_tr, uN_m8, uN_s16]
  omega
theorem dF_n (z : Int64) : iN (m_In_distanceIfFalse z) = uN z / 16777216 % 256 := by
  unfold m_In_distanceIfFalse
  rw [iN_tr, uN_m8, uN_s24]
  omega
/-! The known codes -/
def KL : List Int32 := [0, 32, 96, 128, 1, 97, 129, 2, 3, 7, 135, 5, 4, 20, 36, 52, 68, 84, 100, 116, 132, 164, 12, 28, 44, 60, 76, 92, 108, 124, 172, 21, 37, 53, 69, 29, 45, 61, 77, 6, 22]
theorem kl_not {cd : Int32} (h : ¬ cd ∈ KL) {x : Int32} (hx : x ∈ KL) : ¬ cd = x := fun q => h (by rw [q]; exact hx)
theorem ar_in (cd : Int32) : m_In_isArithmetic cd = 0 ∨ cd ∈ KL := by
  by_cases h : cd ∈ KL
  · exact Or.inr h
  · left
    simp only [KL, List.mem_cons, List.not_mem_nil, or_false, not_or] at h
    simp [m_In_isArithmetic, h]
theorem co_in (cd : Int32) : m_In_isConditional cd = 0 ∨ cd ∈ KL := by
  by_cases h : cd ∈ KL
  · exact Or.inr h
  · left
    simp only [KL, List.mem_cons, List.not_mem_nil, or_false, not_or] at h
    simp [m_In_isConditional, h]
theorem en_in (cd : Int32) : m_In_endsRun cd = 0 ∨ cd ∈ KL := by
  by_cases h : cd ∈ KL
  · exact Or.inr h
  · left
    simp only [KL, List.mem_cons, List.not_mem_nil, or_false, not_or] at h
    simp [m_In_endsRun, h]
theorem known_in {cd : Int32} (h0 : ¬ m_In_isKnown cd = 0) : cd ∈ KL := by
  by_cases h : cd ∈ KL
  · exact h
  · exfalso
    apply h0
    have ha := (ar_in cd).resolve_right h
    have hc := (co_in cd).resolve_right h
    have he := (en_in cd).resolve_right h
    simp only [KL, List.mem_cons, List.not_mem_nil, or_false, not_or] at h
    simp [m_In_isKnown, h, ha, hc, he]
/-! What an instruction's operand must be, for the machine and for the checker's row -/
def OKz (z : Int64) : Prop :=
  ((m_In_codeOf z &&& (7 : Int32) = (0 : Int32) ∨ m_In_codeOf z &&& (7 : Int32) = (1 : Int32)) → m_In_codeOf z &&& (240 : Int32) = (32 : Int32) → vp_in ((m_In_operandOf z).toInt32 / (4 : Int32)) 16) ∧
  ((m_In_codeOf z &&& (7 : Int32) = (0 : Int32) ∨ m_In_codeOf z &&& (7 : Int32) = (1 : Int32)) → m_In_codeOf z &&& (240 : Int32) = (96 : Int32) → vp_in (m_In_operandOf z).toInt32 16) ∧
  ((m_In_codeOf z &&& (7 : Int32) = (2 : Int32) ∨ m_In_codeOf z &&& (7 : Int32) = (3 : Int32)) → vp_in (m_In_operandOf z).toInt32 16)
theorem okz_w {z : Int64} (h : OKz z) (h1 : m_In_codeOf z &&& (7 : Int32) = (0 : Int32) ∨ m_In_codeOf z &&& (7 : Int32) = (1 : Int32)) : m_In_codeOf z &&& (240 : Int32) = (32 : Int32) → vp_in ((m_In_operandOf z).toInt32 / (4 : Int32)) 16 := h.1 h1
theorem okz_c {z : Int64} (h : OKz z) (h1 : m_In_codeOf z &&& (7 : Int32) = (0 : Int32) ∨ m_In_codeOf z &&& (7 : Int32) = (1 : Int32)) : m_In_codeOf z &&& (240 : Int32) = (96 : Int32) → vp_in (m_In_operandOf z).toInt32 16 := h.2.1 h1
theorem okz_s {z : Int64} (h : OKz z) (h1 : m_In_codeOf z &&& (7 : Int32) = (2 : Int32) ∨ m_In_codeOf z &&& (7 : Int32) = (3 : Int32)) : vp_in (m_In_operandOf z).toInt32 16 := h.2.2 h1
def OKp (z : Int64) (nx : Int32) : Prop :=
  (m_In_codeOf z = (5 : Int32) → vp_in (nx + (m_In_operandOf z).toInt32) 64) ∧
  (¬ m_In_codeOf z = (5 : Int32) → ¬ m_In_isConditional (m_In_codeOf z) = (0 : Int32) → vp_in (nx + m_In_distanceIfTrue z) 64 ∧ vp_in (nx + m_In_distanceIfFalse z) 64) ∧
  (¬ m_In_codeOf z = (5 : Int32) → m_In_isConditional (m_In_codeOf z) = (0 : Int32) → m_In_endsRun (m_In_codeOf z) = (0 : Int32) → vp_in nx 64)
theorem okp_k {z : Int64} {nx : Int32} (h : OKp z nx) (h1 : m_In_codeOf z = (5 : Int32)) : vp_in (nx + (m_In_operandOf z).toInt32) 64 := h.1 h1
theorem okp_t {z : Int64} {nx : Int32} (h : OKp z nx) (h1 : ¬ m_In_codeOf z = (5 : Int32)) (h2 : ¬ m_In_isConditional (m_In_codeOf z) = (0 : Int32)) : vp_in (nx + m_In_distanceIfTrue z) 64 := (h.2.1 h1 h2).1
theorem okp_f {z : Int64} {nx : Int32} (h : OKp z nx) (h1 : ¬ m_In_codeOf z = (5 : Int32)) (h2 : ¬ m_In_isConditional (m_In_codeOf z) = (0 : Int32)) : vp_in (nx + m_In_distanceIfFalse z) 64 := (h.2.1 h1 h2).2
theorem okp_n {z : Int64} {nx : Int32} (h : OKp z nx) (h1 : ¬ m_In_codeOf z = (5 : Int32)) (h2 : m_In_isConditional (m_In_codeOf z) = (0 : Int32)) (h3 : m_In_endsRun (m_In_codeOf z) = (0 : Int32)) : vp_in nx 64 := h.2.2 h1 h2 h3
/-! Bounds of loops -/
theorem nj_lt {x : Int32} {j K : Nat} (hx : iN x ≤ K) (hK : K < 2147483648) (hj : j ≤ K) (h : ¬ x ≤ nI j) : j < iN x := by
  have e : iN (nI j) = j := by rw [iN_nI]; omega
  rw [le_n (by omega) (by omega), e] at h
  omega
theorem ix_arg {i : Int32} (h : ¬ m_Ca_hasArgument i = (0 : Int32)) : vp_in i 6 := by
  unfold m_Ca_hasArgument at h
  revert h
  repeat' split
  all_goals intro h
  all_goals first | exact absurd rfl h | (refine ix_b (M := 6) rfl ?_ ?_ <;> assumption)
theorem ix_rules {x : Int32} (hn : iN x ≤ 6) (h : x < (6 : Int32)) : vp_in x 6 := by
  rw [lt_n (by omega) (by decide)] at h
  have e : iN (6 : Int32) = 6 := rfl
  rw [vp_in_iff, iN_int]
  omega
theorem ix_last {x : Int32} (hn : iN x ≤ 6) (h : ¬ x = (0 : Int32)) : vp_in (x - (1 : Int32)) 6 := by
  have h0 : ¬ iN x = 0 := fun q => h (iN_inj q)
  have e : iN (x - (1 : Int32)) = iN x - 1 := by
    rw [iN_sub, show iN (1 : Int32) = 1 from rfl]
    omega
  rw [vp_in_iff, iN_int, e]
  omega
theorem ix_conds {x : Int32} (hn : iN x ≤ 3) (h : x < (3 : Int32)) : vp_in x 3 := by
  rw [lt_n (by omega) (by decide)] at h
  have e : iN (3 : Int32) = 3 := rfl
  rw [vp_in_iff, iN_int]
  omega
theorem ix_lastI {x : Int32} (hn : iN x ≤ 64) (h : ¬ x = (0 : Int32)) : vp_in (x - (1 : Int32)) 64 := by
  have h0 : ¬ iN x = 0 := fun q => h (iN_inj q)
  have e : iN (x - (1 : Int32)) = iN x - 1 := by
    rw [iN_sub, show iN (1 : Int32) = 1 from rfl]
    omega
  rw [vp_in_iff, iN_int, e]
  omega
theorem n_pos {x : Int32} (h : ¬ x = (0 : Int32)) : 0 < iN x := Nat.pos_of_ne_zero (fun q => h (iN_inj q))
theorem un_ne {v : Int32} (h : ¬ v = (0 : Int32)) : ¬ m_F_unsigned v = 0 := by
  intro q
  have h1 := un_n v
  rw [q] at h1
  exact h (iN_inj (h1.symm.trans rfl))
end
section
theorem wd_26 : Cond.initialized R_F ∈ lw_g := wd_in (i := 26) (by decide +kernel) (by decide +kernel)
theorem wd_27 : Cond.initialized R_Ca ∈ lw_g := wd_in (i := 27) (by decide +kernel) (by decide +kernel)
theorem wd_52 : Cond.fieldLink R_Ca 9 R_Ca "words" "[I" ∈ lw_g := wd_in (i := 52) (by decide +kernel) (by decide +kernel)
theorem wd_53 : Cond.fieldLink R_F 46 R_Ca "words" "[I" ∈ lw_g := wd_in (i := 53) (by decide +kernel) (by decide +kernel)
theorem wd_133 : Cond.fieldLink R_F 65 R_Po "count" "I" ∈ lw_g := wd_in (i := 133) (by decide +kernel) (by decide +kernel)
theorem wd_155 : Cond.fieldLink R_F 112 R_Pr "instructions" "[J" ∈ lw_g := wd_in (i := 155) (by decide +kernel) (by decide +kernel)
theorem wd_158 : Cond.fieldLink R_F 111 R_Pr "count" "I" ∈ lw_g := wd_in (i := 158) (by decide +kernel) (by decide +kernel)
theorem wd_184 : Cond.fieldLink R_F 129 R_Ma "done" "I" ∈ lw_g := wd_in (i := 184) (by decide +kernel) (by decide +kernel)
theorem wd_208 : Cond.fieldLink R_F 10 R_F "call" "LCallFilter$Call;" ∈ lw_g := wd_in (i := 208) (by decide +kernel) (by decide +kernel)
theorem wd_209 : Cond.fieldLink R_F 21 R_F "policy" "LCallFilter$Policy;" ∈ lw_g := wd_in (i := 209) (by decide +kernel) (by decide +kernel)
theorem wd_210 : Cond.fieldLink R_F 28 R_F "program" "LCallFilter$Program;" ∈ lw_g := wd_in (i := 210) (by decide +kernel) (by decide +kernel)
theorem wd_212 : Cond.fieldLink R_F 42 R_F "machine" "LCallFilter$Machine;" ∈ lw_g := wd_in (i := 212) (by decide +kernel) (by decide +kernel)
theorem wd_232 : Cond.methodLink R_F 50 y_Ca_hasArgument ∈ lw_g := wd_in (i := 232) (by decide +kernel) (by decide +kernel)
theorem wd_233 : Cond.static y_Ca_hasArgument ∈ lw_g := wd_in (i := 233) (by decide +kernel) (by decide +kernel)
theorem wd_234 : Cond.code y_Ca_hasArgument prog_3_method_2_code 1 (Option.some Jvm.ClassFile.FieldType.boolean) ∈ lw_g := wd_in (i := 234) (by decide +kernel) (by decide +kernel)
theorem wd_235 : Cond.methodLink R_F 54 y_Ca_setArgument ∈ lw_g := wd_in (i := 235) (by decide +kernel) (by decide +kernel)
theorem wd_236 : Cond.instanceMethod y_Ca_setArgument ∈ lw_g := wd_in (i := 236) (by decide +kernel) (by decide +kernel)
theorem wd_237 : Cond.selects R_Ca y_Ca_setArgument y_Ca_setArgument ∈ lw_g := wd_in (i := 237) (by decide +kernel) (by decide +kernel)
theorem wd_238 : Cond.code y_Ca_setArgument prog_3_method_3_code 5 (Option.none : Option Jvm.ClassFile.FieldType) ∈ lw_g := wd_in (i := 238) (by decide +kernel) (by decide +kernel)
theorem wd_296 : Cond.methodLink R_Ca 19 y_Ca_number ∈ lw_g := wd_in (i := 296) (by decide +kernel) (by decide +kernel)
theorem wd_297 : Cond.instanceMethod y_Ca_number ∈ lw_g := wd_in (i := 297) (by decide +kernel) (by decide +kernel)
theorem wd_298 : Cond.selects R_Ca y_Ca_number y_Ca_number ∈ lw_g := wd_in (i := 298) (by decide +kernel) (by decide +kernel)
theorem wd_299 : Cond.code y_Ca_number prog_3_method_5_code 1 (Option.some Jvm.ClassFile.FieldType.int) ∈ lw_g := wd_in (i := 299) (by decide +kernel) (by decide +kernel)
theorem wd_301 : Cond.static y_F_unsigned ∈ lw_g := wd_in (i := 301) (by decide +kernel) (by decide +kernel)
theorem wd_302 : Cond.code y_F_unsigned prog_1_method_17_code 1 (Option.some Jvm.ClassFile.FieldType.long) ∈ lw_g := wd_in (i := 302) (by decide +kernel) (by decide +kernel)
theorem wd_304 : Cond.constantLong R_Ca 23 1073741824 ∈ lw_g := wd_in (i := 304) (by decide +kernel) (by decide +kernel)
theorem d_Ca_setArgument_0 : decode b_Ca_setArgument 0 = .ok (.iconst 4, 1) := by decide +kernel
theorem d_Ca_setArgument_1 : decode b_Ca_setArgument 1 = .ok (.iconst 2, 1) := by decide +kernel
theorem d_Ca_setArgument_2 : decode b_Ca_setArgument 2 = .ok (.iload_n 1, 1) := by decide +kernel
theorem d_Ca_setArgument_3 : decode b_Ca_setArgument 3 = .ok (.imul, 1) := by decide +kernel
theorem d_Ca_setArgument_4 : decode b_Ca_setArgument 4 = .ok (.iadd, 1) := by decide +kernel
theorem d_Ca_setArgument_5 : decode b_Ca_setArgument 5 = .ok (.istore 4, 2) := by decide +kernel
theorem d_Ca_setArgument_7 : decode b_Ca_setArgument 7 = .ok (.aload_n 0, 1) := by decide +kernel
theorem d_Ca_setArgument_8 : decode b_Ca_setArgument 8 = .ok (.getfield 9, 3) := by decide +kernel
theorem d_Ca_setArgument_11 : decode b_Ca_setArgument 11 = .ok (.iload 4, 2) := by decide +kernel
theorem d_Ca_setArgument_13 : decode b_Ca_setArgument 13 = .ok (.lload_n 2, 1) := by decide +kernel
theorem d_Ca_setArgument_14 : decode b_Ca_setArgument 14 = .ok (.l2i, 1) := by decide +kernel
theorem d_Ca_setArgument_15 : decode b_Ca_setArgument 15 = .ok (.iastore, 1) := by decide +kernel
theorem d_Ca_setArgument_16 : decode b_Ca_setArgument 16 = .ok (.aload_n 0, 1) := by decide +kernel
theorem d_Ca_setArgument_17 : decode b_Ca_setArgument 17 = .ok (.getfield 9, 3) := by decide +kernel
theorem d_Ca_setArgument_20 : decode b_Ca_setArgument 20 = .ok (.iload 4, 2) := by decide +kernel
theorem d_Ca_setArgument_22 : decode b_Ca_setArgument 22 = .ok (.iconst 1, 1) := by decide +kernel
theorem d_Ca_setArgument_23 : decode b_Ca_setArgument 23 = .ok (.iadd, 1) := by decide +kernel
theorem d_Ca_setArgument_24 : decode b_Ca_setArgument 24 = .ok (.lload_n 2, 1) := by decide +kernel
theorem d_Ca_setArgument_25 : decode b_Ca_setArgument 25 = .ok (.bipush 32, 2) := by decide +kernel
theorem d_Ca_setArgument_27 : decode b_Ca_setArgument 27 = .ok (.lushr, 1) := by decide +kernel
theorem d_Ca_setArgument_28 : decode b_Ca_setArgument 28 = .ok (.l2i, 1) := by decide +kernel
theorem d_Ca_setArgument_29 : decode b_Ca_setArgument 29 = .ok (.iastore, 1) := by decide +kernel
theorem d_Ca_setArgument_30 : decode b_Ca_setArgument 30 = .ok (.return_, 1) := by decide +kernel
theorem d_Ca_getArgument_0 : decode b_Ca_getArgument 0 = .ok (.iconst 4, 1) := by decide +kernel
theorem d_Ca_getArgument_1 : decode b_Ca_getArgument 1 = .ok (.iconst 2, 1) := by decide +kernel
theorem d_Ca_getArgument_2 : decode b_Ca_getArgument 2 = .ok (.iload_n 1, 1) := by decide +kernel
theorem d_Ca_getArgument_3 : decode b_Ca_getArgument 3 = .ok (.imul, 1) := by decide +kernel
theorem d_Ca_getArgument_4 : decode b_Ca_getArgument 4 = .ok (.iadd, 1) := by decide +kernel
theorem d_Ca_getArgument_5 : decode b_Ca_getArgument 5 = .ok (.istore_n 2, 1) := by decide +kernel
theorem d_Ca_getArgument_6 : decode b_Ca_getArgument 6 = .ok (.aload_n 0, 1) := by decide +kernel
theorem d_Ca_getArgument_7 : decode b_Ca_getArgument 7 = .ok (.getfield 9, 3) := by decide +kernel
theorem d_Ca_getArgument_10 : decode b_Ca_getArgument 10 = .ok (.iload_n 2, 1) := by decide +kernel
theorem d_Ca_getArgument_11 : decode b_Ca_getArgument 11 = .ok (.iaload, 1) := by decide +kernel
theorem d_Ca_getArgument_12 : decode b_Ca_getArgument 12 = .ok (.invokestatic 13, 3) := by decide +kernel
theorem d_Ca_getArgument_15 : decode b_Ca_getArgument 15 = .ok (.aload_n 0, 1) := by decide +kernel
theorem d_Ca_getArgument_16 : decode b_Ca_getArgument 16 = .ok (.getfield 9, 3) := by decide +kernel
theorem d_Ca_getArgument_19 : decode b_Ca_getArgument 19 = .ok (.iload_n 2, 1) := by decide +kernel
theorem d_Ca_getArgument_20 : decode b_Ca_getArgument 20 = .ok (.iconst 1, 1) := by decide +kernel
theorem d_Ca_getArgument_21 : decode b_Ca_getArgument 21 = .ok (.iadd, 1) := by decide +kernel
theorem d_Ca_getArgument_22 : decode b_Ca_getArgument 22 = .ok (.iaload, 1) := by decide +kernel
theorem d_Ca_getArgument_23 : decode b_Ca_getArgument 23 = .ok (.invokestatic 13, 3) := by decide +kernel
theorem d_Ca_getArgument_26 : decode b_Ca_getArgument 26 = .ok (.bipush 32, 2) := by decide +kernel
theorem d_Ca_getArgument_28 : decode b_Ca_getArgument 28 = .ok (.lshl, 1) := by decide +kernel
theorem d_Ca_getArgument_29 : decode b_Ca_getArgument 29 = .ok (.lor, 1) := by decide +kernel
theorem d_Ca_getArgument_30 : decode b_Ca_getArgument 30 = .ok (.lreturn, 1) := by decide +kernel
theorem d_Ca_number_0 : decode b_Ca_number 0 = .ok (.aload_n 0, 1) := by decide +kernel
theorem d_Ca_number_1 : decode b_Ca_number 1 = .ok (.getfield 9, 3) := by decide +kernel
theorem d_Ca_number_4 : decode b_Ca_number 4 = .ok (.iconst 0, 1) := by decide +kernel
theorem d_Ca_number_5 : decode b_Ca_number 5 = .ok (.iaload, 1) := by decide +kernel
theorem d_Ca_number_6 : decode b_Ca_number 6 = .ok (.ireturn, 1) := by decide +kernel
theorem d_Ca_isForeignTo_0 : decode b_Ca_isForeignTo 0 = .ok (.aload_n 0, 1) := by decide +kernel
theorem d_Ca_isForeignTo_1 : decode b_Ca_isForeignTo 1 = .ok (.getfield 9, 3) := by decide +kernel
theorem d_Ca_isForeignTo_4 : decode b_Ca_isForeignTo 4 = .ok (.iconst 1, 1) := by decide +kernel
theorem d_Ca_isForeignTo_5 : decode b_Ca_isForeignTo 5 = .ok (.iaload, 1) := by decide +kernel
theorem d_Ca_isForeignTo_6 : decode b_Ca_isForeignTo 6 = .ok (.iload_n 1, 1) := by decide +kernel
theorem d_Ca_isForeignTo_7 : decode b_Ca_isForeignTo 7 = .ok (.if_icmp .ne 17, 3) := by decide +kernel
theorem d_Ca_isForeignTo_10 : decode b_Ca_isForeignTo 10 = .ok (.aload_n 0, 1) := by decide +kernel
theorem d_Ca_isForeignTo_11 : decode b_Ca_isForeignTo 11 = .ok (.invokevirtual 19, 3) := by decide +kernel
theorem d_Ca_isForeignTo_14 : decode b_Ca_isForeignTo 14 = .ok (.invokestatic 13, 3) := by decide +kernel
theorem d_Ca_isForeignTo_17 : decode b_Ca_isForeignTo 17 = .ok (.ldc2_w 23, 3) := by decide +kernel
theorem d_Ca_isForeignTo_20 : decode b_Ca_isForeignTo 20 = .ok (.lcmp, 1) := by decide +kernel
theorem d_Ca_isForeignTo_21 : decode b_Ca_isForeignTo 21 = .ok (.ifCond .lt 7, 3) := by decide +kernel
theorem d_Ca_isForeignTo_24 : decode b_Ca_isForeignTo 24 = .ok (.iconst 1, 1) := by decide +kernel
theorem d_Ca_isForeignTo_25 : decode b_Ca_isForeignTo 25 = .ok (.goto 4, 3) := by decide +kernel
theorem d_Ca_isForeignTo_28 : decode b_Ca_isForeignTo 28 = .ok (.iconst 0, 1) := by decide +kernel
theorem d_Ca_isForeignTo_29 : decode b_Ca_isForeignTo 29 = .ok (.ireturn, 1) := by decide +kernel
theorem d_F_word_0 : decode b_F_word 0 = .ok (.iload_n 1, 1) := by decide +kernel
theorem d_F_word_1 : decode b_F_word 1 = .ok (.ifCond .lt 9, 3) := by decide +kernel
theorem d_F_word_4 : decode b_F_word 4 = .ok (.iload_n 1, 1) := by decide +kernel
theorem d_F_word_5 : decode b_F_word 5 = .ok (.bipush 16, 2) := by decide +kernel
theorem d_F_word_7 : decode b_F_word 7 = .ok (.if_icmp .lt 5, 3) := by decide +kernel
theorem d_F_word_10 : decode b_F_word 10 = .ok (.iconst 0, 1) := by decide +kernel
theorem d_F_word_11 : decode b_F_word 11 = .ok (.ireturn, 1) := by decide +kernel
theorem d_F_word_12 : decode b_F_word 12 = .ok (.aload_n 0, 1) := by decide +kernel
theorem d_F_word_13 : decode b_F_word 13 = .ok (.getfield 10, 3) := by decide +kernel
theorem d_F_word_16 : decode b_F_word 16 = .ok (.getfield 46, 3) := by decide +kernel
theorem d_F_word_19 : decode b_F_word 19 = .ok (.iload_n 1, 1) := by decide +kernel
theorem d_F_word_20 : decode b_F_word 20 = .ok (.iload_n 2, 1) := by decide +kernel
theorem d_F_word_21 : decode b_F_word 21 = .ok (.iastore, 1) := by decide +kernel
theorem d_F_word_22 : decode b_F_word 22 = .ok (.iconst 1, 1) := by decide +kernel
theorem d_F_word_23 : decode b_F_word 23 = .ok (.ireturn, 1) := by decide +kernel
theorem d_F_argument_0 : decode b_F_argument 0 = .ok (.iload_n 1, 1) := by decide +kernel
theorem d_F_argument_1 : decode b_F_argument 1 = .ok (.invokestatic 50, 3) := by decide +kernel
theorem d_F_argument_4 : decode b_F_argument 4 = .ok (.ifCond .ne 5, 3) := by decide +kernel
theorem d_F_argument_7 : decode b_F_argument 7 = .ok (.iconst 0, 1) := by decide +kernel
theorem d_F_argument_8 : decode b_F_argument 8 = .ok (.ireturn, 1) := by decide +kernel
theorem d_F_argument_9 : decode b_F_argument 9 = .ok (.aload_n 0, 1) := by decide +kernel
theorem d_F_argument_10 : decode b_F_argument 10 = .ok (.getfield 10, 3) := by decide +kernel
theorem d_F_argument_13 : decode b_F_argument 13 = .ok (.iload_n 1, 1) := by decide +kernel
theorem d_F_argument_14 : decode b_F_argument 14 = .ok (.lload_n 2, 1) := by decide +kernel
theorem d_F_argument_15 : decode b_F_argument 15 = .ok (.invokevirtual 54, 3) := by decide +kernel
theorem d_F_argument_18 : decode b_F_argument 18 = .ok (.iconst 1, 1) := by decide +kernel
theorem d_F_argument_19 : decode b_F_argument 19 = .ok (.ireturn, 1) := by decide +kernel
theorem d_F_length_0 : decode b_F_length 0 = .ok (.aload_n 0, 1) := by decide +kernel
theorem d_F_length_1 : decode b_F_length 1 = .ok (.getfield 28, 3) := by decide +kernel
theorem d_F_length_4 : decode b_F_length 4 = .ok (.getfield 111, 3) := by decide +kernel
theorem d_F_length_7 : decode b_F_length 7 = .ok (.ireturn, 1) := by decide +kernel
theorem d_F_steps_0 : decode b_F_steps 0 = .ok (.aload_n 0, 1) := by decide +kernel
theorem d_F_steps_1 : decode b_F_steps 1 = .ok (.getfield 42, 3) := by decide +kernel
theorem d_F_steps_4 : decode b_F_steps 4 = .ok (.getfield 129, 3) := by decide +kernel
theorem d_F_steps_7 : decode b_F_steps 7 = .ok (.ireturn, 1) := by decide +kernel
theorem d_F_put_0 : decode b_F_put 0 = .ok (.aload_n 0, 1) := by decide +kernel
theorem d_F_put_1 : decode b_F_put 1 = .ok (.getfield 28, 3) := by decide +kernel
theorem d_F_put_4 : decode b_F_put 4 = .ok (.getfield 111, 3) := by decide +kernel
theorem d_F_put_7 : decode b_F_put 7 = .ok (.bipush 64, 2) := by decide +kernel
theorem d_F_put_9 : decode b_F_put 9 = .ok (.if_icmp .lt 5, 3) := by decide +kernel
theorem d_F_put_12 : decode b_F_put 12 = .ok (.iconst 0, 1) := by decide +kernel
theorem d_F_put_13 : decode b_F_put 13 = .ok (.ireturn, 1) := by decide +kernel
theorem d_F_put_14 : decode b_F_put 14 = .ok (.aload_n 0, 1) := by decide +kernel
theorem d_F_put_15 : decode b_F_put 15 = .ok (.getfield 28, 3) := by decide +kernel
theorem d_F_put_18 : decode b_F_put 18 = .ok (.getfield 112, 3) := by decide +kernel
theorem d_F_put_21 : decode b_F_put 21 = .ok (.aload_n 0, 1) := by decide +kernel
theorem d_F_put_22 : decode b_F_put 22 = .ok (.getfield 28, 3) := by decide +kernel
theorem d_F_put_25 : decode b_F_put 25 = .ok (.getfield 111, 3) := by decide +kernel
theorem d_F_put_28 : decode b_F_put 28 = .ok (.lload_n 1, 1) := by decide +kernel
theorem d_F_put_29 : decode b_F_put 29 = .ok (.lastore, 1) := by decide +kernel
theorem d_F_put_30 : decode b_F_put 30 = .ok (.aload_n 0, 1) := by decide +kernel
theorem d_F_put_31 : decode b_F_put 31 = .ok (.getfield 28, 3) := by decide +kernel
theorem d_F_put_34 : decode b_F_put 34 = .ok (.dup, 1) := by decide +kernel
theorem d_F_put_35 : decode b_F_put 35 = .ok (.getfield 111, 3) := by decide +kernel
theorem d_F_put_38 : decode b_F_put 38 = .ok (.iconst 1, 1) := by decide +kernel
theorem d_F_put_39 : decode b_F_put 39 = .ok (.iadd, 1) := by decide +kernel
theorem d_F_put_40 : decode b_F_put 40 = .ok (.putfield 111, 3) := by decide +kernel
theorem d_F_put_43 : decode b_F_put 43 = .ok (.iconst 1, 1) := by decide +kernel
theorem d_F_put_44 : decode b_F_put 44 = .ok (.ireturn, 1) := by decide +kernel
theorem d_F_cut_0 : decode b_F_cut 0 = .ok (.iload_n 1, 1) := by decide +kernel
theorem d_F_cut_1 : decode b_F_cut 1 = .ok (.ifCond .lt 14, 3) := by decide +kernel
theorem d_F_cut_4 : decode b_F_cut 4 = .ok (.iload_n 1, 1) := by decide +kernel
theorem d_F_cut_5 : decode b_F_cut 5 = .ok (.aload_n 0, 1) := by decide +kernel
theorem d_F_cut_6 : decode b_F_cut 6 = .ok (.getfield 28, 3) := by decide +kernel
theorem d_F_cut_9 : decode b_F_cut 9 = .ok (.getfield 111, 3) := by decide +kernel
theorem d_F_cut_12 : decode b_F_cut 12 = .ok (.if_icmp .le 5, 3) := by decide +kernel
theorem d_F_cut_15 : decode b_F_cut 15 = .ok (.iconst (-1), 1) := by decide +kernel
theorem d_F_cut_16 : decode b_F_cut 16 = .ok (.ireturn, 1) := by decide +kernel
theorem d_F_cut_17 : decode b_F_cut 17 = .ok (.aload_n 0, 1) := by decide +kernel
theorem d_F_cut_18 : decode b_F_cut 18 = .ok (.getfield 28, 3) := by decide +kernel
theorem d_F_cut_21 : decode b_F_cut 21 = .ok (.dup, 1) := by decide +kernel
theorem d_F_cut_22 : decode b_F_cut 22 = .ok (.getfield 111, 3) := by decide +kernel
theorem d_F_cut_25 : decode b_F_cut 25 = .ok (.iload_n 1, 1) := by decide +kernel
theorem d_F_cut_26 : decode b_F_cut 26 = .ok (.isub, 1) := by decide +kernel
theorem d_F_cut_27 : decode b_F_cut 27 = .ok (.putfield 111, 3) := by decide +kernel
theorem d_F_cut_30 : decode b_F_cut 30 = .ok (.aload_n 0, 1) := by decide +kernel
theorem d_F_cut_31 : decode b_F_cut 31 = .ok (.getfield 28, 3) := by decide +kernel
theorem d_F_cut_34 : decode b_F_cut 34 = .ok (.getfield 111, 3) := by decide +kernel
theorem d_F_cut_37 : decode b_F_cut 37 = .ok (.ireturn, 1) := by decide +kernel
theorem d_F_withdraw_0 : decode b_F_withdraw 0 = .ok (.aload_n 0, 1) := by decide +kernel
theorem d_F_withdraw_1 : decode b_F_withdraw 1 = .ok (.getfield 21, 3) := by decide +kernel
theorem d_F_withdraw_4 : decode b_F_withdraw 4 = .ok (.getfield 65, 3) := by decide +kernel
theorem d_F_withdraw_7 : decode b_F_withdraw 7 = .ok (.ifCond .ne 5, 3) := by decide +kernel
theorem d_F_withdraw_10 : decode b_F_withdraw 10 = .ok (.iconst (-1), 1) := by decide +kernel
theorem d_F_withdraw_11 : decode b_F_withdraw 11 = .ok (.ireturn, 1) := by decide +kernel
theorem d_F_withdraw_12 : decode b_F_withdraw 12 = .ok (.aload_n 0, 1) := by decide +kernel
theorem d_F_withdraw_13 : decode b_F_withdraw 13 = .ok (.getfield 21, 3) := by decide +kernel
theorem d_F_withdraw_16 : decode b_F_withdraw 16 = .ok (.dup, 1) := by decide +kernel
theorem d_F_withdraw_17 : decode b_F_withdraw 17 = .ok (.getfield 65, 3) := by decide +kernel
theorem d_F_withdraw_20 : decode b_F_withdraw 20 = .ok (.iconst 1, 1) := by decide +kernel
theorem d_F_withdraw_21 : decode b_F_withdraw 21 = .ok (.isub, 1) := by decide +kernel
theorem d_F_withdraw_22 : decode b_F_withdraw 22 = .ok (.putfield 65, 3) := by decide +kernel
theorem d_F_withdraw_25 : decode b_F_withdraw 25 = .ok (.aload_n 0, 1) := by decide +kernel
theorem d_F_withdraw_26 : decode b_F_withdraw 26 = .ok (.getfield 21, 3) := by decide +kernel
theorem d_F_withdraw_29 : decode b_F_withdraw 29 = .ok (.getfield 65, 3) := by decide +kernel
theorem d_F_withdraw_32 : decode b_F_withdraw 32 = .ok (.ireturn, 1) := by decide +kernel
def m_Ca_setArgument (w : Nat → Int32) (i : Int32) (v : Int64) : (Nat → Int32) := (upd (upd w ((4 : Int32) + ((2 : Int32) * i)).toNatClampNeg v.toInt32) (((4 : Int32) + ((2 : Int32) * i)) + (1 : Int32)).toNatClampNeg (((v.toUInt64 >>> ((32 : Int32).toInt64.toUInt64 &&& Int64.toUInt64 63)).toInt64).toInt32))
set_option maxHeartbeats 4000000 in
set_option maxRecDepth 100000 in
theorem c_Ca_setArgument (l : Launch) (D : va_G) (dA : Nat → ClassId) (ad : Nat → Nat) (A : Nat → Prop) (hAd : AdOK 49 ad A) (w : Nat → Int32) (P : PT) (g : GT) (ss : Nat → Int32) (M : MT) (i : Int32) (v : Int64) (hi : vp_in i 6) : Met l y_Ca_setArgument (mW y_Ca_setArgument b_Ca_setArgument 5 none) { frames := 0, cells := 0, slots := 0, locals := 0 } (va_Pc [.ref (ad 1), .int i, .long v] (fun U => CG D dA ad w P g ss M U)) (va_Qv (fun u : (Nat → Int32) => u = m_Ca_setArgument w i v) (fun u t => CG D dA ad u P g ss M t) A) 0 0 A := by
  refine Met.ofW (cc := b_Ca_setArgument) (maxL := 5) (ret := none) (by decide) rfl ?_
  intro p e s m args below meth c s₁ B hml hv
  obtain ⟨rfl, hP, hK, hN⟩ := hv
  have hx := B.exec
  have hb := B.bytes
  have hr := B.returns
  have hlocks := B.notSynchronized
  have hts := fun (w : Cond) (h : w ∈ lw_g) => atoms_spec (ws := mW y_Ca_setArgument b_Ca_setArgument 5 none) B.pre w (List.mem_cons_of_mem _ h)
  have hown : s.vm.findClass R_Ca = some m.cls := findClass_of_methodNamed B.named
  have hS : va_S A s.heap s.heap [] := va_S.rf
  have hl := lv_entry ([.ref (ad 1), .int i, .long v]) (n := 5) (Nat.le_of_ble_eq_true rfl)
  rw [lg_entry_eq]
  generalize (lg_sl ([.ref (ad 1), .int i, .long v]) ++ List.replicate (5 - (lg_sl ([.ref (ad 1), .int i, .long v])).length) Slot.unset).toArray = ls at hl ⊢
  have hl : lv_has ls 5 [(0, .ref (ad 1)), (1, .int i), (2, .long v)] := hl
  refine lv_iconst (v := 4) hx hb d_Ca_setArgument_0 (by decide) ?_
  refine lv_iconst (v := 2) hx hb d_Ca_setArgument_1 (by decide) ?_
  refine lv_iload_n hx hb d_Ca_setArgument_2 rfl (lv_at hl 1 rfl) ?_
  refine lv_imul hx hb d_Ca_setArgument_3 ?_
  refine lv_iadd hx hb d_Ca_setArgument_4 ?_
  refine lv_istore hx hb d_Ca_setArgument_5 hl (by decide) rfl (fun ls hl => ?_)
  have hl : lv_has ls 5 [(4, .int ((4 : Int32) + ((2 : Int32) * i))), (0, .ref (ad 1)), (1, .int i), (2, .long v)] := hl
  refine lv_aload_n hx hb d_Ca_setArgument_7 rfl (lv_at hl 1 rfl) ?_
  refine va_get (D := D) (ci := 1) (v := .ref (ad 2)) (C := R_Ca) (T := F_Ca) (N := 1) hx hb hts in_Ca hown hK hP 1 rfl rfl 0 (by decide) (hts _ wd_52) (fun _ h9 => h9) rfl d_Ca_setArgument_8 ?_
  refine lv_iload hx hb d_Ca_setArgument_11 (lv_at hl 0 rfl) ?_
  refine lv_lload_n hx hb d_Ca_setArgument_13 rfl (lv_at hl 3 rfl) ?_
  refine lv_l2i hx hb d_Ca_setArgument_14 rfl ?_
  refine va_iast (n := 16) (f := w) hx hb hK hP (wC_D hAd) hS 2 0 rfl rfl (ix_4 hi) d_Ca_setArgument_15 (fun H locs hP _ hS => ?_)
  have hP : va_P D cls (wC ad dA (upd w ((4 : Int32) + ((2 : Int32) * i)).toNatClampNeg v.toInt32) P g ss M) H := hP
  refine lv_aload_n hx hb d_Ca_setArgument_16 rfl (lv_at hl 1 rfl) ?_
  refine va_get (D := D) (ci := 1) (v := .ref (ad 2)) (C := R_Ca) (T := F_Ca) (N := 1) hx hb hts in_Ca hown hK hP 1 rfl rfl 0 (by decide) (hts _ wd_52) (fun _ h9 => h9) rfl d_Ca_setArgument_17 ?_
  refine lv_iload hx hb d_Ca_setArgument_20 (lv_at hl 0 rfl) ?_
  refine lv_iconst (v := 1) hx hb d_Ca_setArgument_22 (by decide) ?_
  refine lv_iadd hx hb d_Ca_setArgument_23 ?_
  refine lv_lload_n hx hb d_Ca_setArgument_24 rfl (lv_at hl 3 rfl) ?_
  refine lv_bipush (v := 32) hx hb d_Ca_setArgument_25 (by decide) ?_
  refine lv_lushr hx hb d_Ca_setArgument_27 rfl ?_
  refine lv_l2i hx hb d_Ca_setArgument_28 rfl ?_
  refine va_iast (n := 16) (f := upd w ((4 : Int32) + ((2 : Int32) * i)).toNatClampNeg v.toInt32) hx hb hK hP (wC_D hAd) hS 2 0 rfl rfl (ix_5 hi) d_Ca_setArgument_29 (fun H locs hP _ hS => ?_)
  have hP : va_P D cls (wC ad dA (upd (upd w ((4 : Int32) + ((2 : Int32) * i)).toNatClampNeg v.toInt32) (((4 : Int32) + ((2 : Int32) * i)) + (1 : Int32)).toNatClampNeg (((v.toUInt64 >>> ((32 : Int32).toInt64.toUInt64 &&& Int64.toUInt64 63)).toInt64).toInt32)) P g ss M) H := hP
  exact W.vret hx hb hr (fun t ht hW => ⟨⟨_, rfl, (by rw [m_Ca_setArgument]), CG_at hP hK hN ht hW⟩, hS.F ht⟩) hS.2.2 d_Ca_setArgument_30
def m_Ca_getArgument (w : Nat → Int32) (i : Int32) : Int64 := (m_F_unsigned (w ((4 : Int32) + ((2 : Int32) * i)).toNatClampNeg)) ||| ((m_F_unsigned (w (((4 : Int32) + ((2 : Int32) * i)) + (1 : Int32)).toNatClampNeg)) <<< ((32 : Int32).toInt64 &&& 63))
set_option maxHeartbeats 4000000 in
set_option maxRecDepth 100000 in
theorem c_Ca_getArgument (l : Launch) (D : va_G) (dA : Nat → ClassId) (ad : Nat → Nat) (w : Nat → Int32) (P : PT) (g : GT) (ss : Nat → Int32) (M : MT) (i : Int32) (hi : vp_in i 6) : Met l y_Ca_getArgument (mW y_Ca_getArgument b_Ca_getArgument 3 (some .long)) { frames := 1, cells := 0, slots := 0, locals := 20 } (va_Pc [.ref (ad 1), .int i] (fun U => CG D dA ad w P g ss M U)) (vp_Sl (fun r => r = m_Ca_getArgument w i)) 0 0 (fun _ => False) := by
  refine Met.ofW (cc := b_Ca_getArgument) (maxL := 3) (ret := (some .long)) (by decide) rfl ?_
  intro p e s m args below meth c s₁ B hml hv
  obtain ⟨rfl, hP, hK, hN⟩ := hv
  have hx := B.exec
  have hb := B.bytes
  have hr := B.returns
  have hlocks := B.notSynchronized
  have hts := fun (w : Cond) (h : w ∈ lw_g) => atoms_spec (ws := mW y_Ca_getArgument b_Ca_getArgument 3 (some .long)) B.pre w (List.mem_cons_of_mem _ h)
  have hown : s.vm.findClass R_Ca = some m.cls := findClass_of_methodNamed B.named
  have hl := lv_entry ([.ref (ad 1), .int i]) (n := 3) (Nat.le_of_ble_eq_true rfl)
  rw [lg_entry_eq]
  generalize (lg_sl ([.ref (ad 1), .int i]) ++ List.replicate (3 - (lg_sl ([.ref (ad 1), .int i])).length) Slot.unset).toArray = ls at hl ⊢
  have hl : lv_has ls 3 [(0, .ref (ad 1)), (1, .int i)] := hl
  refine lv_iconst (v := 4) hx hb d_Ca_getArgument_0 (by decide) ?_
  refine lv_iconst (v := 2) hx hb d_Ca_getArgument_1 (by decide) ?_
  refine lv_iload_n hx hb d_Ca_getArgument_2 rfl (lv_at hl 1 rfl) ?_
  refine lv_imul hx hb d_Ca_getArgument_3 ?_
  refine lv_iadd hx hb d_Ca_getArgument_4 ?_
  refine lv_istore_n hx hb d_Ca_getArgument_5 rfl hl (by decide) rfl (fun ls hl => ?_)
  have hl : lv_has ls 3 [(2, .int ((4 : Int32) + ((2 : Int32) * i))), (0, .ref (ad 1)), (1, .int i)] := hl
  refine lv_aload_n hx hb d_Ca_getArgument_6 rfl (lv_at hl 1 rfl) ?_
  refine va_get (D := D) (ci := 1) (v := .ref (ad 2)) (C := R_Ca) (T := F_Ca) (N := 1) hx hb hts in_Ca hown hK hP 1 rfl rfl 0 (by decide) (hts _ wd_52) (fun _ h9 => h9) rfl d_Ca_getArgument_7 ?_
  refine lv_iload_n hx hb d_Ca_getArgument_10 rfl (lv_at hl 0 rfl) ?_
  refine va_iald (n := 16) (f := w) hx hb hK hP 2 0 rfl rfl (ix_4 hi) d_Ca_getArgument_11 ?_
  refine vp_callSl (va_Run.run (va_runSN (As := [.int (w ((4 : Int32) + ((2 : Int32) * i)).toNatClampNeg)]) (rest := []) ⟨hx, hb, hml, hown, hts⟩ (c_F_unsigned l (w ((4 : Int32) + ((2 : Int32) * i)).toNatClampNeg)) ⟨va_cnB 1 hts (g_in wd_302) rfl rfl rfl hN.2.2.2.2.2.1 (hts _ wd_26) (by decide +kernel) ⟨Nat.le_of_ble_eq_true rfl, Nat.le_of_ble_eq_true rfl⟩, hts _ wd_301, trivial⟩ ⟨fun _ _ _ _ q => q, fun _ _ _ => ⟨rfl, trivial⟩⟩ rfl rfl hl.1 rfl (lv_room (Nat.le_of_ble_eq_true rfl)) d_Ca_getArgument_12 ⟨Nat.le_of_ble_eq_true rfl, Nat.le_of_ble_eq_true rfl⟩)) (fun r1 e1 => ?_)
  subst e1
  refine lv_aload_n hx hb d_Ca_getArgument_15 rfl (lv_at hl 1 rfl) ?_
  refine va_get (D := D) (ci := 1) (v := .ref (ad 2)) (C := R_Ca) (T := F_Ca) (N := 1) hx hb hts in_Ca hown hK hP 1 rfl rfl 0 (by decide) (hts _ wd_52) (fun _ h9 => h9) rfl d_Ca_getArgument_16 ?_
  refine lv_iload_n hx hb d_Ca_getArgument_19 rfl (lv_at hl 0 rfl) ?_
  refine lv_iconst (v := 1) hx hb d_Ca_getArgument_20 (by decide) ?_
  refine lv_iadd hx hb d_Ca_getArgument_21 ?_
  refine va_iald (n := 16) (f := w) hx hb hK hP 2 0 rfl rfl (ix_5 hi) d_Ca_getArgument_22 ?_
  refine vp_callSl (va_Run.run (va_runSN (As := [.int (w (((4 : Int32) + ((2 : Int32) * i)) + (1 : Int32)).toNatClampNeg)]) (rest := [.long (m_F_unsigned (w ((4 : Int32) + ((2 : Int32) * i)).toNatClampNeg))]) ⟨hx, hb, hml, hown, hts⟩ (c_F_unsigned l (w (((4 : Int32) + ((2 : Int32) * i)) + (1 : Int32)).toNatClampNeg)) ⟨va_cnB 1 hts (g_in wd_302) rfl rfl rfl hN.2.2.2.2.2.1 (hts _ wd_26) (by decide +kernel) ⟨Nat.le_of_ble_eq_true rfl, Nat.le_of_ble_eq_true rfl⟩, hts _ wd_301, trivial⟩ ⟨fun _ _ _ _ q => q, fun _ _ _ => ⟨rfl, trivial⟩⟩ rfl rfl hl.1 rfl (lv_room (Nat.le_of_ble_eq_true rfl)) d_Ca_getArgument_23 ⟨Nat.le_of_ble_eq_true rfl, Nat.le_of_ble_eq_true rfl⟩)) (fun r2 e2 => ?_)
  subst e2
  refine lv_bipush (v := 32) hx hb d_Ca_getArgument_26 (by decide) ?_
  refine lv_lshl hx hb d_Ca_getArgument_28 rfl ?_
  refine lv_lor hx hb d_Ca_getArgument_29 ?_
  exact W.lret hx hb hr (fun t ht hW => ⟨_, rfl, (by rw [m_Ca_getArgument]), ht⟩) (fun _ h => by cases h) d_Ca_getArgument_30
def m_Ca_number (w : Nat → Int32) : Int32 := w 0
set_option maxHeartbeats 4000000 in
set_option maxRecDepth 100000 in
theorem c_Ca_number (l : Launch) (D : va_G) (dA : Nat → ClassId) (ad : Nat → Nat) (w : Nat → Int32) (P : PT) (g : GT) (ss : Nat → Int32) (M : MT) : Met l y_Ca_number (mW y_Ca_number b_Ca_number 1 (some .int)) { frames := 0, cells := 0, slots := 0, locals := 0 } (va_Pc [.ref (ad 1)] (fun U => CG D dA ad w P g ss M U)) (vp_Si (fun r => r = m_Ca_number w)) 0 0 (fun _ => False) := by
  refine Met.ofW (cc := b_Ca_number) (maxL := 1) (ret := (some .int)) (by decide) rfl ?_
  intro p e s m args below meth c s₁ B hml hv
  obtain ⟨rfl, hP, hK, hN⟩ := hv
  have hx := B.exec
  have hb := B.bytes
  have hr := B.returns
  have hlocks := B.notSynchronized
  have hts := fun (w : Cond) (h : w ∈ lw_g) => atoms_spec (ws := mW y_Ca_number b_Ca_number 1 (some .int)) B.pre w (List.mem_cons_of_mem _ h)
  have hown : s.vm.findClass R_Ca = some m.cls := findClass_of_methodNamed B.named
  have hl := lv_entry ([.ref (ad 1)]) (n := 1) (Nat.le_of_ble_eq_true rfl)
  rw [lg_entry_eq]
  generalize (lg_sl ([.ref (ad 1)]) ++ List.replicate (1 - (lg_sl ([.ref (ad 1)])).length) Slot.unset).toArray = ls at hl ⊢
  have hl : lv_has ls 1 [(0, .ref (ad 1))] := hl
  refine lv_aload_n hx hb d_Ca_number_0 rfl (lv_at hl 0 rfl) ?_
  refine va_get (D := D) (ci := 1) (v := .ref (ad 2)) (C := R_Ca) (T := F_Ca) (N := 1) hx hb hts in_Ca hown hK hP 1 rfl rfl 0 (by decide) (hts _ wd_52) (fun _ h9 => h9) rfl d_Ca_number_1 ?_
  refine lv_iconst (v := 0) hx hb d_Ca_number_4 (by decide) ?_
  refine va_iald (n := 16) (f := w) hx hb hK hP 2 0 rfl rfl (vp_in_nI (n := 0) (by decide) (by decide)) d_Ca_number_5 ?_
  refine W.eq (g2 := F0 m 6 ls [.int (w 0)]) rfl ?_
  exact W.iret hx hb hr (fun t ht hW => ⟨_, rfl, (by rw [m_Ca_number]), ht⟩) (fun _ h => by cases h) d_Ca_number_6
def m_Ca_isForeignTo (w : Nat → Int32) (ar : Int32) : Int32 := if (w 1) = ar then if (lg_cmp (m_F_unsigned (m_Ca_number w)) (1073741824 : Int64)) < (0 : Int32) then (0 : Int32) else (1 : Int32) else (1 : Int32)
set_option maxHeartbeats 4000000 in
set_option maxRecDepth 100000 in
theorem c_Ca_isForeignTo (l : Launch) (D : va_G) (dA : Nat → ClassId) (ad : Nat → Nat) (w : Nat → Int32) (P : PT) (g : GT) (ss : Nat → Int32) (M : MT) (ar : Int32) : Met l y_Ca_isForeignTo (mW y_Ca_isForeignTo b_Ca_isForeignTo 2 (some .boolean)) { frames := 1, cells := 0, slots := 0, locals := 20 } (va_Pc [.ref (ad 1), .int ar] (fun U => CG D dA ad w P g ss M U)) (vp_Si (fun r => r = m_Ca_isForeignTo w ar)) 0 0 (fun _ => False) := by
  refine Met.ofW (cc := b_Ca_isForeignTo) (maxL := 2) (ret := (some .boolean)) (by decide) rfl ?_
  intro p e s m args below meth c s₁ B hml hv
  obtain ⟨rfl, hP, hK, hN⟩ := hv
  have hx := B.exec
  have hb := B.bytes
  have hr := B.returns
  have hlocks := B.notSynchronized
  have hts := fun (w : Cond) (h : w ∈ lw_g) => atoms_spec (ws := mW y_Ca_isForeignTo b_Ca_isForeignTo 2 (some .boolean)) B.pre w (List.mem_cons_of_mem _ h)
  have hown : s.vm.findClass R_Ca = some m.cls := findClass_of_methodNamed B.named
  have hl := lv_entry ([.ref (ad 1), .int ar]) (n := 2) (Nat.le_of_ble_eq_true rfl)
  rw [lg_entry_eq]
  generalize (lg_sl ([.ref (ad 1), .int ar]) ++ List.replicate (2 - (lg_sl ([.ref (ad 1), .int ar])).length) Slot.unset).toArray = ls at hl ⊢
  have hl : lv_has ls 2 [(0, .ref (ad 1)), (1, .int ar)] := hl
  refine lv_aload_n hx hb d_Ca_isForeignTo_0 rfl (lv_at hl 0 rfl) ?_
  refine va_get (D := D) (ci := 1) (v := .ref (ad 2)) (C := R_Ca) (T := F_Ca) (N := 1) hx hb hts in_Ca hown hK hP 1 rfl rfl 0 (by decide) (hts _ wd_52) (fun _ h9 => h9) rfl d_Ca_isForeignTo_1 ?_
  refine lv_iconst (v := 1) hx hb d_Ca_isForeignTo_4 (by decide) ?_
  refine va_iald (n := 16) (f := w) hx hb hK hP 2 0 rfl rfl (vp_in_nI (n := 1) (by decide) (by decide)) d_Ca_isForeignTo_5 ?_
  refine W.eq (g2 := F0 m 6 ls [.int (w 1)]) rfl ?_
  refine lv_iload_n hx hb d_Ca_isForeignTo_6 rfl (lv_at hl 1 rfl) ?_
  refine lv_icmp_ne (tgt := 24) hx hb d_Ca_isForeignTo_7 (by decide) (fun h1 => ?_) (fun h1 => ?_)
  · refine lv_iconst (v := 1) hx hb d_Ca_isForeignTo_24 (by decide) ?_
    refine lv_goto (tgt := 29) hx hb d_Ca_isForeignTo_25 (by decide) ?_
    exact W.zret hx hb hr rfl (fun t ht hW => ⟨_, rfl, (by rw [m_Ca_isForeignTo, if_neg h1]), ht⟩) (fun _ h => by cases h) d_Ca_isForeignTo_29
  refine lv_aload_n hx hb d_Ca_isForeignTo_10 rfl (lv_at hl 0 rfl) ?_
  refine vp_callSi (va_Run.run (va_runV (As := []) (rest := []) ⟨hx, hb, hml, hown, hts⟩ (c_Ca_number l D dA ad w P g ss M) (cwV 0 hts (g_V wd_296 wd_297 wd_298 wd_27 wd_299) rfl rfl rfl (by decide +kernel) ⟨Nat.le_of_ble_eq_true rfl, Nat.le_of_ble_eq_true rfl⟩) ⟨CG_fb, (va_recv (ci := 1) (q := (R_Ca, F_Ca, 1)) (q0 := 1) hK hP rfl rfl), fun U hU hW => ⟨rfl, CG_at hP hK hN hU hW⟩⟩ rfl rfl hl.1 rfl (lv_room (Nat.le_of_ble_eq_true rfl)) d_Ca_isForeignTo_11 ⟨Nat.le_of_ble_eq_true rfl, Nat.le_of_ble_eq_true rfl⟩)) (fun r1 e1 => ?_)
  subst e1
  refine vp_callSl (va_Run.run (va_runSN (As := [.int (m_Ca_number w)]) (rest := []) ⟨hx, hb, hml, hown, hts⟩ (c_F_unsigned l (m_Ca_number w)) ⟨va_cnB 1 hts (g_in wd_302) rfl rfl rfl hN.2.2.2.2.2.1 (hts _ wd_26) (by decide +kernel) ⟨Nat.le_of_ble_eq_true rfl, Nat.le_of_ble_eq_true rfl⟩, hts _ wd_301, trivial⟩ ⟨fun _ _ _ _ q => q, fun _ _ _ => ⟨rfl, trivial⟩⟩ rfl rfl hl.1 rfl (lv_room (Nat.le_of_ble_eq_true rfl)) d_Ca_isForeignTo_14 ⟨Nat.le_of_ble_eq_true rfl, Nat.le_of_ble_eq_true rfl⟩)) (fun r2 e2 => ?_)
  subst e2
  refine lv_ldc2 (v := 1073741824) hx hb hown (hts _ wd_304) d_Ca_isForeignTo_17 ?_
  refine W.lcmp hx hb d_Ca_isForeignTo_20 ?_
  refine lv_if_lt (tgt := 28) hx hb d_Ca_isForeignTo_21 (by decide) (fun h2 => ?_) (fun h2 => ?_)
  · refine lv_iconst (v := 0) hx hb d_Ca_isForeignTo_28 (by decide) ?_
    exact W.zret hx hb hr rfl (fun t ht hW => ⟨_, rfl, (by rw [m_Ca_isForeignTo, if_pos h1, if_pos h2]), ht⟩) (fun _ h => by cases h) d_Ca_isForeignTo_29
  refine lv_iconst (v := 1) hx hb d_Ca_isForeignTo_24 (by decide) ?_
  refine lv_goto (tgt := 29) hx hb d_Ca_isForeignTo_25 (by decide) ?_
  exact W.zret hx hb hr rfl (fun t ht hW => ⟨_, rfl, (by rw [m_Ca_isForeignTo, if_pos h1, if_neg h2]), ht⟩) (fun _ h => by cases h) d_Ca_isForeignTo_29
def m_F_word (w : Nat → Int32) (i : Int32) (v : Int32) : Int32 × (Nat → Int32) := if i < (0 : Int32) then ((0 : Int32), w) else if i < (16 : Int32) then ((1 : Int32), (upd w i.toNatClampNeg v)) else ((0 : Int32), w)
set_option maxHeartbeats 4000000 in
set_option maxRecDepth 100000 in
theorem c_F_word (l : Launch) (D : va_G) (dA : Nat → ClassId) (ad : Nat → Nat) (A : Nat → Prop) (hAd : AdOK 49 ad A) (w : Nat → Int32) (P : PT) (g : GT) (ss : Nat → Int32) (M : MT) (i : Int32) (v : Int32) : Met l y_F_word (mW y_F_word b_F_word 3 (some .boolean)) { frames := 0, cells := 0, slots := 0, locals := 0 } (va_Pc [.ref (ad 0), .int i, .int v] (fun U => CG D dA ad w P g ss M U)) (va_Qi (fun (r : Int32) (u : (Nat → Int32)) => r = (m_F_word w i v).1 ∧ u = (m_F_word w i v).2) (fun u t => CG D dA ad u P g ss M t) A) 0 0 A := by
  refine Met.ofW (cc := b_F_word) (maxL := 3) (ret := (some .boolean)) (by decide) rfl ?_
  intro p e s m args below meth c s₁ B hml hv
  obtain ⟨rfl, hP, hK, hN⟩ := hv
  have hx := B.exec
  have hb := B.bytes
  have hr := B.returns
  have hlocks := B.notSynchronized
  have hts := fun (w : Cond) (h : w ∈ lw_g) => atoms_spec (ws := mW y_F_word b_F_word 3 (some .boolean)) B.pre w (List.mem_cons_of_mem _ h)
  have hown : s.vm.findClass R_F = some m.cls := findClass_of_methodNamed B.named
  have hS : va_S A s.heap s.heap [] := va_S.rf
  have hl := lv_entry ([.ref (ad 0), .int i, .int v]) (n := 3) (Nat.le_of_ble_eq_true rfl)
  rw [lg_entry_eq]
  generalize (lg_sl ([.ref (ad 0), .int i, .int v]) ++ List.replicate (3 - (lg_sl ([.ref (ad 0), .int i, .int v])).length) Slot.unset).toArray = ls at hl ⊢
  have hl : lv_has ls 3 [(0, .ref (ad 0)), (1, .int i), (2, .int v)] := hl
  refine lv_iload_n hx hb d_F_word_0 rfl (lv_at hl 1 rfl) ?_
  refine lv_if_lt (tgt := 10) hx hb d_F_word_1 (by decide) (fun h1 => ?_) (fun h1 => ?_)
  · refine lv_iconst (v := 0) hx hb d_F_word_10 (by decide) ?_
    exact W.zret hx hb hr rfl (fun t ht hW => ⟨⟨_, _, rfl, ⟨(by rw [m_F_word, if_pos h1]), (by rw [m_F_word, if_pos h1])⟩, CG_at hP hK hN ht hW⟩, hS.F ht⟩) hS.2.2 d_F_word_11
  refine lv_iload_n hx hb d_F_word_4 rfl (lv_at hl 1 rfl) ?_
  refine lv_bipush (v := 16) hx hb d_F_word_5 (by decide) ?_
  refine lv_icmp_lt (tgt := 12) hx hb d_F_word_7 (by decide) (fun h2 => ?_) (fun h2 => ?_)
  · refine lv_aload_n hx hb d_F_word_12 rfl (lv_at hl 0 rfl) ?_
    refine va_get (D := D) (ci := 8) (v := .ref (ad 1)) (C := R_F) (T := F_F) (N := 5) hx hb hts in_F hown hK hP 0 rfl rfl 0 (by decide) (hts _ wd_208) (fun _ h9 => h9) rfl d_F_word_13 ?_
    refine va_get (D := D) (ci := 1) (v := .ref (ad 2)) (C := R_Ca) (T := F_Ca) (N := 1) hx hb hts in_Ca hown hK hP 1 rfl rfl 0 (by decide) (hts _ wd_53) (fun _ h9 => h9) rfl d_F_word_16 ?_
    refine lv_iload_n hx hb d_F_word_19 rfl (lv_at hl 1 rfl) ?_
    refine lv_iload_n hx hb d_F_word_20 rfl (lv_at hl 2 rfl) ?_
    refine va_iast (n := 16) (f := w) hx hb hK hP (wC_D hAd) hS 2 0 rfl rfl (ix_of2 (by assumption) (by assumption)) d_F_word_21 (fun H locs hP _ hS => ?_)
    have hP : va_P D cls (wC ad dA (upd w i.toNatClampNeg v) P g ss M) H := hP
    refine lv_iconst (v := 1) hx hb d_F_word_22 (by decide) ?_
    exact W.zret hx hb hr rfl (fun t ht hW => ⟨⟨_, _, rfl, ⟨(by rw [m_F_word, if_neg h1, if_pos h2]), (by rw [m_F_word, if_neg h1, if_pos h2])⟩, CG_at hP hK hN ht hW⟩, hS.F ht⟩) hS.2.2 d_F_word_23
  refine lv_iconst (v := 0) hx hb d_F_word_10 (by decide) ?_
  exact W.zret hx hb hr rfl (fun t ht hW => ⟨⟨_, _, rfl, ⟨(by rw [m_F_word, if_neg h1, if_neg h2]), (by rw [m_F_word, if_neg h1, if_neg h2])⟩, CG_at hP hK hN ht hW⟩, hS.F ht⟩) hS.2.2 d_F_word_11
def m_F_argument (w : Nat → Int32) (i : Int32) (v : Int64) : Int32 × (Nat → Int32) := if (m_Ca_hasArgument i) = (0 : Int32) then ((0 : Int32), w) else ((1 : Int32), (m_Ca_setArgument w i v))
set_option maxHeartbeats 4000000 in
set_option maxRecDepth 100000 in
theorem c_F_argument (l : Launch) (D : va_G) (dA : Nat → ClassId) (ad : Nat → Nat) (A : Nat → Prop) (hAd : AdOK 49 ad A) (w : Nat → Int32) (P : PT) (g : GT) (ss : Nat → Int32) (M : MT) (i : Int32) (v : Int64) : Met l y_F_argument (mW y_F_argument b_F_argument 4 (some .boolean)) { frames := 1, cells := 0, slots := 0, locals := 24 } (va_Pc [.ref (ad 0), .int i, .long v] (fun U => CG D dA ad w P g ss M U)) (va_Qi (fun (r : Int32) (u : (Nat → Int32)) => r = (m_F_argument w i v).1 ∧ u = (m_F_argument w i v).2) (fun u t => CG D dA ad u P g ss M t) A) 0 0 A := by
  refine Met.ofW (cc := b_F_argument) (maxL := 4) (ret := (some .boolean)) (by decide) rfl ?_
  intro p e s m args below meth c s₁ B hml hv
  obtain ⟨rfl, hP, hK, hN⟩ := hv
  have hx := B.exec
  have hb := B.bytes
  have hr := B.returns
  have hlocks := B.notSynchronized
  have hts := fun (w : Cond) (h : w ∈ lw_g) => atoms_spec (ws := mW y_F_argument b_F_argument 4 (some .boolean)) B.pre w (List.mem_cons_of_mem _ h)
  have hown : s.vm.findClass R_F = some m.cls := findClass_of_methodNamed B.named
  have hS : va_S A s.heap s.heap [] := va_S.rf
  have hl := lv_entry ([.ref (ad 0), .int i, .long v]) (n := 4) (Nat.le_of_ble_eq_true rfl)
  rw [lg_entry_eq]
  generalize (lg_sl ([.ref (ad 0), .int i, .long v]) ++ List.replicate (4 - (lg_sl ([.ref (ad 0), .int i, .long v])).length) Slot.unset).toArray = ls at hl ⊢
  have hl : lv_has ls 4 [(0, .ref (ad 0)), (1, .int i), (2, .long v)] := hl
  refine lv_iload_n hx hb d_F_argument_0 rfl (lv_at hl 1 rfl) ?_
  refine vp_callSi (va_Run.run (va_runS (As := [.int i]) (rest := []) ⟨hx, hb, hml, hown, hts⟩ (c_Ca_hasArgument l i) (va_cwS 1 hts (g_S wd_232 wd_233 wd_27 wd_234) rfl rfl rfl (by decide +kernel) ⟨Nat.le_of_ble_eq_true rfl, Nat.le_of_ble_eq_true rfl⟩) ⟨fun _ _ _ _ q => q, fun _ _ _ => ⟨rfl, trivial⟩⟩ rfl rfl hl.1 rfl (lv_room (Nat.le_of_ble_eq_true rfl)) d_F_argument_1 ⟨Nat.le_of_ble_eq_true rfl, Nat.le_of_ble_eq_true rfl⟩)) (fun r1 e1 => ?_)
  subst e1
  refine lv_if_ne (tgt := 9) hx hb d_F_argument_4 (by decide) (fun h1 => ?_) (fun h1 => ?_)
  · refine lv_aload_n hx hb d_F_argument_9 rfl (lv_at hl 0 rfl) ?_
    refine va_get (D := D) (ci := 8) (v := .ref (ad 1)) (C := R_F) (T := F_F) (N := 5) hx hb hts in_F hown hK hP 0 rfl rfl 0 (by decide) (hts _ wd_208) (fun _ h9 => h9) rfl d_F_argument_10 ?_
    refine lv_iload_n hx hb d_F_argument_13 rfl (lv_at hl 1 rfl) ?_
    refine lv_lload_n hx hb d_F_argument_14 rfl (lv_at hl 2 rfl) ?_
    refine va_callv (va_runV (As := [.int i, .long v]) (rest := []) ⟨hx, hb, hml, hown, hts⟩ (c_Ca_setArgument l D dA ad A hAd w P g ss M i v (ix_arg (by assumption))) (cwV 2 hts (g_V wd_235 wd_236 wd_237 wd_27 wd_238) rfl rfl rfl (by decide +kernel) ⟨Nat.le_of_ble_eq_true rfl, Nat.le_of_ble_eq_true rfl⟩) ⟨CG_fb, (va_recv (ci := 1) (q := (R_Ca, F_Ca, 1)) (q0 := 1) hK hP rfl rfl), fun U hU hW => ⟨rfl, CG_at hP hK hN hU hW⟩⟩ rfl rfl hl.1 rfl (lv_room (Nat.le_of_ble_eq_true rfl)) d_F_argument_15 ⟨Nat.le_of_ble_eq_true rfl, Nat.le_of_ble_eq_true rfl⟩) hS (fun _ _ h => h) (fun _ h => h) (fun u1 t H locs ht hvm hu hB hz hk hS => ?_)
    subst hu
    obtain ⟨hP, -⟩ := hB
    rw [ht] at hP
    have hP : va_P D cls (wC ad dA (m_Ca_setArgument w i v) P g ss M) H := hP
    refine lv_iconst (v := 1) hx hb d_F_argument_18 (by decide) ?_
    exact W.zret hx hb hr rfl (fun t ht hW => ⟨⟨_, _, rfl, ⟨(by rw [m_F_argument, if_neg h1]), (by rw [m_F_argument, if_neg h1])⟩, CG_at hP hK hN ht hW⟩, hS.F ht⟩) hS.2.2 d_F_argument_19
  refine lv_iconst (v := 0) hx hb d_F_argument_7 (by decide) ?_
  exact W.zret hx hb hr rfl (fun t ht hW => ⟨⟨_, _, rfl, ⟨(by rw [m_F_argument, if_pos h1]), (by rw [m_F_argument, if_pos h1])⟩, CG_at hP hK hN ht hW⟩, hS.F ht⟩) hS.2.2 d_F_argument_8
def m_F_length (g : GT) : Int32 := g.1
set_option maxHeartbeats 4000000 in
set_option maxRecDepth 100000 in
theorem c_F_length (l : Launch) (D : va_G) (dA : Nat → ClassId) (ad : Nat → Nat) (w : Nat → Int32) (P : PT) (g : GT) (ss : Nat → Int32) (M : MT) : Met l y_F_length (mW y_F_length b_F_length 1 (some .int)) { frames := 0, cells := 0, slots := 0, locals := 0 } (va_Pc [.ref (ad 0)] (fun U => CG D dA ad w P g ss M U)) (vp_Si (fun r => r = m_F_length g)) 0 0 (fun _ => False) := by
  refine Met.ofW (cc := b_F_length) (maxL := 1) (ret := (some .int)) (by decide) rfl ?_
  intro p e s m args below meth c s₁ B hml hv
  obtain ⟨rfl, hP, hK, hN⟩ := hv
  have hx := B.exec
  have hb := B.bytes
  have hr := B.returns
  have hlocks := B.notSynchronized
  have hts := fun (w : Cond) (h : w ∈ lw_g) => atoms_spec (ws := mW y_F_length b_F_length 1 (some .int)) B.pre w (List.mem_cons_of_mem _ h)
  have hown : s.vm.findClass R_F = some m.cls := findClass_of_methodNamed B.named
  have hl := lv_entry ([.ref (ad 0)]) (n := 1) (Nat.le_of_ble_eq_true rfl)
  rw [lg_entry_eq]
  generalize (lg_sl ([.ref (ad 0)]) ++ List.replicate (1 - (lg_sl ([.ref (ad 0)])).length) Slot.unset).toArray = ls at hl ⊢
  have hl : lv_has ls 1 [(0, .ref (ad 0))] := hl
  refine lv_aload_n hx hb d_F_length_0 rfl (lv_at hl 0 rfl) ?_
  refine va_get (D := D) (ci := 8) (v := .ref (ad 7)) (C := R_F) (T := F_F) (N := 5) hx hb hts in_F hown hK hP 0 rfl rfl 2 (by decide) (hts _ wd_210) (fun _ h9 => h9) rfl d_F_length_1 ?_
  refine va_get (D := D) (ci := 6) (v := .int g.1) (C := R_Pr) (T := F_Pr) (N := 2) hx hb hts in_Pr hown hK hP 7 rfl rfl 1 (by decide) (hts _ wd_158) (fun _ h9 => h9) rfl d_F_length_4 ?_
  exact W.iret hx hb hr (fun t ht hW => ⟨_, rfl, (by rw [m_F_length]), ht⟩) (fun _ h => by cases h) d_F_length_7
def m_F_steps (M : MT) : Int32 := M.2.1
set_option maxHeartbeats 4000000 in
set_option maxRecDepth 100000 in
theorem c_F_steps (l : Launch) (D : va_G) (dA : Nat → ClassId) (ad : Nat → Nat) (w : Nat → Int32) (P : PT) (g : GT) (ss : Nat → Int32) (M : MT) : Met l y_F_steps (mW y_F_steps b_F_steps 1 (some .int)) { frames := 0, cells := 0, slots := 0, locals := 0 } (va_Pc [.ref (ad 0)] (fun U => CG D dA ad w P g ss M U)) (vp_Si (fun r => r = m_F_steps M)) 0 0 (fun _ => False) := by
  refine Met.ofW (cc := b_F_steps) (maxL := 1) (ret := (some .int)) (by decide) rfl ?_
  intro p e s m args below meth c s₁ B hml hv
  obtain ⟨rfl, hP, hK, hN⟩ := hv
  have hx := B.exec
  have hb := B.bytes
  have hr := B.returns
  have hlocks := B.notSynchronized
  have hts := fun (w : Cond) (h : w ∈ lw_g) => atoms_spec (ws := mW y_F_steps b_F_steps 1 (some .int)) B.pre w (List.mem_cons_of_mem _ h)
  have hown : s.vm.findClass R_F = some m.cls := findClass_of_methodNamed B.named
  have hl := lv_entry ([.ref (ad 0)]) (n := 1) (Nat.le_of_ble_eq_true rfl)
  rw [lg_entry_eq]
  generalize (lg_sl ([.ref (ad 0)]) ++ List.replicate (1 - (lg_sl ([.ref (ad 0)])).length) Slot.unset).toArray = ls at hl ⊢
  have hl : lv_has ls 1 [(0, .ref (ad 0))] := hl
  refine lv_aload_n hx hb d_F_steps_0 rfl (lv_at hl 0 rfl) ?_
  refine va_get (D := D) (ci := 8) (v := .ref (ad 11)) (C := R_F) (T := F_F) (N := 5) hx hb hts in_F hown hK hP 0 rfl rfl 4 (by decide) (hts _ wd_212) (fun _ h9 => h9) rfl d_F_steps_1 ?_
  refine va_get (D := D) (ci := 4) (v := .int M.2.1) (C := R_Ma) (T := F_Ma) (N := 8) hx hb hts in_Ma hown hK hP 11 rfl rfl 1 (by decide) (hts _ wd_184) (fun _ h9 => h9) rfl d_F_steps_4 ?_
  exact W.iret hx hb hr (fun t ht hW => ⟨_, rfl, (by rw [m_F_steps]), ht⟩) (fun _ h => by cases h) d_F_steps_7
def m_F_put (g : GT) (z : Int64) : Int32 × GT := if g.1 < (64 : Int32) then ((1 : Int32), (g.1 + (1 : Int32), vp_updL g.2 g.1.toNatClampNeg z)) else ((0 : Int32), g)
set_option maxHeartbeats 4000000 in
set_option maxRecDepth 100000 in
theorem c_F_put (l : Launch) (D : va_G) (dA : Nat → ClassId) (ad : Nat → Nat) (A : Nat → Prop) (hAd : AdOK 49 ad A) (w : Nat → Int32) (P : PT) (g : GT) (ss : Nat → Int32) (M : MT) (z : Int64) (hg : (0 : Int32) ≤ g.1) : Met l y_F_put (mW y_F_put b_F_put 3 (some .boolean)) { frames := 0, cells := 0, slots := 0, locals := 0 } (va_Pc [.ref (ad 0), .long z] (fun U => CG D dA ad w P g ss M U)) (va_Qi (fun (r : Int32) (u : GT) => r = (m_F_put g z).1 ∧ u = (m_F_put g z).2) (fun u t => CG D dA ad w P u ss M t) A) 0 0 A := by
  refine Met.ofW (cc := b_F_put) (maxL := 3) (ret := (some .boolean)) (by decide) rfl ?_
  intro p e s m args below meth c s₁ B hml hv
  obtain ⟨rfl, hP, hK, hN⟩ := hv
  have hx := B.exec
  have hb := B.bytes
  have hr := B.returns
  have hlocks := B.notSynchronized
  have hts := fun (w : Cond) (h : w ∈ lw_g) => atoms_spec (ws := mW y_F_put b_F_put 3 (some .boolean)) B.pre w (List.mem_cons_of_mem _ h)
  have hown : s.vm.findClass R_F = some m.cls := findClass_of_methodNamed B.named
  have hS : va_S A s.heap s.heap [] := va_S.rf
  have hl := lv_entry ([.ref (ad 0), .long z]) (n := 3) (Nat.le_of_ble_eq_true rfl)
  rw [lg_entry_eq]
  generalize (lg_sl ([.ref (ad 0), .long z]) ++ List.replicate (3 - (lg_sl ([.ref (ad 0), .long z])).length) Slot.unset).toArray = ls at hl ⊢
  have hl : lv_has ls 3 [(0, .ref (ad 0)), (1, .long z)] := hl
  refine lv_aload_n hx hb d_F_put_0 rfl (lv_at hl 0 rfl) ?_
  refine va_get (D := D) (ci := 8) (v := .ref (ad 7)) (C := R_F) (T := F_F) (N := 5) hx hb hts in_F hown hK hP 0 rfl rfl 2 (by decide) (hts _ wd_210) (fun _ h9 => h9) rfl d_F_put_1 ?_
  refine va_get (D := D) (ci := 6) (v := .int g.1) (C := R_Pr) (T := F_Pr) (N := 2) hx hb hts in_Pr hown hK hP 7 rfl rfl 1 (by decide) (hts _ wd_158) (fun _ h9 => h9) rfl d_F_put_4 ?_
  refine lv_bipush (v := 64) hx hb d_F_put_7 (by decide) ?_
  refine lv_icmp_lt (tgt := 14) hx hb d_F_put_9 (by decide) (fun h1 => ?_) (fun h1 => ?_)
  · refine lv_aload_n hx hb d_F_put_14 rfl (lv_at hl 0 rfl) ?_
    refine va_get (D := D) (ci := 8) (v := .ref (ad 7)) (C := R_F) (T := F_F) (N := 5) hx hb hts in_F hown hK hP 0 rfl rfl 2 (by decide) (hts _ wd_210) (fun _ h9 => h9) rfl d_F_put_15 ?_
    refine va_get (D := D) (ci := 6) (v := .ref (ad 8)) (C := R_Pr) (T := F_Pr) (N := 2) hx hb hts in_Pr hown hK hP 7 rfl rfl 0 (by decide) (hts _ wd_155) (fun _ h9 => h9) rfl d_F_put_18 ?_
    refine lv_aload_n hx hb d_F_put_21 rfl (lv_at hl 0 rfl) ?_
    refine va_get (D := D) (ci := 8) (v := .ref (ad 7)) (C := R_F) (T := F_F) (N := 5) hx hb hts in_F hown hK hP 0 rfl rfl 2 (by decide) (hts _ wd_210) (fun _ h9 => h9) rfl d_F_put_22 ?_
    refine va_get (D := D) (ci := 6) (v := .int g.1) (C := R_Pr) (T := F_Pr) (N := 2) hx hb hts in_Pr hown hK hP 7 rfl rfl 1 (by decide) (hts _ wd_158) (fun _ h9 => h9) rfl d_F_put_25 ?_
    refine lv_lload_n hx hb d_F_put_28 rfl (lv_at hl 1 rfl) ?_
    refine va_last (n := 64) (f := g.2) hx hb hK hP (wC_D hAd) hS 8 1 rfl rfl (ix_put hg (by assumption)) d_F_put_29 (fun H locs hP _ hS => ?_)
    have hP : va_P D cls (wC ad dA w P (g.1, vp_updL g.2 g.1.toNatClampNeg z) ss M) H := hP
    refine lv_aload_n hx hb d_F_put_30 rfl (lv_at hl 0 rfl) ?_
    refine va_get (D := D) (ci := 8) (v := .ref (ad 7)) (C := R_F) (T := F_F) (N := 5) hx hb hts in_F hown hK hP 0 rfl rfl 2 (by decide) (hts _ wd_210) (fun _ h9 => h9) rfl d_F_put_31 ?_
    refine lv_dup hx hb d_F_put_34 rfl ?_
    refine va_get (D := D) (ci := 6) (v := .int g.1) (C := R_Pr) (T := F_Pr) (N := 2) hx hb hts in_Pr hown hK hP 7 rfl rfl 1 (by decide) (hts _ wd_158) (fun _ h9 => h9) rfl d_F_put_35 ?_
    refine lv_iconst (v := 1) hx hb d_F_put_38 (by decide) ?_
    refine lv_iadd hx hb d_F_put_39 ?_
    refine va_put (D := D) (ci := 6) (v := .int (g.1 + (1 : Int32))) (ty := .int) (C := R_Pr) (T := F_Pr) (N := 2) hx hb hts in_Pr t_Pr k_Pr n_Pr hown hK hP (wC_D hAd) hS 7 rfl rfl 1 (by decide) (hts _ wd_158) (fun _ h9 => h9) rfl (by decide +kernel) rfl rfl (Nat.le_of_ble_eq_true rfl) d_F_put_40 (fun H locs hP _ hS => ?_)
    have hP : va_P D cls (wC ad dA w P (g.1 + (1 : Int32), vp_updL g.2 g.1.toNatClampNeg z) ss M) H := hP
    refine lv_iconst (v := 1) hx hb d_F_put_43 (by decide) ?_
    exact W.zret hx hb hr rfl (fun t ht hW => ⟨⟨_, _, rfl, ⟨(by rw [m_F_put, if_pos h1]), (by rw [m_F_put, if_pos h1])⟩, CG_at hP hK hN ht hW⟩, hS.F ht⟩) hS.2.2 d_F_put_44
  refine lv_iconst (v := 0) hx hb d_F_put_12 (by decide) ?_
  exact W.zret hx hb hr rfl (fun t ht hW => ⟨⟨_, _, rfl, ⟨(by rw [m_F_put, if_neg h1]), (by rw [m_F_put, if_neg h1])⟩, CG_at hP hK hN ht hW⟩, hS.F ht⟩) hS.2.2 d_F_put_13
def m_F_cut (g : GT) (n : Int32) : Int32 × GT := if n < (0 : Int32) then ((-1 : Int32), g) else if n ≤ g.1 then (g.1 - n, (g.1 - n, g.2)) else ((-1 : Int32), g)
set_option maxHeartbeats 4000000 in
set_option maxRecDepth 100000 in
theorem c_F_cut (l : Launch) (D : va_G) (dA : Nat → ClassId) (ad : Nat → Nat) (A : Nat → Prop) (hAd : AdOK 49 ad A) (w : Nat → Int32) (P : PT) (g : GT) (ss : Nat → Int32) (M : MT) (n : Int32) : Met l y_F_cut (mW y_F_cut b_F_cut 2 (some .int)) { frames := 0, cells := 0, slots := 0, locals := 0 } (va_Pc [.ref (ad 0), .int n] (fun U => CG D dA ad w P g ss M U)) (va_Qi (fun (r : Int32) (u : GT) => r = (m_F_cut g n).1 ∧ u = (m_F_cut g n).2) (fun u t => CG D dA ad w P u ss M t) A) 0 0 A := by
  refine Met.ofW (cc := b_F_cut) (maxL := 2) (ret := (some .int)) (by decide) rfl ?_
  intro p e s m args below meth c s₁ B hml hv
  obtain ⟨rfl, hP, hK, hN⟩ := hv
  have hx := B.exec
  have hb := B.bytes
  have hr := B.returns
  have hlocks := B.notSynchronized
  have hts := fun (w : Cond) (h : w ∈ lw_g) => atoms_spec (ws := mW y_F_cut b_F_cut 2 (some .int)) B.pre w (List.mem_cons_of_mem _ h)
  have hown : s.vm.findClass R_F = some m.cls := findClass_of_methodNamed B.named
  have hS : va_S A s.heap s.heap [] := va_S.rf
  have hl := lv_entry ([.ref (ad 0), .int n]) (n := 2) (Nat.le_of_ble_eq_true rfl)
  rw [lg_entry_eq]
  generalize (lg_sl ([.ref (ad 0), .int n]) ++ List.replicate (2 - (lg_sl ([.ref (ad 0), .int n])).length) Slot.unset).toArray = ls at hl ⊢
  have hl : lv_has ls 2 [(0, .ref (ad 0)), (1, .int n)] := hl
  refine lv_iload_n hx hb d_F_cut_0 rfl (lv_at hl 1 rfl) ?_
  refine lv_if_lt (tgt := 15) hx hb d_F_cut_1 (by decide) (fun h1 => ?_) (fun h1 => ?_)
  · refine lv_iconst (v := -1) hx hb d_F_cut_15 (by decide) ?_
    exact W.iret hx hb hr (fun t ht hW => ⟨⟨_, _, rfl, ⟨(by rw [m_F_cut, if_pos h1]), (by rw [m_F_cut, if_pos h1])⟩, CG_at hP hK hN ht hW⟩, hS.F ht⟩) hS.2.2 d_F_cut_16
  refine lv_iload_n hx hb d_F_cut_4 rfl (lv_at hl 1 rfl) ?_
  refine lv_aload_n hx hb d_F_cut_5 rfl (lv_at hl 0 rfl) ?_
  refine va_get (D := D) (ci := 8) (v := .ref (ad 7)) (C := R_F) (T := F_F) (N := 5) hx hb hts in_F hown hK hP 0 rfl rfl 2 (by decide) (hts _ wd_210) (fun _ h9 => h9) rfl d_F_cut_6 ?_
  refine va_get (D := D) (ci := 6) (v := .int g.1) (C := R_Pr) (T := F_Pr) (N := 2) hx hb hts in_Pr hown hK hP 7 rfl rfl 1 (by decide) (hts _ wd_158) (fun _ h9 => h9) rfl d_F_cut_9 ?_
  refine lv_icmp_le (tgt := 17) hx hb d_F_cut_12 (by decide) (fun h2 => ?_) (fun h2 => ?_)
  · refine lv_aload_n hx hb d_F_cut_17 rfl (lv_at hl 0 rfl) ?_
    refine va_get (D := D) (ci := 8) (v := .ref (ad 7)) (C := R_F) (T := F_F) (N := 5) hx hb hts in_F hown hK hP 0 rfl rfl 2 (by decide) (hts _ wd_210) (fun _ h9 => h9) rfl d_F_cut_18 ?_
    refine lv_dup hx hb d_F_cut_21 rfl ?_
    refine va_get (D := D) (ci := 6) (v := .int g.1) (C := R_Pr) (T := F_Pr) (N := 2) hx hb hts in_Pr hown hK hP 7 rfl rfl 1 (by decide) (hts _ wd_158) (fun _ h9 => h9) rfl d_F_cut_22 ?_
    refine lv_iload_n hx hb d_F_cut_25 rfl (lv_at hl 1 rfl) ?_
    refine lv_isub hx hb d_F_cut_26 ?_
    refine va_put (D := D) (ci := 6) (v := .int (g.1 - n)) (ty := .int) (C := R_Pr) (T := F_Pr) (N := 2) hx hb hts in_Pr t_Pr k_Pr n_Pr hown hK hP (wC_D hAd) hS 7 rfl rfl 1 (by decide) (hts _ wd_158) (fun _ h9 => h9) rfl (by decide +kernel) rfl rfl (Nat.le_of_ble_eq_true rfl) d_F_cut_27 (fun H locs hP _ hS => ?_)
    have hP : va_P D cls (wC ad dA w P (g.1 - n, g.2) ss M) H := hP
    refine lv_aload_n hx hb d_F_cut_30 rfl (lv_at hl 0 rfl) ?_
    refine va_get (D := D) (ci := 8) (v := .ref (ad 7)) (C := R_F) (T := F_F) (N := 5) hx hb hts in_F hown hK hP 0 rfl rfl 2 (by decide) (hts _ wd_210) (fun _ h9 => h9) rfl d_F_cut_31 ?_
    refine va_get (D := D) (ci := 6) (v := .int (g.1 - n)) (C := R_Pr) (T := F_Pr) (N := 2) hx hb hts in_Pr hown hK hP 7 rfl rfl 1 (by decide) (hts _ wd_158) (fun _ h9 => h9) rfl d_F_cut_34 ?_
    exact W.iret hx hb hr (fun t ht hW => ⟨⟨_, _, rfl, ⟨(by rw [m_F_cut, if_neg h1, if_pos h2]), (by rw [m_F_cut, if_neg h1, if_pos h2])⟩, CG_at hP hK hN ht hW⟩, hS.F ht⟩) hS.2.2 d_F_cut_37
  refine lv_iconst (v := -1) hx hb d_F_cut_15 (by decide) ?_
  exact W.iret hx hb hr (fun t ht hW => ⟨⟨_, _, rfl, ⟨(by rw [m_F_cut, if_neg h1, if_neg h2]), (by rw [m_F_cut, if_neg h1, if_neg h2])⟩, CG_at hP hK hN ht hW⟩, hS.F ht⟩) hS.2.2 d_F_cut_16
def m_F_withdraw (P : PT) : Int32 × PT := if P.2.1 = (0 : Int32) then ((-1 : Int32), P) else (P.2.1 - (1 : Int32), (P.1, P.2.1 - (1 : Int32), P.2.2.1, P.2.2.2.1, P.2.2.2.2))
set_option maxHeartbeats 4000000 in
set_option maxRecDepth 100000 in
theorem c_F_withdraw (l : Launch) (D : va_G) (dA : Nat → ClassId) (ad : Nat → Nat) (A : Nat → Prop) (hAd : AdOK 49 ad A) (w : Nat → Int32) (P : PT) (g : GT) (ss : Nat → Int32) (M : MT) : Met l y_F_withdraw (mW y_F_withdraw b_F_withdraw 1 (some .int)) { frames := 0, cells := 0, slots := 0, locals := 0 } (va_Pc [.ref (ad 0)] (fun U => CG D dA ad w P g ss M U)) (va_Qi (fun (r : Int32) (u : PT) => r = (m_F_withdraw P).1 ∧ u = (m_F_withdraw P).2) (fun u t => CG D dA ad w u g ss M t) A) 0 0 A := by
  refine Met.ofW (cc := b_F_withdraw) (maxL := 1) (ret := (some .int)) (by decide) rfl ?_
  intro p e s m args below meth c s₁ B hml hv
  obtain ⟨rfl, hP, hK, hN⟩ := hv
  have hx := B.exec
  have hb := B.bytes
  have hr := B.returns
  have hlocks := B.notSynchronized
  have hts := fun (w : Cond) (h : w ∈ lw_g) => atoms_spec (ws := mW y_F_withdraw b_F_withdraw 1 (some .int)) B.pre w (List.mem_cons_of_mem _ h)
  have hown : s.vm.findClass R_F = some m.cls := findClass_of_methodNamed B.named
  have hS : va_S A s.heap s.heap [] := va_S.rf
  have hl := lv_entry ([.ref (ad 0)]) (n := 1) (Nat.le_of_ble_eq_true rfl)
  rw [lg_entry_eq]
  generalize (lg_sl ([.ref (ad 0)]) ++ List.replicate (1 - (lg_sl ([.ref (ad 0)])).length) Slot.unset).toArray = ls at hl ⊢
  have hl : lv_has ls 1 [(0, .ref (ad 0))] := hl
  refine lv_aload_n hx hb d_F_withdraw_0 rfl (lv_at hl 0 rfl) ?_
  refine va_get (D := D) (ci := 8) (v := .ref (ad 3)) (C := R_F) (T := F_F) (N := 5) hx hb hts in_F hown hK hP 0 rfl rfl 1 (by decide) (hts _ wd_209) (fun _ h9 => h9) rfl d_F_withdraw_1 ?_
  refine va_get (D := D) (ci := 5) (v := .int P.2.1) (C := R_Po) (T := F_Po) (N := 5) hx hb hts in_Po hown hK hP 3 rfl rfl 3 (by decide) (hts _ wd_133) (fun _ h9 => h9) rfl d_F_withdraw_4 ?_
  refine lv_if_ne (tgt := 12) hx hb d_F_withdraw_7 (by decide) (fun h1 => ?_) (fun h1 => ?_)
  · refine lv_aload_n hx hb d_F_withdraw_12 rfl (lv_at hl 0 rfl) ?_
    refine va_get (D := D) (ci := 8) (v := .ref (ad 3)) (C := R_F) (T := F_F) (N := 5) hx hb hts in_F hown hK hP 0 rfl rfl 1 (by decide) (hts _ wd_209) (fun _ h9 => h9) rfl d_F_withdraw_13 ?_
    refine lv_dup hx hb d_F_withdraw_16 rfl ?_
    refine va_get (D := D) (ci := 5) (v := .int P.2.1) (C := R_Po) (T := F_Po) (N := 5) hx hb hts in_Po hown hK hP 3 rfl rfl 3 (by decide) (hts _ wd_133) (fun _ h9 => h9) rfl d_F_withdraw_17 ?_
    refine lv_iconst (v := 1) hx hb d_F_withdraw_20 (by decide) ?_
    refine lv_isub hx hb d_F_withdraw_21 ?_
    refine va_put (D := D) (ci := 5) (v := .int (P.2.1 - (1 : Int32))) (ty := .int) (C := R_Po) (T := F_Po) (N := 5) hx hb hts in_Po t_Po k_Po n_Po hown hK hP (wC_D hAd) hS 3 rfl rfl 3 (by decide) (hts _ wd_133) (fun _ h9 => h9) rfl (by decide +kernel) rfl rfl (Nat.le_of_ble_eq_true rfl) d_F_withdraw_22 (fun H locs hP _ hS => ?_)
    have hP : va_P D cls (wC ad dA w (P.1, P.2.1 - (1 : Int32), P.2.2.1, P.2.2.2.1, P.2.2.2.2) g ss M) H := hP
    refine lv_aload_n hx hb d_F_withdraw_25 rfl (lv_at hl 0 rfl) ?_
    refine va_get (D := D) (ci := 8) (v := .ref (ad 3)) (C := R_F) (T := F_F) (N := 5) hx hb hts in_F hown hK hP 0 rfl rfl 1 (by decide) (hts _ wd_209) (fun _ h9 => h9) rfl d_F_withdraw_26 ?_
    refine va_get (D := D) (ci := 5) (v := .int (P.2.1 - (1 : Int32))) (C := R_Po) (T := F_Po) (N := 5) hx hb hts in_Po hown hK hP 3 rfl rfl 3 (by decide) (hts _ wd_133) (fun _ h9 => h9) rfl d_F_withdraw_29 ?_
    exact W.iret hx hb hr (fun t ht hW => ⟨⟨_, _, rfl, ⟨(by rw [m_F_withdraw, if_neg h1]), (by rw [m_F_withdraw, if_neg h1])⟩, CG_at hP hK hN ht hW⟩, hS.F ht⟩) hS.2.2 d_F_withdraw_32
  refine lv_iconst (v := -1) hx hb d_F_withdraw_10 (by decide) ?_
  exact W.iret hx hb hr (fun t ht hW => ⟨⟨_, _, rfl, ⟨(by rw [m_F_withdraw, if_pos h1]), (by rw [m_F_withdraw, if_pos h1])⟩, CG_at hP hK hN ht hW⟩, hS.F ht⟩) hS.2.2 d_F_withdraw_11
end
section
theorem wd_5 : Cond.selects R_Ma y_Ma_load y_Ma_load ∈ lw_g := wd_in (i := 5) (by decide +kernel) (by decide +kernel)
theorem wd_6 : Cond.selects R_Ma y_Ma_store y_Ma_store ∈ lw_g := wd_in (i := 6) (by decide +kernel) (by decide +kernel)
theorem wd_7 : Cond.selects R_Ma y_Ma_compute y_Ma_compute ∈ lw_g := wd_in (i := 7) (by decide +kernel) (by decide +kernel)
theorem wd_8 : Cond.selects R_Ma y_Ma_divide y_Ma_divide ∈ lw_g := wd_in (i := 8) (by decide +kernel) (by decide +kernel)
theorem wd_9 : Cond.selects R_Ma y_Ma_end y_Ma_end ∈ lw_g := wd_in (i := 9) (by decide +kernel) (by decide +kernel)
theorem wd_10 : Cond.selects R_Ma y_Ma_jump y_Ma_jump ∈ lw_g := wd_in (i := 10) (by decide +kernel) (by decide +kernel)
theorem wd_11 : Cond.selects R_Ma y_Ma_passes y_Ma_passes ∈ lw_g := wd_in (i := 11) (by decide +kernel) (by decide +kernel)
theorem wd_12 : Cond.selects R_Ma y_Ma_copy y_Ma_copy ∈ lw_g := wd_in (i := 12) (by decide +kernel) (by decide +kernel)
theorem wd_34 : Cond.initialized R_Ma ∈ lw_g := wd_in (i := 34) (by decide +kernel) (by decide +kernel)
theorem wd_54 : Cond.fieldLink R_Ma 93 R_Ca "words" "[I" ∈ lw_g := wd_in (i := 54) (by decide +kernel) (by decide +kernel)
theorem wd_181 : Cond.fieldLink R_Ma 9 R_Ma "cells" "[I" ∈ lw_g := wd_in (i := 181) (by decide +kernel) (by decide +kernel)
theorem wd_182 : Cond.fieldLink R_F 135 R_Ma "cells" "[I" ∈ lw_g := wd_in (i := 182) (by decide +kernel) (by decide +kernel)
theorem wd_183 : Cond.fieldLink R_Ma 13 R_Ma "done" "I" ∈ lw_g := wd_in (i := 183) (by decide +kernel) (by decide +kernel)
theorem wd_185 : Cond.fieldLink R_Ma 17 R_Ma "storedCells" "I" ∈ lw_g := wd_in (i := 185) (by decide +kernel) (by decide +kernel)
theorem wd_186 : Cond.fieldLink R_Ma 55 R_Ma "a" "I" ∈ lw_g := wd_in (i := 186) (by decide +kernel) (by decide +kernel)
theorem wd_187 : Cond.fieldLink R_Ma 58 R_Ma "x" "I" ∈ lw_g := wd_in (i := 187) (by decide +kernel) (by decide +kernel)
theorem wd_188 : Cond.fieldLink R_Ma 32 R_Ma "next" "I" ∈ lw_g := wd_in (i := 188) (by decide +kernel) (by decide +kernel)
theorem wd_189 : Cond.fieldLink R_Ma 23 R_Ma "ended" "Z" ∈ lw_g := wd_in (i := 189) (by decide +kernel) (by decide +kernel)
theorem wd_190 : Cond.fieldLink R_Ma 43 R_Ma "result" "I" ∈ lw_g := wd_in (i := 190) (by decide +kernel) (by decide +kernel)
theorem wd_364 : Cond.static y_In_codeOf ∈ lw_g := wd_in (i := 364) (by decide +kernel) (by decide +kernel)
theorem wd_365 : Cond.code y_In_codeOf prog_6_method_2_code 2 (Option.some Jvm.ClassFile.FieldType.int) ∈ lw_g := wd_in (i := 365) (by decide +kernel) (by decide +kernel)
theorem wd_424 : Cond.instanceMethod y_Ma_forget ∈ lw_g := wd_in (i := 424) (by decide +kernel) (by decide +kernel)
theorem wd_425 : Cond.selects R_Ma y_Ma_forget y_Ma_forget ∈ lw_g := wd_in (i := 425) (by decide +kernel) (by decide +kernel)
theorem wd_426 : Cond.code y_Ma_forget prog_7_method_2_code 1 (Option.none : Option Jvm.ClassFile.FieldType) ∈ lw_g := wd_in (i := 426) (by decide +kernel) (by decide +kernel)
theorem wd_427 : Cond.constantLong R_F 123 (-1) ∈ lw_g := wd_in (i := 427) (by decide +kernel) (by decide +kernel)
theorem wd_436 : Cond.methodLink R_Ma 52 y_Ma_forget ∈ lw_g := wd_in (i := 436) (by decide +kernel) (by decide +kernel)
theorem wd_441 : Cond.methodLink R_Ma 61 y_In_codeOf ∈ lw_g := wd_in (i := 441) (by decide +kernel) (by decide +kernel)
theorem wd_442 : Cond.methodLink R_Ma 67 y_In_operandOf ∈ lw_g := wd_in (i := 442) (by decide +kernel) (by decide +kernel)
theorem wd_443 : Cond.methodLink R_Ma 71 y_Ma_load ∈ lw_g := wd_in (i := 443) (by decide +kernel) (by decide +kernel)
theorem wd_445 : Cond.instanceMethod y_Ma_load ∈ lw_g := wd_in (i := 445) (by decide +kernel) (by decide +kernel)
theorem wd_446 : Cond.code y_Ma_load prog_7_method_7_code 4 (Option.some Jvm.ClassFile.FieldType.int) ∈ lw_g := wd_in (i := 446) (by decide +kernel) (by decide +kernel)
theorem wd_447 : Cond.methodLink R_Ma 75 y_Ma_store ∈ lw_g := wd_in (i := 447) (by decide +kernel) (by decide +kernel)
theorem wd_449 : Cond.instanceMethod y_Ma_store ∈ lw_g := wd_in (i := 449) (by decide +kernel) (by decide +kernel)
theorem wd_450 : Cond.code y_Ma_store prog_7_method_8_code 3 (Option.none : Option Jvm.ClassFile.FieldType) ∈ lw_g := wd_in (i := 450) (by decide +kernel) (by decide +kernel)
theorem wd_451 : Cond.methodLink R_Ma 79 y_Ma_compute ∈ lw_g := wd_in (i := 451) (by decide +kernel) (by decide +kernel)
theorem wd_453 : Cond.instanceMethod y_Ma_compute ∈ lw_g := wd_in (i := 453) (by decide +kernel) (by decide +kernel)
theorem wd_454 : Cond.code y_Ma_compute prog_7_method_10_code 3 (Option.none : Option Jvm.ClassFile.FieldType) ∈ lw_g := wd_in (i := 454) (by decide +kernel) (by decide +kernel)
theorem wd_455 : Cond.methodLink R_Ma 98 y_Ma_divide ∈ lw_g := wd_in (i := 455) (by decide +kernel) (by decide +kernel)
theorem wd_457 : Cond.instanceMethod y_Ma_divide ∈ lw_g := wd_in (i := 457) (by decide +kernel) (by decide +kernel)
theorem wd_458 : Cond.code y_Ma_divide prog_7_method_11_code 2 (Option.none : Option Jvm.ClassFile.FieldType) ∈ lw_g := wd_in (i := 458) (by decide +kernel) (by decide +kernel)
theorem wd_459 : Cond.methodLink R_Ma 86 y_Ma_end ∈ lw_g := wd_in (i := 459) (by decide +kernel) (by decide +kernel)
theorem wd_461 : Cond.instanceMethod y_Ma_end ∈ lw_g := wd_in (i := 461) (by decide +kernel) (by decide +kernel)
theorem wd_462 : Cond.code y_Ma_end prog_7_method_14_code 2 (Option.none : Option Jvm.ClassFile.FieldType) ∈ lw_g := wd_in (i := 462) (by decide +kernel) (by decide +kernel)
theorem wd_464 : Cond.methodLink R_Ma 82 y_Ma_jump ∈ lw_g := wd_in (i := 464) (by decide +kernel) (by decide +kernel)
theorem wd_466 : Cond.instanceMethod y_Ma_jump ∈ lw_g := wd_in (i := 466) (by decide +kernel) (by decide +kernel)
theorem wd_467 : Cond.code y_Ma_jump prog_7_method_12_code 5 (Option.none : Option Jvm.ClassFile.FieldType) ∈ lw_g := wd_in (i := 467) (by decide +kernel) (by decide +kernel)
theorem wd_468 : Cond.methodLink R_Ma 101 y_Ma_passes ∈ lw_g := wd_in (i := 468) (by decide +kernel) (by decide +kernel)
theorem wd_470 : Cond.instanceMethod y_Ma_passes ∈ lw_g := wd_in (i := 470) (by decide +kernel) (by decide +kernel)
theorem wd_471 : Cond.code y_Ma_passes prog_7_method_13_code 3 (Option.some Jvm.ClassFile.FieldType.boolean) ∈ lw_g := wd_in (i := 471) (by decide +kernel) (by decide +kernel)
theorem wd_472 : Cond.methodLink R_Ma 105 y_In_distanceIfTrue ∈ lw_g := wd_in (i := 472) (by decide +kernel) (by decide +kernel)
theorem wd_473 : Cond.methodLink R_Ma 108 y_In_distanceIfFalse ∈ lw_g := wd_in (i := 473) (by decide +kernel) (by decide +kernel)
theorem wd_474 : Cond.methodLink R_Ma 90 y_Ma_copy ∈ lw_g := wd_in (i := 474) (by decide +kernel) (by decide +kernel)
theorem wd_476 : Cond.instanceMethod y_Ma_copy ∈ lw_g := wd_in (i := 476) (by decide +kernel) (by decide +kernel)
theorem wd_477 : Cond.code y_Ma_copy prog_7_method_9_code 2 (Option.none : Option Jvm.ClassFile.FieldType) ∈ lw_g := wd_in (i := 477) (by decide +kernel) (by decide +kernel)
theorem wd_486 : Cond.methodLink R_F 132 y_Ma_hasStored ∈ lw_g := wd_in (i := 486) (by decide +kernel) (by decide +kernel)
theorem wd_487 : Cond.instanceMethod y_Ma_hasStored ∈ lw_g := wd_in (i := 487) (by decide +kernel) (by decide +kernel)
theorem wd_488 : Cond.selects R_Ma y_Ma_hasStored y_Ma_hasStored ∈ lw_g := wd_in (i := 488) (by decide +kernel) (by decide +kernel)
theorem wd_489 : Cond.code y_Ma_hasStored prog_7_method_3_code 2 (Option.some Jvm.ClassFile.FieldType.boolean) ∈ lw_g := wd_in (i := 489) (by decide +kernel) (by decide +kernel)
theorem wd_490 : Cond.methodLink R_F 138 y_F_unsigned ∈ lw_g := wd_in (i := 490) (by decide +kernel) (by decide +kernel)
theorem d_Ma_forget_0 : decode b_Ma_forget 0 = .ok (.aload_n 0, 1) := by decide +kernel
theorem d_Ma_forget_1 : decode b_Ma_forget 1 = .ok (.iconst 0, 1) := by decide +kernel
theorem d_Ma_forget_2 : decode b_Ma_forget 2 = .ok (.putfield 13, 3) := by decide +kernel
theorem d_Ma_forget_5 : decode b_Ma_forget 5 = .ok (.aload_n 0, 1) := by decide +kernel
theorem d_Ma_forget_6 : decode b_Ma_forget 6 = .ok (.iconst 0, 1) := by decide +kernel
theorem d_Ma_forget_7 : decode b_Ma_forget 7 = .ok (.putfield 17, 3) := by decide +kernel
theorem d_Ma_forget_10 : decode b_Ma_forget 10 = .ok (.return_, 1) := by decide +kernel
theorem d_Ma_hasStored_0 : decode b_Ma_hasStored 0 = .ok (.aload_n 0, 1) := by decide +kernel
theorem d_Ma_hasStored_1 : decode b_Ma_hasStored 1 = .ok (.getfield 17, 3) := by decide +kernel
theorem d_Ma_hasStored_4 : decode b_Ma_hasStored 4 = .ok (.iload_n 1, 1) := by decide +kernel
theorem d_Ma_hasStored_5 : decode b_Ma_hasStored 5 = .ok (.iushr, 1) := by decide +kernel
theorem d_Ma_hasStored_6 : decode b_Ma_hasStored 6 = .ok (.iconst 1, 1) := by decide +kernel
theorem d_Ma_hasStored_7 : decode b_Ma_hasStored 7 = .ok (.iand, 1) := by decide +kernel
theorem d_Ma_hasStored_8 : decode b_Ma_hasStored 8 = .ok (.ifCond .eq 7, 3) := by decide +kernel
theorem d_Ma_hasStored_11 : decode b_Ma_hasStored 11 = .ok (.iconst 1, 1) := by decide +kernel
theorem d_Ma_hasStored_12 : decode b_Ma_hasStored 12 = .ok (.goto 4, 3) := by decide +kernel
theorem d_Ma_hasStored_15 : decode b_Ma_hasStored 15 = .ok (.iconst 0, 1) := by decide +kernel
theorem d_Ma_hasStored_16 : decode b_Ma_hasStored 16 = .ok (.ireturn, 1) := by decide +kernel
theorem d_Ma_begin_0 : decode b_Ma_begin 0 = .ok (.aload_n 0, 1) := by decide +kernel
theorem d_Ma_begin_1 : decode b_Ma_begin 1 = .ok (.invokevirtual 52, 3) := by decide +kernel
theorem d_Ma_begin_4 : decode b_Ma_begin 4 = .ok (.aload_n 0, 1) := by decide +kernel
theorem d_Ma_begin_5 : decode b_Ma_begin 5 = .ok (.iconst 0, 1) := by decide +kernel
theorem d_Ma_begin_6 : decode b_Ma_begin 6 = .ok (.putfield 55, 3) := by decide +kernel
theorem d_Ma_begin_9 : decode b_Ma_begin 9 = .ok (.aload_n 0, 1) := by decide +kernel
theorem d_Ma_begin_10 : decode b_Ma_begin 10 = .ok (.iconst 0, 1) := by decide +kernel
theorem d_Ma_begin_11 : decode b_Ma_begin 11 = .ok (.putfield 58, 3) := by decide +kernel
theorem d_Ma_begin_14 : decode b_Ma_begin 14 = .ok (.aload_n 0, 1) := by decide +kernel
theorem d_Ma_begin_15 : decode b_Ma_begin 15 = .ok (.iconst 0, 1) := by decide +kernel
theorem d_Ma_begin_16 : decode b_Ma_begin 16 = .ok (.putfield 32, 3) := by decide +kernel
theorem d_Ma_begin_19 : decode b_Ma_begin 19 = .ok (.aload_n 0, 1) := by decide +kernel
theorem d_Ma_begin_20 : decode b_Ma_begin 20 = .ok (.iconst 0, 1) := by decide +kernel
theorem d_Ma_begin_21 : decode b_Ma_begin 21 = .ok (.putfield 23, 3) := by decide +kernel
theorem d_Ma_begin_24 : decode b_Ma_begin 24 = .ok (.aload_n 0, 1) := by decide +kernel
theorem d_Ma_begin_25 : decode b_Ma_begin 25 = .ok (.iconst 0, 1) := by decide +kernel
theorem d_Ma_begin_26 : decode b_Ma_begin 26 = .ok (.putfield 43, 3) := by decide +kernel
theorem d_Ma_begin_29 : decode b_Ma_begin 29 = .ok (.return_, 1) := by decide +kernel
theorem d_Ma_load_0 : decode b_Ma_load 0 = .ok (.iload_n 1, 1) := by decide +kernel
theorem d_Ma_load_1 : decode b_Ma_load 1 = .ok (.sipush 240, 3) := by decide +kernel
theorem d_Ma_load_4 : decode b_Ma_load 4 = .ok (.iand, 1) := by decide +kernel
theorem d_Ma_load_5 : decode b_Ma_load 5 = .ok (.lookupswitch 53 #[(0, 35), (32, 37), (96, 46)], 35) := by decide +kernel
theorem d_Ma_load_40 : decode b_Ma_load 40 = .ok (.iload_n 2, 1) := by decide +kernel
theorem d_Ma_load_41 : decode b_Ma_load 41 = .ok (.ireturn, 1) := by decide +kernel
theorem d_Ma_load_42 : decode b_Ma_load 42 = .ok (.aload_n 3, 1) := by decide +kernel
theorem d_Ma_load_43 : decode b_Ma_load 43 = .ok (.getfield 93, 3) := by decide +kernel
theorem d_Ma_load_46 : decode b_Ma_load 46 = .ok (.iload_n 2, 1) := by decide +kernel
theorem d_Ma_load_47 : decode b_Ma_load 47 = .ok (.iconst 4, 1) := by decide +kernel
theorem d_Ma_load_48 : decode b_Ma_load 48 = .ok (.idiv, 1) := by decide +kernel
theorem d_Ma_load_49 : decode b_Ma_load 49 = .ok (.iaload, 1) := by decide +kernel
theorem d_Ma_load_50 : decode b_Ma_load 50 = .ok (.ireturn, 1) := by decide +kernel
theorem d_Ma_load_51 : decode b_Ma_load 51 = .ok (.aload_n 0, 1) := by decide +kernel
theorem d_Ma_load_52 : decode b_Ma_load 52 = .ok (.getfield 9, 3) := by decide +kernel
theorem d_Ma_load_55 : decode b_Ma_load 55 = .ok (.iload_n 2, 1) := by decide +kernel
theorem d_Ma_load_56 : decode b_Ma_load 56 = .ok (.iaload, 1) := by decide +kernel
theorem d_Ma_load_57 : decode b_Ma_load 57 = .ok (.ireturn, 1) := by decide +kernel
theorem d_Ma_load_58 : decode b_Ma_load 58 = .ok (.bipush 64, 2) := by decide +kernel
theorem d_Ma_load_60 : decode b_Ma_load 60 = .ok (.ireturn, 1) := by decide +kernel
theorem d_Ma_store_0 : decode b_Ma_store 0 = .ok (.aload_n 0, 1) := by decide +kernel
theorem d_Ma_store_1 : decode b_Ma_store 1 = .ok (.getfield 9, 3) := by decide +kernel
theorem d_Ma_store_4 : decode b_Ma_store 4 = .ok (.iload_n 1, 1) := by decide +kernel
theorem d_Ma_store_5 : decode b_Ma_store 5 = .ok (.iload_n 2, 1) := by decide +kernel
theorem d_Ma_store_6 : decode b_Ma_store 6 = .ok (.iastore, 1) := by decide +kernel
theorem d_Ma_store_7 : decode b_Ma_store 7 = .ok (.aload_n 0, 1) := by decide +kernel
theorem d_Ma_store_8 : decode b_Ma_store 8 = .ok (.dup, 1) := by decide +kernel
theorem d_Ma_store_9 : decode b_Ma_store 9 = .ok (.getfield 17, 3) := by decide +kernel
theorem d_Ma_store_12 : decode b_Ma_store 12 = .ok (.iconst 1, 1) := by decide +kernel
theorem d_Ma_store_13 : decode b_Ma_store 13 = .ok (.iload_n 1, 1) := by decide +kernel
theorem d_Ma_store_14 : decode b_Ma_store 14 = .ok (.ishl, 1) := by decide +kernel
theorem d_Ma_store_15 : decode b_Ma_store 15 = .ok (.ior, 1) := by decide +kernel
theorem d_Ma_store_16 : decode b_Ma_store 16 = .ok (.putfield 17, 3) := by decide +kernel
theorem d_Ma_store_19 : decode b_Ma_store 19 = .ok (.return_, 1) := by decide +kernel
theorem d_Ma_copy_0 : decode b_Ma_copy 0 = .ok (.iload_n 1, 1) := by decide +kernel
theorem d_Ma_copy_1 : decode b_Ma_copy 1 = .ok (.bipush 7, 2) := by decide +kernel
theorem d_Ma_copy_3 : decode b_Ma_copy 3 = .ok (.if_icmp .ne 14, 3) := by decide +kernel
theorem d_Ma_copy_6 : decode b_Ma_copy 6 = .ok (.aload_n 0, 1) := by decide +kernel
theorem d_Ma_copy_7 : decode b_Ma_copy 7 = .ok (.aload_n 0, 1) := by decide +kernel
theorem d_Ma_copy_8 : decode b_Ma_copy 8 = .ok (.getfield 55, 3) := by decide +kernel
theorem d_Ma_copy_11 : decode b_Ma_copy 11 = .ok (.putfield 58, 3) := by decide +kernel
theorem d_Ma_copy_14 : decode b_Ma_copy 14 = .ok (.goto 11, 3) := by decide +kernel
theorem d_Ma_copy_17 : decode b_Ma_copy 17 = .ok (.aload_n 0, 1) := by decide +kernel
theorem d_Ma_copy_18 : decode b_Ma_copy 18 = .ok (.aload_n 0, 1) := by decide +kernel
theorem d_Ma_copy_19 : decode b_Ma_copy 19 = .ok (.getfield 58, 3) := by decide +kernel
theorem d_Ma_copy_22 : decode b_Ma_copy 22 = .ok (.putfield 55, 3) := by decide +kernel
theorem d_Ma_copy_25 : decode b_Ma_copy 25 = .ok (.return_, 1) := by decide +kernel
theorem d_Ma_end_0 : decode b_Ma_end 0 = .ok (.aload_n 0, 1) := by decide +kernel
theorem d_Ma_end_1 : decode b_Ma_end 1 = .ok (.iconst 1, 1) := by decide +kernel
theorem d_Ma_end_2 : decode b_Ma_end 2 = .ok (.putfield 23, 3) := by decide +kernel
theorem d_Ma_end_5 : decode b_Ma_end 5 = .ok (.aload_n 0, 1) := by decide +kernel
theorem d_Ma_end_6 : decode b_Ma_end 6 = .ok (.iload_n 1, 1) := by decide +kernel
theorem d_Ma_end_7 : decode b_Ma_end 7 = .ok (.putfield 43, 3) := by decide +kernel
theorem d_Ma_end_10 : decode b_Ma_end 10 = .ok (.return_, 1) := by decide +kernel
theorem d_Ma_divide_0 : decode b_Ma_divide 0 = .ok (.iload_n 1, 1) := by decide +kernel
theorem d_Ma_divide_1 : decode b_Ma_divide 1 = .ok (.ifCond .ne 11, 3) := by decide +kernel
theorem d_Ma_divide_4 : decode b_Ma_divide 4 = .ok (.aload_n 0, 1) := by decide +kernel
theorem d_Ma_divide_5 : decode b_Ma_divide 5 = .ok (.iconst 0, 1) := by decide +kernel
theorem d_Ma_divide_6 : decode b_Ma_divide 6 = .ok (.invokevirtual 86, 3) := by decide +kernel
theorem d_Ma_divide_9 : decode b_Ma_divide 9 = .ok (.goto 20, 3) := by decide +kernel
theorem d_Ma_divide_12 : decode b_Ma_divide 12 = .ok (.aload_n 0, 1) := by decide +kernel
theorem d_Ma_divide_13 : decode b_Ma_divide 13 = .ok (.aload_n 0, 1) := by decide +kernel
theorem d_Ma_divide_14 : decode b_Ma_divide 14 = .ok (.getfield 55, 3) := by decide +kernel
theorem d_Ma_divide_17 : decode b_Ma_divide 17 = .ok (.invokestatic 46, 3) := by decide +kernel
theorem d_Ma_divide_20 : decode b_Ma_divide 20 = .ok (.iload_n 1, 1) := by decide +kernel
theorem d_Ma_divide_21 : decode b_Ma_divide 21 = .ok (.invokestatic 46, 3) := by decide +kernel
theorem d_Ma_divide_24 : decode b_Ma_divide 24 = .ok (.ldiv, 1) := by decide +kernel
theorem d_Ma_divide_25 : decode b_Ma_divide 25 = .ok (.l2i, 1) := by decide +kernel
theorem d_Ma_divide_26 : decode b_Ma_divide 26 = .ok (.putfield 55, 3) := by decide +kernel
theorem d_Ma_divide_29 : decode b_Ma_divide 29 = .ok (.return_, 1) := by decide +kernel
theorem d_Ma_compute_0 : decode b_Ma_compute 0 = .ok (.iload_n 1, 1) := by decide +kernel
theorem d_Ma_compute_1 : decode b_Ma_compute 1 = .ok (.lookupswitch 200 #[(0, 83), (16, 96), (32, 109), (48, 122), (64, 130), (80, 143), (96, 156), (112, 172), (128, 188)], 83) := by decide +kernel
theorem d_Ma_compute_84 : decode b_Ma_compute 84 = .ok (.aload_n 0, 1) := by decide +kernel
theorem d_Ma_compute_85 : decode b_Ma_compute 85 = .ok (.aload_n 0, 1) := by decide +kernel
theorem d_Ma_compute_86 : decode b_Ma_compute 86 = .ok (.getfield 55, 3) := by decide +kernel
theorem d_Ma_compute_89 : decode b_Ma_compute 89 = .ok (.iload_n 2, 1) := by decide +kernel
theorem d_Ma_compute_90 : decode b_Ma_compute 90 = .ok (.iadd, 1) := by decide +kernel
theorem d_Ma_compute_91 : decode b_Ma_compute 91 = .ok (.putfield 55, 3) := by decide +kernel
theorem d_Ma_compute_94 : decode b_Ma_compute 94 = .ok (.goto 117, 3) := by decide +kernel
theorem d_Ma_compute_97 : decode b_Ma_compute 97 = .ok (.aload_n 0, 1) := by decide +kernel
theorem d_Ma_compute_98 : decode b_Ma_compute 98 = .ok (.aload_n 0, 1) := by decide +kernel
theorem d_Ma_compute_99 : decode b_Ma_compute 99 = .ok (.getfield 55, 3) := by decide +kernel
theorem d_Ma_compute_102 : decode b_Ma_compute 102 = .ok (.iload_n 2, 1) := by decide +kernel
theorem d_Ma_compute_103 : decode b_Ma_compute 103 = .ok (.isub, 1) := by decide +kernel
theorem d_Ma_compute_104 : decode b_Ma_compute 104 = .ok (.putfield 55, 3) := by decide +kernel
theorem d_Ma_compute_107 : decode b_Ma_compute 107 = .ok (.goto 104, 3) := by decide +kernel
theorem d_Ma_compute_110 : decode b_Ma_compute 110 = .ok (.aload_n 0, 1) := by decide +kernel
theorem d_Ma_compute_111 : decode b_Ma_compute 111 = .ok (.aload_n 0, 1) := by decide +kernel
theorem d_Ma_compute_112 : decode b_Ma_compute 112 = .ok (.getfield 55, 3) := by decide +kernel
theorem d_Ma_compute_115 : decode b_Ma_compute 115 = .ok (.iload_n 2, 1) := by decide +kernel
theorem d_Ma_compute_116 : decode b_Ma_compute 116 = .ok (.imul, 1) := by decide +kernel
theorem d_Ma_compute_117 : decode b_Ma_compute 117 = .ok (.putfield 55, 3) := by decide +kernel
theorem d_Ma_compute_120 : decode b_Ma_compute 120 = .ok (.goto 91, 3) := by decide +kernel
theorem d_Ma_compute_123 : decode b_Ma_compute 123 = .ok (.aload_n 0, 1) := by decide +kernel
theorem d_Ma_compute_124 : decode b_Ma_compute 124 = .ok (.iload_n 2, 1) := by decide +kernel
theorem d_Ma_compute_125 : decode b_Ma_compute 125 = .ok (.invokevirtual 98, 3) := by decide +kernel
theorem d_Ma_compute_128 : decode b_Ma_compute 128 = .ok (.goto 83, 3) := by decide +kernel
theorem d_Ma_compute_131 : decode b_Ma_compute 131 = .ok (.aload_n 0, 1) := by decide +kernel
theorem d_Ma_compute_132 : decode b_Ma_compute 132 = .ok (.aload_n 0, 1) := by decide +kernel
theorem d_Ma_compute_133 : decode b_Ma_compute 133 = .ok (.getfield 55, 3) := by decide +kernel
theorem d_Ma_compute_136 : decode b_Ma_compute 136 = .ok (.iload_n 2, 1) := by decide +kernel
theorem d_Ma_compute_137 : decode b_Ma_compute 137 = .ok (.ior, 1) := by decide +kernel
theorem d_Ma_compute_138 : decode b_Ma_compute 138 = .ok (.putfield 55, 3) := by decide +kernel
theorem d_Ma_compute_141 : decode b_Ma_compute 141 = .ok (.goto 70, 3) := by decide +kernel
theorem d_Ma_compute_144 : decode b_Ma_compute 144 = .ok (.aload_n 0, 1) := by decide +kernel
theorem d_Ma_compute_145 : decode b_Ma_compute 145 = .ok (.aload_n 0, 1) := by decide +kernel
theorem d_Ma_compute_146 : decode b_Ma_compute 146 = .ok (.getfield 55, 3) := by decide +kernel
theorem d_Ma_compute_149 : decode b_Ma_compute 149 = .ok (.iload_n 2, 1) := by decide +kernel
theorem d_Ma_compute_150 : decode b_Ma_compute 150 = .ok (.iand, 1) := by decide +kernel
theorem d_Ma_compute_151 : decode b_Ma_compute 151 = .ok (.putfield 55, 3) := by decide +kernel
theorem d_Ma_compute_154 : decode b_Ma_compute 154 = .ok (.goto 57, 3) := by decide +kernel
theorem d_Ma_compute_157 : decode b_Ma_compute 157 = .ok (.aload_n 0, 1) := by decide +kernel
theorem d_Ma_compute_158 : decode b_Ma_compute 158 = .ok (.aload_n 0, 1) := by decide +kernel
theorem d_Ma_compute_159 : decode b_Ma_compute 159 = .ok (.getfield 55, 3) := by decide +kernel
theorem d_Ma_compute_162 : decode b_Ma_compute 162 = .ok (.iload_n 2, 1) := by decide +kernel
theorem d_Ma_compute_163 : decode b_Ma_compute 163 = .ok (.bipush 31, 2) := by decide +kernel
theorem d_Ma_compute_165 : decode b_Ma_compute 165 = .ok (.iand, 1) := by decide +kernel
theorem d_Ma_compute_166 : decode b_Ma_compute 166 = .ok (.ishl, 1) := by decide +kernel
theorem d_Ma_compute_167 : decode b_Ma_compute 167 = .ok (.putfield 55, 3) := by decide +kernel
theorem d_Ma_compute_170 : decode b_Ma_compute 170 = .ok (.goto 41, 3) := by decide +kernel
theorem d_Ma_compute_173 : decode b_Ma_compute 173 = .ok (.aload_n 0, 1) := by decide +kernel
theorem d_Ma_compute_174 : decode b_Ma_compute 174 = .ok (.aload_n 0, 1) := by decide +kernel
theorem d_Ma_compute_175 : decode b_Ma_compute 175 = .ok (.getfield 55, 3) := by decide +kernel
theorem d_Ma_compute_178 : decode b_Ma_compute 178 = .ok (.iload_n 2, 1) := by decide +kernel
theorem d_Ma_compute_179 : decode b_Ma_compute 179 = .ok (.bipush 31, 2) := by decide +kernel
theorem d_Ma_compute_181 : decode b_Ma_compute 181 = .ok (.iand, 1) := by decide +kernel
theorem d_Ma_compute_182 : decode b_Ma_compute 182 = .ok (.iushr, 1) := by decide +kernel
theorem d_Ma_compute_183 : decode b_Ma_compute 183 = .ok (.putfield 55, 3) := by decide +kernel
theorem d_Ma_compute_186 : decode b_Ma_compute 186 = .ok (.goto 25, 3) := by decide +kernel
theorem d_Ma_compute_189 : decode b_Ma_compute 189 = .ok (.aload_n 0, 1) := by decide +kernel
theorem d_Ma_compute_190 : decode b_Ma_compute 190 = .ok (.aload_n 0, 1) := by decide +kernel
theorem d_Ma_compute_191 : decode b_Ma_compute 191 = .ok (.getfield 55, 3) := by decide +kernel
theorem d_Ma_compute_194 : decode b_Ma_compute 194 = .ok (.ineg, 1) := by decide +kernel
theorem d_Ma_compute_195 : decode b_Ma_compute 195 = .ok (.putfield 55, 3) := by decide +kernel
theorem d_Ma_compute_198 : decode b_Ma_compute 198 = .ok (.goto 13, 3) := by decide +kernel
theorem d_Ma_compute_201 : decode b_Ma_compute 201 = .ok (.aload_n 0, 1) := by decide +kernel
theorem d_Ma_compute_202 : decode b_Ma_compute 202 = .ok (.aload_n 0, 1) := by decide +kernel
theorem d_Ma_compute_203 : decode b_Ma_compute 203 = .ok (.getfield 55, 3) := by decide +kernel
theorem d_Ma_compute_206 : decode b_Ma_compute 206 = .ok (.iload_n 2, 1) := by decide +kernel
theorem d_Ma_compute_207 : decode b_Ma_compute 207 = .ok (.ixor, 1) := by decide +kernel
theorem d_Ma_compute_208 : decode b_Ma_compute 208 = .ok (.putfield 55, 3) := by decide +kernel
theorem d_Ma_compute_211 : decode b_Ma_compute 211 = .ok (.return_, 1) := by decide +kernel
theorem d_Ma_passes_0 : decode b_Ma_passes 0 = .ok (.iload_n 1, 1) := by decide +kernel
theorem d_Ma_passes_1 : decode b_Ma_passes 1 = .ok (.lookupswitch 91 #[(16, 35), (32, 49), (48, 70)], 35) := by decide +kernel
theorem d_Ma_passes_36 : decode b_Ma_passes 36 = .ok (.aload_n 0, 1) := by decide +kernel
theorem d_Ma_passes_37 : decode b_Ma_passes 37 = .ok (.getfield 55, 3) := by decide +kernel
theorem d_Ma_passes_40 : decode b_Ma_passes 40 = .ok (.iload_n 2, 1) := by decide +kernel
theorem d_Ma_passes_41 : decode b_Ma_passes 41 = .ok (.if_icmp .ne 7, 3) := by decide +kernel
theorem d_Ma_passes_44 : decode b_Ma_passes 44 = .ok (.iconst 1, 1) := by decide +kernel
theorem d_Ma_passes_45 : decode b_Ma_passes 45 = .ok (.goto 4, 3) := by decide +kernel
theorem d_Ma_passes_48 : decode b_Ma_passes 48 = .ok (.iconst 0, 1) := by decide +kernel
theorem d_Ma_passes_49 : decode b_Ma_passes 49 = .ok (.ireturn, 1) := by decide +kernel
theorem d_Ma_passes_50 : decode b_Ma_passes 50 = .ok (.aload_n 0, 1) := by decide +kernel
theorem d_Ma_passes_51 : decode b_Ma_passes 51 = .ok (.getfield 55, 3) := by decide +kernel
theorem d_Ma_passes_54 : decode b_Ma_passes 54 = .ok (.invokestatic 46, 3) := by decide +kernel
theorem d_Ma_passes_57 : decode b_Ma_passes 57 = .ok (.iload_n 2, 1) := by decide +kernel
theorem d_Ma_passes_58 : decode b_Ma_passes 58 = .ok (.invokestatic 46, 3) := by decide +kernel
theorem d_Ma_passes_61 : decode b_Ma_passes 61 = .ok (.lcmp, 1) := by decide +kernel
theorem d_Ma_passes_62 : decode b_Ma_passes 62 = .ok (.ifCond .le 7, 3) := by decide +kernel
theorem d_Ma_passes_65 : decode b_Ma_passes 65 = .ok (.iconst 1, 1) := by decide +kernel
theorem d_Ma_passes_66 : decode b_Ma_passes 66 = .ok (.goto 4, 3) := by decide +kernel
theorem d_Ma_passes_69 : decode b_Ma_passes 69 = .ok (.iconst 0, 1) := by decide +kernel
theorem d_Ma_passes_70 : decode b_Ma_passes 70 = .ok (.ireturn, 1) := by decide +kernel
theorem d_Ma_passes_71 : decode b_Ma_passes 71 = .ok (.aload_n 0, 1) := by decide +kernel
theorem d_Ma_passes_72 : decode b_Ma_passes 72 = .ok (.getfield 55, 3) := by decide +kernel
theorem d_Ma_passes_75 : decode b_Ma_passes 75 = .ok (.invokestatic 46, 3) := by decide +kernel
theorem d_Ma_passes_78 : decode b_Ma_passes 78 = .ok (.iload_n 2, 1) := by decide +kernel
theorem d_Ma_passes_79 : decode b_Ma_passes 79 = .ok (.invokestatic 46, 3) := by decide +kernel
theorem d_Ma_passes_82 : decode b_Ma_passes 82 = .ok (.lcmp, 1) := by decide +kernel
theorem d_Ma_passes_83 : decode b_Ma_passes 83 = .ok (.ifCond .lt 7, 3) := by decide +kernel
theorem d_Ma_passes_86 : decode b_Ma_passes 86 = .ok (.iconst 1, 1) := by decide +kernel
theorem d_Ma_passes_87 : decode b_Ma_passes 87 = .ok (.goto 4, 3) := by decide +kernel
theorem d_Ma_passes_90 : decode b_Ma_passes 90 = .ok (.iconst 0, 1) := by decide +kernel
theorem d_Ma_passes_91 : decode b_Ma_passes 91 = .ok (.ireturn, 1) := by decide +kernel
theorem d_Ma_passes_92 : decode b_Ma_passes 92 = .ok (.aload_n 0, 1) := by decide +kernel
theorem d_Ma_passes_93 : decode b_Ma_passes 93 = .ok (.getfield 55, 3) := by decide +kernel
theorem d_Ma_passes_96 : decode b_Ma_passes 96 = .ok (.iload_n 2, 1) := by decide +kernel
theorem d_Ma_passes_97 : decode b_Ma_passes 97 = .ok (.iand, 1) := by decide +kernel
theorem d_Ma_passes_98 : decode b_Ma_passes 98 = .ok (.ifCond .eq 7, 3) := by decide +kernel
theorem d_Ma_passes_101 : decode b_Ma_passes 101 = .ok (.iconst 1, 1) := by decide +kernel
theorem d_Ma_passes_102 : decode b_Ma_passes 102 = .ok (.goto 4, 3) := by decide +kernel
theorem d_Ma_passes_105 : decode b_Ma_passes 105 = .ok (.iconst 0, 1) := by decide +kernel
theorem d_Ma_passes_106 : decode b_Ma_passes 106 = .ok (.ireturn, 1) := by decide +kernel
theorem d_Ma_jump_0 : decode b_Ma_jump 0 = .ok (.iload_n 3, 1) := by decide +kernel
theorem d_Ma_jump_1 : decode b_Ma_jump 1 = .ok (.iconst 5, 1) := by decide +kernel
theorem d_Ma_jump_2 : decode b_Ma_jump 2 = .ok (.if_icmp .ne 17, 3) := by decide +kernel
theorem d_Ma_jump_5 : decode b_Ma_jump 5 = .ok (.aload_n 0, 1) := by decide +kernel
theorem d_Ma_jump_6 : decode b_Ma_jump 6 = .ok (.dup, 1) := by decide +kernel
theorem d_Ma_jump_7 : decode b_Ma_jump 7 = .ok (.getfield 32, 3) := by decide +kernel
theorem d_Ma_jump_10 : decode b_Ma_jump 10 = .ok (.iload 4, 2) := by decide +kernel
theorem d_Ma_jump_12 : decode b_Ma_jump 12 = .ok (.iadd, 1) := by decide +kernel
theorem d_Ma_jump_13 : decode b_Ma_jump 13 = .ok (.putfield 32, 3) := by decide +kernel
theorem d_Ma_jump_16 : decode b_Ma_jump 16 = .ok (.goto 46, 3) := by decide +kernel
theorem d_Ma_jump_19 : decode b_Ma_jump 19 = .ok (.aload_n 0, 1) := by decide +kernel
theorem d_Ma_jump_20 : decode b_Ma_jump 20 = .ok (.iload_n 3, 1) := by decide +kernel
theorem d_Ma_jump_21 : decode b_Ma_jump 21 = .ok (.sipush 240, 3) := by decide +kernel
theorem d_Ma_jump_24 : decode b_Ma_jump 24 = .ok (.iand, 1) := by decide +kernel
theorem d_Ma_jump_25 : decode b_Ma_jump 25 = .ok (.iload 4, 2) := by decide +kernel
theorem d_Ma_jump_27 : decode b_Ma_jump 27 = .ok (.invokevirtual 101, 3) := by decide +kernel
theorem d_Ma_jump_30 : decode b_Ma_jump 30 = .ok (.ifCond .eq 19, 3) := by decide +kernel
theorem d_Ma_jump_33 : decode b_Ma_jump 33 = .ok (.aload_n 0, 1) := by decide +kernel
theorem d_Ma_jump_34 : decode b_Ma_jump 34 = .ok (.dup, 1) := by decide +kernel
theorem d_Ma_jump_35 : decode b_Ma_jump 35 = .ok (.getfield 32, 3) := by decide +kernel
theorem d_Ma_jump_38 : decode b_Ma_jump 38 = .ok (.lload_n 1, 1) := by decide +kernel
theorem d_Ma_jump_39 : decode b_Ma_jump 39 = .ok (.invokestatic 105, 3) := by decide +kernel
theorem d_Ma_jump_42 : decode b_Ma_jump 42 = .ok (.iadd, 1) := by decide +kernel
theorem d_Ma_jump_43 : decode b_Ma_jump 43 = .ok (.putfield 32, 3) := by decide +kernel
theorem d_Ma_jump_46 : decode b_Ma_jump 46 = .ok (.goto 16, 3) := by decide +kernel
theorem d_Ma_jump_49 : decode b_Ma_jump 49 = .ok (.aload_n 0, 1) := by decide +kernel
theorem d_Ma_jump_50 : decode b_Ma_jump 50 = .ok (.dup, 1) := by decide +kernel
theorem d_Ma_jump_51 : decode b_Ma_jump 51 = .ok (.getfield 32, 3) := by decide +kernel
theorem d_Ma_jump_54 : decode b_Ma_jump 54 = .ok (.lload_n 1, 1) := by decide +kernel
theorem d_Ma_jump_55 : decode b_Ma_jump 55 = .ok (.invokestatic 108, 3) := by decide +kernel
theorem d_Ma_jump_58 : decode b_Ma_jump 58 = .ok (.iadd, 1) := by decide +kernel
theorem d_Ma_jump_59 : decode b_Ma_jump 59 = .ok (.putfield 32, 3) := by decide +kernel
theorem d_Ma_jump_62 : decode b_Ma_jump 62 = .ok (.return_, 1) := by decide +kernel
theorem d_Ma_perform_0 : decode b_Ma_perform 0 = .ok (.lload_n 1, 1) := by decide +kernel
theorem d_Ma_perform_1 : decode b_Ma_perform 1 = .ok (.invokestatic 61, 3) := by decide +kernel
theorem d_Ma_perform_4 : decode b_Ma_perform 4 = .ok (.istore 4, 2) := by decide +kernel
theorem d_Ma_perform_6 : decode b_Ma_perform 6 = .ok (.lload_n 1, 1) := by decide +kernel
theorem d_Ma_perform_7 : decode b_Ma_perform 7 = .ok (.invokestatic 67, 3) := by decide +kernel
theorem d_Ma_perform_10 : decode b_Ma_perform 10 = .ok (.l2i, 1) := by decide +kernel
theorem d_Ma_perform_11 : decode b_Ma_perform 11 = .ok (.istore 5, 2) := by decide +kernel
theorem d_Ma_perform_13 : decode b_Ma_perform 13 = .ok (.iload 4, 2) := by decide +kernel
theorem d_Ma_perform_15 : decode b_Ma_perform 15 = .ok (.bipush 8, 2) := by decide +kernel
theorem d_Ma_perform_17 : decode b_Ma_perform 17 = .ok (.iand, 1) := by decide +kernel
theorem d_Ma_perform_18 : decode b_Ma_perform 18 = .ok (.ifCond .eq 10, 3) := by decide +kernel
theorem d_Ma_perform_21 : decode b_Ma_perform 21 = .ok (.aload_n 0, 1) := by decide +kernel
theorem d_Ma_perform_22 : decode b_Ma_perform 22 = .ok (.getfield 58, 3) := by decide +kernel
theorem d_Ma_perform_25 : decode b_Ma_perform 25 = .ok (.goto 5, 3) := by decide +kernel
theorem d_Ma_perform_28 : decode b_Ma_perform 28 = .ok (.iload 5, 2) := by decide +kernel
theorem d_Ma_perform_30 : decode b_Ma_perform 30 = .ok (.istore 6, 2) := by decide +kernel
theorem d_Ma_perform_32 : decode b_Ma_perform 32 = .ok (.iload 4, 2) := by decide +kernel
theorem d_Ma_perform_34 : decode b_Ma_perform 34 = .ok (.bipush 7, 2) := by decide +kernel
theorem d_Ma_perform_36 : decode b_Ma_perform 36 = .ok (.iand, 1) := by decide +kernel
theorem d_Ma_perform_37 : decode b_Ma_perform 37 = .ok (.tableswitch 151 0 6 #[43, 59, 75, 88, 101, 116, 128], 43) := by decide +kernel
theorem d_Ma_perform_80 : decode b_Ma_perform 80 = .ok (.aload_n 0, 1) := by decide +kernel
theorem d_Ma_perform_81 : decode b_Ma_perform 81 = .ok (.aload_n 0, 1) := by decide +kernel
theorem d_Ma_perform_82 : decode b_Ma_perform 82 = .ok (.iload 4, 2) := by decide +kernel
theorem d_Ma_perform_84 : decode b_Ma_perform 84 = .ok (.iload 5, 2) := by decide +kernel
theorem d_Ma_perform_86 : decode b_Ma_perform 86 = .ok (.aload_n 3, 1) := by decide +kernel
theorem d_Ma_perform_87 : decode b_Ma_perform 87 = .ok (.invokevirtual 71, 3) := by decide +kernel
theorem d_Ma_perform_90 : decode b_Ma_perform 90 = .ok (.putfield 55, 3) := by decide +kernel
theorem d_Ma_perform_93 : decode b_Ma_perform 93 = .ok (.goto 101, 3) := by decide +kernel
theorem d_Ma_perform_96 : decode b_Ma_perform 96 = .ok (.aload_n 0, 1) := by decide +kernel
theorem d_Ma_perform_97 : decode b_Ma_perform 97 = .ok (.aload_n 0, 1) := by decide +kernel
theorem d_Ma_perform_98 : decode b_Ma_perform 98 = .ok (.iload 4, 2) := by decide +kernel
theorem d_Ma_perform_100 : decode b_Ma_perform 100 = .ok (.iload 5, 2) := by decide +kernel
theorem d_Ma_perform_102 : decode b_Ma_perform 102 = .ok (.aload_n 3, 1) := by decide +kernel
theorem d_Ma_perform_103 : decode b_Ma_perform 103 = .ok (.invokevirtual 71, 3) := by decide +kernel
theorem d_Ma_perform_106 : decode b_Ma_perform 106 = .ok (.putfield 58, 3) := by decide +kernel
theorem d_Ma_perform_109 : decode b_Ma_perform 109 = .ok (.goto 85, 3) := by decide +kernel
theorem d_Ma_perform_112 : decode b_Ma_perform 112 = .ok (.aload_n 0, 1) := by decide +kernel
theorem d_Ma_perform_113 : decode b_Ma_perform 113 = .ok (.iload 5, 2) := by decide +kernel
theorem d_Ma_perform_115 : decode b_Ma_perform 115 = .ok (.aload_n 0, 1) := by decide +kernel
theorem d_Ma_perform_116 : decode b_Ma_perform 116 = .ok (.getfield 55, 3) := by decide +kernel
theorem d_Ma_perform_119 : decode b_Ma_perform 119 = .ok (.invokevirtual 75, 3) := by decide +kernel
theorem d_Ma_perform_122 : decode b_Ma_perform 122 = .ok (.goto 72, 3) := by decide +kernel
theorem d_Ma_perform_125 : decode b_Ma_perform 125 = .ok (.aload_n 0, 1) := by decide +kernel
theorem d_Ma_perform_126 : decode b_Ma_perform 126 = .ok (.iload 5, 2) := by decide +kernel
theorem d_Ma_perform_128 : decode b_Ma_perform 128 = .ok (.aload_n 0, 1) := by decide +kernel
theorem d_Ma_perform_129 : decode b_Ma_perform 129 = .ok (.getfield 58, 3) := by decide +kernel
theorem d_Ma_perform_132 : decode b_Ma_perform 132 = .ok (.invokevirtual 75, 3) := by decide +kernel
theorem d_Ma_perform_135 : decode b_Ma_perform 135 = .ok (.goto 59, 3) := by decide +kernel
theorem d_Ma_perform_138 : decode b_Ma_perform 138 = .ok (.aload_n 0, 1) := by decide +kernel
theorem d_Ma_perform_139 : decode b_Ma_perform 139 = .ok (.iload 4, 2) := by decide +kernel
theorem d_Ma_perform_141 : decode b_Ma_perform 141 = .ok (.sipush 240, 3) := by decide +kernel
theorem d_Ma_perform_144 : decode b_Ma_perform 144 = .ok (.iand, 1) := by decide +kernel
theorem d_Ma_perform_145 : decode b_Ma_perform 145 = .ok (.iload 6, 2) := by decide +kernel
theorem d_Ma_perform_147 : decode b_Ma_perform 147 = .ok (.invokevirtual 79, 3) := by decide +kernel
theorem d_Ma_perform_150 : decode b_Ma_perform 150 = .ok (.goto 44, 3) := by decide +kernel
theorem d_Ma_perform_153 : decode b_Ma_perform 153 = .ok (.aload_n 0, 1) := by decide +kernel
theorem d_Ma_perform_154 : decode b_Ma_perform 154 = .ok (.lload_n 1, 1) := by decide +kernel
theorem d_Ma_perform_155 : decode b_Ma_perform 155 = .ok (.iload 4, 2) := by decide +kernel
theorem d_Ma_perform_157 : decode b_Ma_perform 157 = .ok (.iload 6, 2) := by decide +kernel
theorem d_Ma_perform_159 : decode b_Ma_perform 159 = .ok (.invokevirtual 82, 3) := by decide +kernel
theorem d_Ma_perform_162 : decode b_Ma_perform 162 = .ok (.goto 32, 3) := by decide +kernel
theorem d_Ma_perform_165 : decode b_Ma_perform 165 = .ok (.aload_n 0, 1) := by decide +kernel
theorem d_Ma_perform_166 : decode b_Ma_perform 166 = .ok (.iload 4, 2) := by decide +kernel
theorem d_Ma_perform_168 : decode b_Ma_perform 168 = .ok (.bipush 6, 2) := by decide +kernel
theorem d_Ma_perform_170 : decode b_Ma_perform 170 = .ok (.if_icmp .ne 8, 3) := by decide +kernel
theorem d_Ma_perform_173 : decode b_Ma_perform 173 = .ok (.iload 5, 2) := by decide +kernel
theorem d_Ma_perform_175 : decode b_Ma_perform 175 = .ok (.goto 7, 3) := by decide +kernel
theorem d_Ma_perform_178 : decode b_Ma_perform 178 = .ok (.aload_n 0, 1) := by decide +kernel
theorem d_Ma_perform_179 : decode b_Ma_perform 179 = .ok (.getfield 55, 3) := by decide +kernel
theorem d_Ma_perform_182 : decode b_Ma_perform 182 = .ok (.invokevirtual 86, 3) := by decide +kernel
theorem d_Ma_perform_185 : decode b_Ma_perform 185 = .ok (.goto 9, 3) := by decide +kernel
theorem d_Ma_perform_188 : decode b_Ma_perform 188 = .ok (.aload_n 0, 1) := by decide +kernel
theorem d_Ma_perform_189 : decode b_Ma_perform 189 = .ok (.iload 4, 2) := by decide +kernel
theorem d_Ma_perform_191 : decode b_Ma_perform 191 = .ok (.invokevirtual 90, 3) := by decide +kernel
theorem d_Ma_perform_194 : decode b_Ma_perform 194 = .ok (.return_, 1) := by decide +kernel
theorem d_F_scratch_0 : decode b_F_scratch 0 = .ok (.iload_n 1, 1) := by decide +kernel
theorem d_F_scratch_1 : decode b_F_scratch 1 = .ok (.ifCond .lt 20, 3) := by decide +kernel
theorem d_F_scratch_4 : decode b_F_scratch 4 = .ok (.iload_n 1, 1) := by decide +kernel
theorem d_F_scratch_5 : decode b_F_scratch 5 = .ok (.bipush 16, 2) := by decide +kernel
theorem d_F_scratch_7 : decode b_F_scratch 7 = .ok (.if_icmp .ge 14, 3) := by decide +kernel
theorem d_F_scratch_10 : decode b_F_scratch 10 = .ok (.aload_n 0, 1) := by decide +kernel
theorem d_F_scratch_11 : decode b_F_scratch 11 = .ok (.getfield 42, 3) := by decide +kernel
theorem d_F_scratch_14 : decode b_F_scratch 14 = .ok (.iload_n 1, 1) := by decide +kernel
theorem d_F_scratch_15 : decode b_F_scratch 15 = .ok (.invokevirtual 132, 3) := by decide +kernel
theorem d_F_scratch_18 : decode b_F_scratch 18 = .ok (.ifCond .ne 7, 3) := by decide +kernel
theorem d_F_scratch_21 : decode b_F_scratch 21 = .ok (.ldc2_w 123, 3) := by decide +kernel
theorem d_F_scratch_24 : decode b_F_scratch 24 = .ok (.lreturn, 1) := by decide +kernel
theorem d_F_scratch_25 : decode b_F_scratch 25 = .ok (.aload_n 0, 1) := by decide +kernel
theorem d_F_scratch_26 : decode b_F_scratch 26 = .ok (.getfield 42, 3) := by decide +kernel
theorem d_F_scratch_29 : decode b_F_scratch 29 = .ok (.getfield 135, 3) := by decide +kernel
theorem d_F_scratch_32 : decode b_F_scratch 32 = .ok (.iload_n 1, 1) := by decide +kernel
theorem d_F_scratch_33 : decode b_F_scratch 33 = .ok (.iaload, 1) := by decide +kernel
theorem d_F_scratch_34 : decode b_F_scratch 34 = .ok (.invokestatic 138, 3) := by decide +kernel
theorem d_F_scratch_37 : decode b_F_scratch 37 = .ok (.lreturn, 1) := by decide +kernel
def m_Ma_forget (M : MT) : MT := (M.1, (0 : Int32), (0 : Int32), M.2.2.2.1, M.2.2.2.2.1, M.2.2.2.2.2.1, M.2.2.2.2.2.2.1, M.2.2.2.2.2.2.2)
set_option maxHeartbeats 4000000 in
set_option maxRecDepth 100000 in
theorem c_Ma_forget (l : Launch) (D : va_G) (dA : Nat → ClassId) (ad : Nat → Nat) (A : Nat → Prop) (hAd : AdOK 49 ad A) (w : Nat → Int32) (P : PT) (g : GT) (ss : Nat → Int32) (M : MT) : Met l y_Ma_forget (mW y_Ma_forget b_Ma_forget 1 none) { frames := 0, cells := 0, slots := 0, locals := 0 } (va_Pc [.ref (ad 11)] (fun U => CG D dA ad w P g ss M U)) (va_Qv (fun u : MT => u = m_Ma_forget M) (fun u t => CG D dA ad w P g ss u t) A) 0 0 A := by
  refine Met.ofW (cc := b_Ma_forget) (maxL := 1) (ret := none) (by decide) rfl ?_
  intro p e s m args below meth c s₁ B hml hv
  obtain ⟨rfl, hP, hK, hN⟩ := hv
  have hx := B.exec
  have hb := B.bytes
  have hr := B.returns
  have hlocks := B.notSynchronized
  have hts := fun (w : Cond) (h : w ∈ lw_g) => atoms_spec (ws := mW y_Ma_forget b_Ma_forget 1 none) B.pre w (List.mem_cons_of_mem _ h)
  have hown : s.vm.findClass R_Ma = some m.cls := findClass_of_methodNamed B.named
  have hS : va_S A s.heap s.heap [] := va_S.rf
  have hl := lv_entry ([.ref (ad 11)]) (n := 1) (Nat.le_of_ble_eq_true rfl)
  rw [lg_entry_eq]
  generalize (lg_sl ([.ref (ad 11)]) ++ List.replicate (1 - (lg_sl ([.ref (ad 11)])).length) Slot.unset).toArray = ls at hl ⊢
  have hl : lv_has ls 1 [(0, .ref (ad 11))] := hl
  refine lv_aload_n hx hb d_Ma_forget_0 rfl (lv_at hl 0 rfl) ?_
  refine lv_iconst (v := 0) hx hb d_Ma_forget_1 (by decide) ?_
  refine va_put (D := D) (ci := 4) (v := .int (0 : Int32)) (ty := .int) (C := R_Ma) (T := F_Ma) (N := 8) hx hb hts in_Ma t_Ma k_Ma n_Ma hown hK hP (wC_D hAd) hS 11 rfl rfl 1 (by decide) (hts _ wd_183) (fun _ h9 => h9) rfl (by decide +kernel) rfl rfl (Nat.le_of_ble_eq_true rfl) d_Ma_forget_2 (fun H locs hP _ hS => ?_)
  have hP : va_P D cls (wC ad dA w P g ss (M.1, (0 : Int32), M.2.2.1, M.2.2.2.1, M.2.2.2.2.1, M.2.2.2.2.2.1, M.2.2.2.2.2.2.1, M.2.2.2.2.2.2.2)) H := hP
  refine lv_aload_n hx hb d_Ma_forget_5 rfl (lv_at hl 0 rfl) ?_
  refine lv_iconst (v := 0) hx hb d_Ma_forget_6 (by decide) ?_
  refine va_put (D := D) (ci := 4) (v := .int (0 : Int32)) (ty := .int) (C := R_Ma) (T := F_Ma) (N := 8) hx hb hts in_Ma t_Ma k_Ma n_Ma hown hK hP (wC_D hAd) hS 11 rfl rfl 2 (by decide) (hts _ wd_185) (fun _ h9 => h9) rfl (by decide +kernel) rfl rfl (Nat.le_of_ble_eq_true rfl) d_Ma_forget_7 (fun H locs hP _ hS => ?_)
  have hP : va_P D cls (wC ad dA w P g ss (M.1, (0 : Int32), (0 : Int32), M.2.2.2.1, M.2.2.2.2.1, M.2.2.2.2.2.1, M.2.2.2.2.2.2.1, M.2.2.2.2.2.2.2)) H := hP
  exact W.vret hx hb hr (fun t ht hW => ⟨⟨_, rfl, (by rw [m_Ma_forget]), CG_at hP hK hN ht hW⟩, hS.F ht⟩) hS.2.2 d_Ma_forget_10
def m_Ma_hasStored (M : MT) (i : Int32) : Int32 := if (((M.2.2.1.toUInt32 >>> (i.toUInt32 &&& Int32.toUInt32 31)).toInt32) &&& (1 : Int32)) = (0 : Int32) then (0 : Int32) else (1 : Int32)
set_option maxHeartbeats 4000000 in
set_option maxRecDepth 100000 in
theorem c_Ma_hasStored (l : Launch) (D : va_G) (dA : Nat → ClassId) (ad : Nat → Nat) (w : Nat → Int32) (P : PT) (g : GT) (ss : Nat → Int32) (M : MT) (i : Int32) : Met l y_Ma_hasStored (mW y_Ma_hasStored b_Ma_hasStored 2 (some .boolean)) { frames := 0, cells := 0, slots := 0, locals := 0 } (va_Pc [.ref (ad 11), .int i] (fun U => CG D dA ad w P g ss M U)) (vp_Si (fun r => r = m_Ma_hasStored M i)) 0 0 (fun _ => False) := by
  refine Met.ofW (cc := b_Ma_hasStored) (maxL := 2) (ret := (some .boolean)) (by decide) rfl ?_
  intro p e s m args below meth c s₁ B hml hv
  obtain ⟨rfl, hP, hK, hN⟩ := hv
  have hx := B.exec
  have hb := B.bytes
  have hr := B.returns
  have hlocks := B.notSynchronized
  have hts := fun (w : Cond) (h : w ∈ lw_g) => atoms_spec (ws := mW y_Ma_hasStored b_Ma_hasStored 2 (some .boolean)) B.pre w (List.mem_cons_of_mem _ h)
  have hown : s.vm.findClass R_Ma = some m.cls := findClass_of_methodNamed B.named
  have hl := lv_entry ([.ref (ad 11), .int i]) (n := 2) (Nat.le_of_ble_eq_true rfl)
  rw [lg_entry_eq]
  generalize (lg_sl ([.ref (ad 11), .int i]) ++ List.replicate (2 - (lg_sl ([.ref (ad 11), .int i])).length) Slot.unset).toArray = ls at hl ⊢
  have hl : lv_has ls 2 [(0, .ref (ad 11)), (1, .int i)] := hl
  refine lv_aload_n hx hb d_Ma_hasStored_0 rfl (lv_at hl 0 rfl) ?_
  refine va_get (D := D) (ci := 4) (v := .int M.2.2.1) (C := R_Ma) (T := F_Ma) (N := 8) hx hb hts in_Ma hown hK hP 11 rfl rfl 2 (by decide) (hts _ wd_185) (fun _ h9 => h9) rfl d_Ma_hasStored_1 ?_
  refine lv_iload_n hx hb d_Ma_hasStored_4 rfl (lv_at hl 1 rfl) ?_
  refine lv_iushr hx hb d_Ma_hasStored_5 rfl ?_
  refine lv_iconst (v := 1) hx hb d_Ma_hasStored_6 (by decide) ?_
  refine lv_iand hx hb d_Ma_hasStored_7 ?_
  refine lv_if_eq (tgt := 15) hx hb d_Ma_hasStored_8 (by decide) (fun h1 => ?_) (fun h1 => ?_)
  · refine lv_iconst (v := 0) hx hb d_Ma_hasStored_15 (by decide) ?_
    exact W.zret hx hb hr rfl (fun t ht hW => ⟨_, rfl, (by rw [m_Ma_hasStored, if_pos h1]), ht⟩) (fun _ h => by cases h) d_Ma_hasStored_16
  refine lv_iconst (v := 1) hx hb d_Ma_hasStored_11 (by decide) ?_
  refine lv_goto (tgt := 16) hx hb d_Ma_hasStored_12 (by decide) ?_
  exact W.zret hx hb hr rfl (fun t ht hW => ⟨_, rfl, (by rw [m_Ma_hasStored, if_neg h1]), ht⟩) (fun _ h => by cases h) d_Ma_hasStored_16
def m_Ma_begin (M : MT) : MT := ((m_Ma_forget M).1, (m_Ma_forget M).2.1, (m_Ma_forget M).2.2.1, (0 : Int32), (0 : Int32), (0 : Int32), (0 : Int32), (0 : Int32))
set_option maxHeartbeats 4000000 in
set_option maxRecDepth 100000 in
theorem c_Ma_begin (l : Launch) (D : va_G) (dA : Nat → ClassId) (ad : Nat → Nat) (A : Nat → Prop) (hAd : AdOK 49 ad A) (w : Nat → Int32) (P : PT) (g : GT) (ss : Nat → Int32) (M : MT) : Met l y_Ma_begin (mW y_Ma_begin b_Ma_begin 1 none) { frames := 1, cells := 0, slots := 0, locals := 20 } (va_Pc [.ref (ad 11)] (fun U => CG D dA ad w P g ss M U)) (va_Qv (fun u : MT => u = m_Ma_begin M) (fun u t => CG D dA ad w P g ss u t) A) 0 0 A := by
  refine Met.ofW (cc := b_Ma_begin) (maxL := 1) (ret := none) (by decide) rfl ?_
  intro p e s m args below meth c s₁ B hml hv
  obtain ⟨rfl, hP, hK, hN⟩ := hv
  have hx := B.exec
  have hb := B.bytes
  have hr := B.returns
  have hlocks := B.notSynchronized
  have hts := fun (w : Cond) (h : w ∈ lw_g) => atoms_spec (ws := mW y_Ma_begin b_Ma_begin 1 none) B.pre w (List.mem_cons_of_mem _ h)
  have hown : s.vm.findClass R_Ma = some m.cls := findClass_of_methodNamed B.named
  have hS : va_S A s.heap s.heap [] := va_S.rf
  have hl := lv_entry ([.ref (ad 11)]) (n := 1) (Nat.le_of_ble_eq_true rfl)
  rw [lg_entry_eq]
  generalize (lg_sl ([.ref (ad 11)]) ++ List.replicate (1 - (lg_sl ([.ref (ad 11)])).length) Slot.unset).toArray = ls at hl ⊢
  have hl : lv_has ls 1 [(0, .ref (ad 11))] := hl
  refine lv_aload_n hx hb d_Ma_begin_0 rfl (lv_at hl 0 rfl) ?_
  refine va_callv (va_runV (As := []) (rest := []) ⟨hx, hb, hml, hown, hts⟩ (c_Ma_forget l D dA ad A hAd w P g ss M) (cwV 0 hts (g_V wd_436 wd_424 wd_425 wd_34 wd_426) rfl rfl rfl (by decide +kernel) ⟨Nat.le_of_ble_eq_true rfl, Nat.le_of_ble_eq_true rfl⟩) ⟨CG_fb, (va_recv (ci := 4) (q := (R_Ma, F_Ma, 8)) (q0 := 11) hK hP rfl rfl), fun U hU hW => ⟨rfl, CG_at hP hK hN hU hW⟩⟩ rfl rfl hl.1 rfl (lv_room (Nat.le_of_ble_eq_true rfl)) d_Ma_begin_1 ⟨Nat.le_of_ble_eq_true rfl, Nat.le_of_ble_eq_true rfl⟩) hS (fun _ _ h => h) (fun _ h => h) (fun u1 t H locs ht hvm hu hB hz hk hS => ?_)
  subst hu
  obtain ⟨hP, -⟩ := hB
  rw [ht] at hP
  have hP : va_P D cls (wC ad dA w P g ss (m_Ma_forget M)) H := hP
  refine lv_aload_n hx hb d_Ma_begin_4 rfl (lv_at hl 0 rfl) ?_
  refine lv_iconst (v := 0) hx hb d_Ma_begin_5 (by decide) ?_
  refine va_put (D := D) (ci := 4) (v := .int (0 : Int32)) (ty := .int) (C := R_Ma) (T := F_Ma) (N := 8) hx hb hts in_Ma t_Ma k_Ma n_Ma hown hK hP (wC_D hAd) hS 11 rfl rfl 3 (by decide) (hts _ wd_186) (fun _ h9 => h9) rfl (by decide +kernel) rfl rfl (Nat.le_of_ble_eq_true rfl) d_Ma_begin_6 (fun H locs hP _ hS => ?_)
  have hP : va_P D cls (wC ad dA w P g ss ((m_Ma_forget M).1, (m_Ma_forget M).2.1, (m_Ma_forget M).2.2.1, (0 : Int32), (m_Ma_forget M).2.2.2.2.1, (m_Ma_forget M).2.2.2.2.2.1, (m_Ma_forget M).2.2.2.2.2.2.1, (m_Ma_forget M).2.2.2.2.2.2.2)) H := hP
  refine lv_aload_n hx hb d_Ma_begin_9 rfl (lv_at hl 0 rfl) ?_
  refine lv_iconst (v := 0) hx hb d_Ma_begin_10 (by decide) ?_
  refine va_put (D := D) (ci := 4) (v := .int (0 : Int32)) (ty := .int) (C := R_Ma) (T := F_Ma) (N := 8) hx hb hts in_Ma t_Ma k_Ma n_Ma hown hK hP (wC_D hAd) hS 11 rfl rfl 4 (by decide) (hts _ wd_187) (fun _ h9 => h9) rfl (by decide +kernel) rfl rfl (Nat.le_of_ble_eq_true rfl) d_Ma_begin_11 (fun H locs hP _ hS => ?_)
  have hP : va_P D cls (wC ad dA w P g ss ((m_Ma_forget M).1, (m_Ma_forget M).2.1, (m_Ma_forget M).2.2.1, (0 : Int32), (0 : Int32), (m_Ma_forget M).2.2.2.2.2.1, (m_Ma_forget M).2.2.2.2.2.2.1, (m_Ma_forget M).2.2.2.2.2.2.2)) H := hP
  refine lv_aload_n hx hb d_Ma_begin_14 rfl (lv_at hl 0 rfl) ?_
  refine lv_iconst (v := 0) hx hb d_Ma_begin_15 (by decide) ?_
  refine va_put (D := D) (ci := 4) (v := .int (0 : Int32)) (ty := .int) (C := R_Ma) (T := F_Ma) (N := 8) hx hb hts in_Ma t_Ma k_Ma n_Ma hown hK hP (wC_D hAd) hS 11 rfl rfl 5 (by decide) (hts _ wd_188) (fun _ h9 => h9) rfl (by decide +kernel) rfl rfl (Nat.le_of_ble_eq_true rfl) d_Ma_begin_16 (fun H locs hP _ hS => ?_)
  have hP : va_P D cls (wC ad dA w P g ss ((m_Ma_forget M).1, (m_Ma_forget M).2.1, (m_Ma_forget M).2.2.1, (0 : Int32), (0 : Int32), (0 : Int32), (m_Ma_forget M).2.2.2.2.2.2.1, (m_Ma_forget M).2.2.2.2.2.2.2)) H := hP
  refine lv_aload_n hx hb d_Ma_begin_19 rfl (lv_at hl 0 rfl) ?_
  refine lv_iconst (v := 0) hx hb d_Ma_begin_20 (by decide) ?_
  refine va_put (D := D) (ci := 4) (v := .int (0 : Int32)) (ty := .boolean) (C := R_Ma) (T := F_Ma) (N := 8) hx hb hts in_Ma t_Ma k_Ma n_Ma hown hK hP (wC_D hAd) hS 11 rfl rfl 6 (by decide) (hts _ wd_189) (fun _ h9 => h9) rfl (by decide +kernel) rfl rfl (Nat.le_of_ble_eq_true rfl) d_Ma_begin_21 (fun H locs hP _ hS => ?_)
  have hP : va_P D cls (wC ad dA w P g ss ((m_Ma_forget M).1, (m_Ma_forget M).2.1, (m_Ma_forget M).2.2.1, (0 : Int32), (0 : Int32), (0 : Int32), (0 : Int32), (m_Ma_forget M).2.2.2.2.2.2.2)) H := hP
  refine lv_aload_n hx hb d_Ma_begin_24 rfl (lv_at hl 0 rfl) ?_
  refine lv_iconst (v := 0) hx hb d_Ma_begin_25 (by decide) ?_
  refine va_put (D := D) (ci := 4) (v := .int (0 : Int32)) (ty := .int) (C := R_Ma) (T := F_Ma) (N := 8) hx hb hts in_Ma t_Ma k_Ma n_Ma hown hK hP (wC_D hAd) hS 11 rfl rfl 7 (by decide) (hts _ wd_190) (fun _ h9 => h9) rfl (by decide +kernel) rfl rfl (Nat.le_of_ble_eq_true rfl) d_Ma_begin_26 (fun H locs hP _ hS => ?_)
  have hP : va_P D cls (wC ad dA w P g ss ((m_Ma_forget M).1, (m_Ma_forget M).2.1, (m_Ma_forget M).2.2.1, (0 : Int32), (0 : Int32), (0 : Int32), (0 : Int32), (0 : Int32))) H := hP
  exact W.vret hx hb hr (fun t ht hW => ⟨⟨_, rfl, (by rw [m_Ma_begin]), CG_at hP hK hN ht hW⟩, hS.F ht⟩) hS.2.2 d_Ma_begin_29
def m_Ma_load (w : Nat → Int32) (M : MT) (cd : Int32) (k : Int32) : Int32 := if (cd &&& (240 : Int32)) = (0 : Int32) then k else if (cd &&& (240 : Int32)) = (32 : Int32) then w (k / (4 : Int32)).toNatClampNeg else if (cd &&& (240 : Int32)) = (96 : Int32) then M.1 k.toNatClampNeg else (64 : Int32)
set_option maxHeartbeats 4000000 in
set_option maxRecDepth 100000 in
theorem c_Ma_load (l : Launch) (D : va_G) (dA : Nat → ClassId) (ad : Nat → Nat) (w : Nat → Int32) (P : PT) (g : GT) (ss : Nat → Int32) (M : MT) (cd : Int32) (k : Int32) (hw : cd &&& (240 : Int32) = (32 : Int32) → vp_in (k / (4 : Int32)) 16) (hc : cd &&& (240 : Int32) = (96 : Int32) → vp_in k 16) : Met l y_Ma_load (mW y_Ma_load b_Ma_load 4 (some .int)) { frames := 0, cells := 0, slots := 0, locals := 0 } (va_Pc [.ref (ad 11), .int cd, .int k, .ref (ad 1)] (fun U => CG D dA ad w P g ss M U)) (vp_Si (fun r => r = m_Ma_load w M cd k)) 0 0 (fun _ => False) := by
  refine Met.ofW (cc := b_Ma_load) (maxL := 4) (ret := (some .int)) (by decide) rfl ?_
  intro p e s m args below meth c s₁ B hml hv
  obtain ⟨rfl, hP, hK, hN⟩ := hv
  have hx := B.exec
  have hb := B.bytes
  have hr := B.returns
  have hlocks := B.notSynchronized
  have hts := fun (w : Cond) (h : w ∈ lw_g) => atoms_spec (ws := mW y_Ma_load b_Ma_load 4 (some .int)) B.pre w (List.mem_cons_of_mem _ h)
  have hown : s.vm.findClass R_Ma = some m.cls := findClass_of_methodNamed B.named
  have hl := lv_entry ([.ref (ad 11), .int cd, .int k, .ref (ad 1)]) (n := 4) (Nat.le_of_ble_eq_true rfl)
  rw [lg_entry_eq]
  generalize (lg_sl ([.ref (ad 11), .int cd, .int k, .ref (ad 1)]) ++ List.replicate (4 - (lg_sl ([.ref (ad 11), .int cd, .int k, .ref (ad 1)])).length) Slot.unset).toArray = ls at hl ⊢
  have hl : lv_has ls 4 [(0, .ref (ad 11)), (1, .int cd), (2, .int k), (3, .ref (ad 1))] := hl
  refine lv_iload_n hx hb d_Ma_load_0 rfl (lv_at hl 1 rfl) ?_
  refine lv_sipush (v := 240) hx hb d_Ma_load_1 (by decide) ?_
  refine lv_iand hx hb d_Ma_load_4 ?_
  by_cases h1 : cd &&& (240 : Int32) = (0 : Int32)
  · refine lv_lookup (tgt := 40) (off := 35) hx hb d_Ma_load_5 (by decide) (by rw [h1] <;> rfl) (by decide) ?_
    refine lv_iload_n hx hb d_Ma_load_40 rfl (lv_at hl 2 rfl) ?_
    exact W.iret hx hb hr (fun t ht hW => ⟨_, rfl, (by rw [m_Ma_load, if_pos h1]), ht⟩) (fun _ h => by cases h) d_Ma_load_41
  by_cases h2 : cd &&& (240 : Int32) = (32 : Int32)
  · refine lv_lookup (tgt := 42) (off := 37) hx hb d_Ma_load_5 (by decide) (by rw [h2] <;> rfl) (by decide) ?_
    refine lv_aload_n hx hb d_Ma_load_42 rfl (lv_at hl 3 rfl) ?_
    refine va_get (D := D) (ci := 1) (v := .ref (ad 2)) (C := R_Ca) (T := F_Ca) (N := 1) hx hb hts in_Ca hown hK hP 1 rfl rfl 0 (by decide) (hts _ wd_54) (fun _ h9 => h9) rfl d_Ma_load_43 ?_
    refine lv_iload_n hx hb d_Ma_load_46 rfl (lv_at hl 2 rfl) ?_
    refine lv_iconst (v := 4) hx hb d_Ma_load_47 (by decide) ?_
    refine lv_idiv hx hb d_Ma_load_48 (by decide) ?_
    refine va_iald (n := 16) (f := w) hx hb hK hP 2 0 rfl rfl (hw (by assumption)) d_Ma_load_49 ?_
    exact W.iret hx hb hr (fun t ht hW => ⟨_, rfl, (by rw [m_Ma_load, if_neg h1, if_pos h2]), ht⟩) (fun _ h => by cases h) d_Ma_load_50
  by_cases h3 : cd &&& (240 : Int32) = (96 : Int32)
  · refine lv_lookup (tgt := 51) (off := 46) hx hb d_Ma_load_5 (by decide) (by rw [h3] <;> rfl) (by decide) ?_
    refine lv_aload_n hx hb d_Ma_load_51 rfl (lv_at hl 0 rfl) ?_
    refine va_get (D := D) (ci := 4) (v := .ref (ad 12)) (C := R_Ma) (T := F_Ma) (N := 8) hx hb hts in_Ma hown hK hP 11 rfl rfl 0 (by decide) (hts _ wd_181) (fun _ h9 => h9) rfl d_Ma_load_52 ?_
    refine lv_iload_n hx hb d_Ma_load_55 rfl (lv_at hl 2 rfl) ?_
    refine va_iald (n := 16) (f := M.1) hx hb hK hP 12 0 rfl rfl (hc (by assumption)) d_Ma_load_56 ?_
    exact W.iret hx hb hr (fun t ht hW => ⟨_, rfl, (by rw [m_Ma_load, if_neg h1, if_neg h2, if_pos h3]), ht⟩) (fun _ h => by cases h) d_Ma_load_57
  refine lv_lookup (tgt := 58) (off := 53) hx hb d_Ma_load_5 (by decide) ((lv_osw h1 (by decide)).trans ((lv_osw h2 (by decide)).trans ((lv_osw h3 (by decide)).trans rfl))) (by decide) ?_
  refine lv_bipush (v := 64) hx hb d_Ma_load_58 (by decide) ?_
  exact W.iret hx hb hr (fun t ht hW => ⟨_, rfl, (by rw [m_Ma_load, if_neg h1, if_neg h2, if_neg h3]), ht⟩) (fun _ h => by cases h) d_Ma_load_60
def m_Ma_store (M : MT) (k : Int32) (v : Int32) : MT := (upd M.1 k.toNatClampNeg v, M.2.1, M.2.2.1 ||| ((1 : Int32) <<< (k &&& 31)), M.2.2.2.1, M.2.2.2.2.1, M.2.2.2.2.2.1, M.2.2.2.2.2.2.1, M.2.2.2.2.2.2.2)
set_option maxHeartbeats 4000000 in
set_option maxRecDepth 100000 in
theorem c_Ma_store (l : Launch) (D : va_G) (dA : Nat → ClassId) (ad : Nat → Nat) (A : Nat → Prop) (hAd : AdOK 49 ad A) (w : Nat → Int32) (P : PT) (g : GT) (ss : Nat → Int32) (M : MT) (k : Int32) (v : Int32) (hk : vp_in k 16) : Met l y_Ma_store (mW y_Ma_store b_Ma_store 3 none) { frames := 0, cells := 0, slots := 0, locals := 0 } (va_Pc [.ref (ad 11), .int k, .int v] (fun U => CG D dA ad w P g ss M U)) (va_Qv (fun u : MT => u = m_Ma_store M k v) (fun u t => CG D dA ad w P g ss u t) A) 0 0 A := by
  refine Met.ofW (cc := b_Ma_store) (maxL := 3) (ret := none) (by decide) rfl ?_
  intro p e s m args below meth c s₁ B hml hv
  obtain ⟨rfl, hP, hK, hN⟩ := hv
  have hx := B.exec
  have hb := B.bytes
  have hr := B.returns
  have hlocks := B.notSynchronized
  have hts := fun (w : Cond) (h : w ∈ lw_g) => atoms_spec (ws := mW y_Ma_store b_Ma_store 3 none) B.pre w (List.mem_cons_of_mem _ h)
  have hown : s.vm.findClass R_Ma = some m.cls := findClass_of_methodNamed B.named
  have hS : va_S A s.heap s.heap [] := va_S.rf
  have hl := lv_entry ([.ref (ad 11), .int k, .int v]) (n := 3) (Nat.le_of_ble_eq_true rfl)
  rw [lg_entry_eq]
  generalize (lg_sl ([.ref (ad 11), .int k, .int v]) ++ List.replicate (3 - (lg_sl ([.ref (ad 11), .int k, .int v])).length) Slot.unset).toArray = ls at hl ⊢
  have hl : lv_has ls 3 [(0, .ref (ad 11)), (1, .int k), (2, .int v)] := hl
  refine lv_aload_n hx hb d_Ma_store_0 rfl (lv_at hl 0 rfl) ?_
  refine va_get (D := D) (ci := 4) (v := .ref (ad 12)) (C := R_Ma) (T := F_Ma) (N := 8) hx hb hts in_Ma hown hK hP 11 rfl rfl 0 (by decide) (hts _ wd_181) (fun _ h9 => h9) rfl d_Ma_store_1 ?_
  refine lv_iload_n hx hb d_Ma_store_4 rfl (lv_at hl 1 rfl) ?_
  refine lv_iload_n hx hb d_Ma_store_5 rfl (lv_at hl 2 rfl) ?_
  refine va_iast (n := 16) (f := M.1) hx hb hK hP (wC_D hAd) hS 12 0 rfl rfl hk d_Ma_store_6 (fun H locs hP _ hS => ?_)
  have hP : va_P D cls (wC ad dA w P g ss (upd M.1 k.toNatClampNeg v, M.2.1, M.2.2.1, M.2.2.2.1, M.2.2.2.2.1, M.2.2.2.2.2.1, M.2.2.2.2.2.2.1, M.2.2.2.2.2.2.2)) H := hP
  refine lv_aload_n hx hb d_Ma_store_7 rfl (lv_at hl 0 rfl) ?_
  refine lv_dup hx hb d_Ma_store_8 rfl ?_
  refine va_get (D := D) (ci := 4) (v := .int M.2.2.1) (C := R_Ma) (T := F_Ma) (N := 8) hx hb hts in_Ma hown hK hP 11 rfl rfl 2 (by decide) (hts _ wd_185) (fun _ h9 => h9) rfl d_Ma_store_9 ?_
  refine lv_iconst (v := 1) hx hb d_Ma_store_12 (by decide) ?_
  refine lv_iload_n hx hb d_Ma_store_13 rfl (lv_at hl 1 rfl) ?_
  refine lv_ishl hx hb d_Ma_store_14 ?_
  refine lv_ior hx hb d_Ma_store_15 ?_
  refine va_put (D := D) (ci := 4) (v := .int (M.2.2.1 ||| ((1 : Int32) <<< (k &&& 31)))) (ty := .int) (C := R_Ma) (T := F_Ma) (N := 8) hx hb hts in_Ma t_Ma k_Ma n_Ma hown hK hP (wC_D hAd) hS 11 rfl rfl 2 (by decide) (hts _ wd_185) (fun _ h9 => h9) rfl (by decide +kernel) rfl rfl (Nat.le_of_ble_eq_true rfl) d_Ma_store_16 (fun H locs hP _ hS => ?_)
  have hP : va_P D cls (wC ad dA w P g ss (upd M.1 k.toNatClampNeg v, M.2.1, M.2.2.1 ||| ((1 : Int32) <<< (k &&& 31)), M.2.2.2.1, M.2.2.2.2.1, M.2.2.2.2.2.1, M.2.2.2.2.2.2.1, M.2.2.2.2.2.2.2)) H := hP
  exact W.vret hx hb hr (fun t ht hW => ⟨⟨_, rfl, (by rw [m_Ma_store]), CG_at hP hK hN ht hW⟩, hS.F ht⟩) hS.2.2 d_Ma_store_19
def m_Ma_copy (M : MT) (cd : Int32) : MT := if cd = (7 : Int32) then (M.1, M.2.1, M.2.2.1, M.2.2.2.1, M.2.2.2.1, M.2.2.2.2.2.1, M.2.2.2.2.2.2.1, M.2.2.2.2.2.2.2) else (M.1, M.2.1, M.2.2.1, M.2.2.2.2.1, M.2.2.2.2.1, M.2.2.2.2.2.1, M.2.2.2.2.2.2.1, M.2.2.2.2.2.2.2)
set_option maxHeartbeats 4000000 in
set_option maxRecDepth 100000 in
theorem c_Ma_copy (l : Launch) (D : va_G) (dA : Nat → ClassId) (ad : Nat → Nat) (A : Nat → Prop) (hAd : AdOK 49 ad A) (w : Nat → Int32) (P : PT) (g : GT) (ss : Nat → Int32) (M : MT) (cd : Int32) : Met l y_Ma_copy (mW y_Ma_copy b_Ma_copy 2 none) { frames := 0, cells := 0, slots := 0, locals := 0 } (va_Pc [.ref (ad 11), .int cd] (fun U => CG D dA ad w P g ss M U)) (va_Qv (fun u : MT => u = m_Ma_copy M cd) (fun u t => CG D dA ad w P g ss u t) A) 0 0 A := by
  refine Met.ofW (cc := b_Ma_copy) (maxL := 2) (ret := none) (by decide) rfl ?_
  intro p e s m args below meth c s₁ B hml hv
  obtain ⟨rfl, hP, hK, hN⟩ := hv
  have hx := B.exec
  have hb := B.bytes
  have hr := B.returns
  have hlocks := B.notSynchronized
  have hts := fun (w : Cond) (h : w ∈ lw_g) => atoms_spec (ws := mW y_Ma_copy b_Ma_copy 2 none) B.pre w (List.mem_cons_of_mem _ h)
  have hown : s.vm.findClass R_Ma = some m.cls := findClass_of_methodNamed B.named
  have hS : va_S A s.heap s.heap [] := va_S.rf
  have hl := lv_entry ([.ref (ad 11), .int cd]) (n := 2) (Nat.le_of_ble_eq_true rfl)
  rw [lg_entry_eq]
  generalize (lg_sl ([.ref (ad 11), .int cd]) ++ List.replicate (2 - (lg_sl ([.ref (ad 11), .int cd])).length) Slot.unset).toArray = ls at hl ⊢
  have hl : lv_has ls 2 [(0, .ref (ad 11)), (1, .int cd)] := hl
  refine lv_iload_n hx hb d_Ma_copy_0 rfl (lv_at hl 1 rfl) ?_
  refine lv_bipush (v := 7) hx hb d_Ma_copy_1 (by decide) ?_
  refine lv_icmp_ne (tgt := 17) hx hb d_Ma_copy_3 (by decide) (fun h1 => ?_) (fun h1 => ?_)
  · refine lv_aload_n hx hb d_Ma_copy_17 rfl (lv_at hl 0 rfl) ?_
    refine lv_aload_n hx hb d_Ma_copy_18 rfl (lv_at hl 0 rfl) ?_
    refine va_get (D := D) (ci := 4) (v := .int M.2.2.2.2.1) (C := R_Ma) (T := F_Ma) (N := 8) hx hb hts in_Ma hown hK hP 11 rfl rfl 4 (by decide) (hts _ wd_187) (fun _ h9 => h9) rfl d_Ma_copy_19 ?_
    refine va_put (D := D) (ci := 4) (v := .int M.2.2.2.2.1) (ty := .int) (C := R_Ma) (T := F_Ma) (N := 8) hx hb hts in_Ma t_Ma k_Ma n_Ma hown hK hP (wC_D hAd) hS 11 rfl rfl 3 (by decide) (hts _ wd_186) (fun _ h9 => h9) rfl (by decide +kernel) rfl rfl (Nat.le_of_ble_eq_true rfl) d_Ma_copy_22 (fun H locs hP _ hS => ?_)
    have hP : va_P D cls (wC ad dA w P g ss (M.1, M.2.1, M.2.2.1, M.2.2.2.2.1, M.2.2.2.2.1, M.2.2.2.2.2.1, M.2.2.2.2.2.2.1, M.2.2.2.2.2.2.2)) H := hP
    exact W.vret hx hb hr (fun t ht hW => ⟨⟨_, rfl, (by rw [m_Ma_copy, if_neg h1]), CG_at hP hK hN ht hW⟩, hS.F ht⟩) hS.2.2 d_Ma_copy_25
  refine lv_aload_n hx hb d_Ma_copy_6 rfl (lv_at hl 0 rfl) ?_
  refine lv_aload_n hx hb d_Ma_copy_7 rfl (lv_at hl 0 rfl) ?_
  refine va_get (D := D) (ci := 4) (v := .int M.2.2.2.1) (C := R_Ma) (T := F_Ma) (N := 8) hx hb hts in_Ma hown hK hP 11 rfl rfl 3 (by decide) (hts _ wd_186) (fun _ h9 => h9) rfl d_Ma_copy_8 ?_
  refine va_put (D := D) (ci := 4) (v := .int M.2.2.2.1) (ty := .int) (C := R_Ma) (T := F_Ma) (N := 8) hx hb hts in_Ma t_Ma k_Ma n_Ma hown hK hP (wC_D hAd) hS 11 rfl rfl 4 (by decide) (hts _ wd_187) (fun _ h9 => h9) rfl (by decide +kernel) rfl rfl (Nat.le_of_ble_eq_true rfl) d_Ma_copy_11 (fun H locs hP _ hS => ?_)
  have hP : va_P D cls (wC ad dA w P g ss (M.1, M.2.1, M.2.2.1, M.2.2.2.1, M.2.2.2.1, M.2.2.2.2.2.1, M.2.2.2.2.2.2.1, M.2.2.2.2.2.2.2)) H := hP
  refine lv_goto (tgt := 25) hx hb d_Ma_copy_14 (by decide) ?_
  exact W.vret hx hb hr (fun t ht hW => ⟨⟨_, rfl, (by rw [m_Ma_copy, if_pos h1]), CG_at hP hK hN ht hW⟩, hS.F ht⟩) hS.2.2 d_Ma_copy_25
def m_Ma_end (M : MT) (v : Int32) : MT := (M.1, M.2.1, M.2.2.1, M.2.2.2.1, M.2.2.2.2.1, M.2.2.2.2.2.1, (1 : Int32), v)
set_option maxHeartbeats 4000000 in
set_option maxRecDepth 100000 in
theorem c_Ma_end (l : Launch) (D : va_G) (dA : Nat → ClassId) (ad : Nat → Nat) (A : Nat → Prop) (hAd : AdOK 49 ad A) (w : Nat → Int32) (P : PT) (g : GT) (ss : Nat → Int32) (M : MT) (v : Int32) : Met l y_Ma_end (mW y_Ma_end b_Ma_end 2 none) { frames := 0, cells := 0, slots := 0, locals := 0 } (va_Pc [.ref (ad 11), .int v] (fun U => CG D dA ad w P g ss M U)) (va_Qv (fun u : MT => u = m_Ma_end M v) (fun u t => CG D dA ad w P g ss u t) A) 0 0 A := by
  refine Met.ofW (cc := b_Ma_end) (maxL := 2) (ret := none) (by decide) rfl ?_
  intro p e s m args below meth c s₁ B hml hv
  obtain ⟨rfl, hP, hK, hN⟩ := hv
  have hx := B.exec
  have hb := B.bytes
  have hr := B.returns
  have hlocks := B.notSynchronized
  have hts := fun (w : Cond) (h : w ∈ lw_g) => atoms_spec (ws := mW y_Ma_end b_Ma_end 2 none) B.pre w (List.mem_cons_of_mem _ h)
  have hown : s.vm.findClass R_Ma = some m.cls := findClass_of_methodNamed B.named
  have hS : va_S A s.heap s.heap [] := va_S.rf
  have hl := lv_entry ([.ref (ad 11), .int v]) (n := 2) (Nat.le_of_ble_eq_true rfl)
  rw [lg_entry_eq]
  generalize (lg_sl ([.ref (ad 11), .int v]) ++ List.replicate (2 - (lg_sl ([.ref (ad 11), .int v])).length) Slot.unset).toArray = ls at hl ⊢
  have hl : lv_has ls 2 [(0, .ref (ad 11)), (1, .int v)] := hl
  refine lv_aload_n hx hb d_Ma_end_0 rfl (lv_at hl 0 rfl) ?_
  refine lv_iconst (v := 1) hx hb d_Ma_end_1 (by decide) ?_
  refine va_put (D := D) (ci := 4) (v := .int (1 : Int32)) (ty := .boolean) (C := R_Ma) (T := F_Ma) (N := 8) hx hb hts in_Ma t_Ma k_Ma n_Ma hown hK hP (wC_D hAd) hS 11 rfl rfl 6 (by decide) (hts _ wd_189) (fun _ h9 => h9) rfl (by decide +kernel) rfl rfl (Nat.le_of_ble_eq_true rfl) d_Ma_end_2 (fun H locs hP _ hS => ?_)
  have hP : va_P D cls (wC ad dA w P g ss (M.1, M.2.1, M.2.2.1, M.2.2.2.1, M.2.2.2.2.1, M.2.2.2.2.2.1, (1 : Int32), M.2.2.2.2.2.2.2)) H := hP
  refine lv_aload_n hx hb d_Ma_end_5 rfl (lv_at hl 0 rfl) ?_
  refine lv_iload_n hx hb d_Ma_end_6 rfl (lv_at hl 1 rfl) ?_
  refine va_put (D := D) (ci := 4) (v := .int v) (ty := .int) (C := R_Ma) (T := F_Ma) (N := 8) hx hb hts in_Ma t_Ma k_Ma n_Ma hown hK hP (wC_D hAd) hS 11 rfl rfl 7 (by decide) (hts _ wd_190) (fun _ h9 => h9) rfl (by decide +kernel) rfl rfl (Nat.le_of_ble_eq_true rfl) d_Ma_end_7 (fun H locs hP _ hS => ?_)
  have hP : va_P D cls (wC ad dA w P g ss (M.1, M.2.1, M.2.2.1, M.2.2.2.1, M.2.2.2.2.1, M.2.2.2.2.2.1, (1 : Int32), v)) H := hP
  exact W.vret hx hb hr (fun t ht hW => ⟨⟨_, rfl, (by rw [m_Ma_end]), CG_at hP hK hN ht hW⟩, hS.F ht⟩) hS.2.2 d_Ma_end_10
def m_Ma_divide (M : MT) (v : Int32) : MT := if v = (0 : Int32) then (m_Ma_end M (0 : Int32)) else (M.1, M.2.1, M.2.2.1, ((m_F_unsigned M.2.2.2.1) / (m_F_unsigned v)).toInt32, M.2.2.2.2.1, M.2.2.2.2.2.1, M.2.2.2.2.2.2.1, M.2.2.2.2.2.2.2)
set_option maxHeartbeats 4000000 in
set_option maxRecDepth 100000 in
theorem c_Ma_divide (l : Launch) (D : va_G) (dA : Nat → ClassId) (ad : Nat → Nat) (A : Nat → Prop) (hAd : AdOK 49 ad A) (w : Nat → Int32) (P : PT) (g : GT) (ss : Nat → Int32) (M : MT) (v : Int32) : Met l y_Ma_divide (mW y_Ma_divide b_Ma_divide 2 none) { frames := 1, cells := 0, slots := 0, locals := 21 } (va_Pc [.ref (ad 11), .int v] (fun U => CG D dA ad w P g ss M U)) (va_Qv (fun u : MT => u = m_Ma_divide M v) (fun u t => CG D dA ad w P g ss u t) A) 0 0 A := by
  refine Met.ofW (cc := b_Ma_divide) (maxL := 2) (ret := none) (by decide) rfl ?_
  intro p e s m args below meth c s₁ B hml hv
  obtain ⟨rfl, hP, hK, hN⟩ := hv
  have hx := B.exec
  have hb := B.bytes
  have hr := B.returns
  have hlocks := B.notSynchronized
  have hts := fun (w : Cond) (h : w ∈ lw_g) => atoms_spec (ws := mW y_Ma_divide b_Ma_divide 2 none) B.pre w (List.mem_cons_of_mem _ h)
  have hown : s.vm.findClass R_Ma = some m.cls := findClass_of_methodNamed B.named
  have hS : va_S A s.heap s.heap [] := va_S.rf
  have hl := lv_entry ([.ref (ad 11), .int v]) (n := 2) (Nat.le_of_ble_eq_true rfl)
  rw [lg_entry_eq]
  generalize (lg_sl ([.ref (ad 11), .int v]) ++ List.replicate (2 - (lg_sl ([.ref (ad 11), .int v])).length) Slot.unset).toArray = ls at hl ⊢
  have hl : lv_has ls 2 [(0, .ref (ad 11)), (1, .int v)] := hl
  refine lv_iload_n hx hb d_Ma_divide_0 rfl (lv_at hl 1 rfl) ?_
  refine lv_if_ne (tgt := 12) hx hb d_Ma_divide_1 (by decide) (fun h1 => ?_) (fun h1 => ?_)
  · refine lv_aload_n hx hb d_Ma_divide_12 rfl (lv_at hl 0 rfl) ?_
    refine lv_aload_n hx hb d_Ma_divide_13 rfl (lv_at hl 0 rfl) ?_
    refine va_get (D := D) (ci := 4) (v := .int M.2.2.2.1) (C := R_Ma) (T := F_Ma) (N := 8) hx hb hts in_Ma hown hK hP 11 rfl rfl 3 (by decide) (hts _ wd_186) (fun _ h9 => h9) rfl d_Ma_divide_14 ?_
    refine vp_callSl (va_Run.run (va_runSN (As := [.int M.2.2.2.1]) (rest := [.ref (ad 11)]) ⟨hx, hb, hml, hown, hts⟩ (c_F_unsigned l M.2.2.2.1) ⟨va_cnB 1 hts (g_in wd_302) rfl rfl rfl hN.2.2.2.2.2.2.1 (hts _ wd_26) (by decide +kernel) ⟨Nat.le_of_ble_eq_true rfl, Nat.le_of_ble_eq_true rfl⟩, hts _ wd_301, trivial⟩ ⟨fun _ _ _ _ q => q, fun _ _ _ => ⟨rfl, trivial⟩⟩ rfl rfl hl.1 rfl (lv_room (Nat.le_of_ble_eq_true rfl)) d_Ma_divide_17 ⟨Nat.le_of_ble_eq_true rfl, Nat.le_of_ble_eq_true rfl⟩)) (fun r1 e1 => ?_)
    subst e1
    refine lv_iload_n hx hb d_Ma_divide_20 rfl (lv_at hl 1 rfl) ?_
    refine vp_callSl (va_Run.run (va_runSN (As := [.int v]) (rest := [.long (m_F_unsigned M.2.2.2.1), .ref (ad 11)]) ⟨hx, hb, hml, hown, hts⟩ (c_F_unsigned l v) ⟨va_cnB 1 hts (g_in wd_302) rfl rfl rfl hN.2.2.2.2.2.2.1 (hts _ wd_26) (by decide +kernel) ⟨Nat.le_of_ble_eq_true rfl, Nat.le_of_ble_eq_true rfl⟩, hts _ wd_301, trivial⟩ ⟨fun _ _ _ _ q => q, fun _ _ _ => ⟨rfl, trivial⟩⟩ rfl rfl hl.1 rfl (lv_room (Nat.le_of_ble_eq_true rfl)) d_Ma_divide_21 ⟨Nat.le_of_ble_eq_true rfl, Nat.le_of_ble_eq_true rfl⟩)) (fun r2 e2 => ?_)
    subst e2
    refine lv_ldiv hx hb d_Ma_divide_24 (un_ne (by assumption)) ?_
    refine lv_l2i hx hb d_Ma_divide_25 rfl ?_
    refine va_put (D := D) (ci := 4) (v := .int (((m_F_unsigned M.2.2.2.1) / (m_F_unsigned v)).toInt32)) (ty := .int) (C := R_Ma) (T := F_Ma) (N := 8) hx hb hts in_Ma t_Ma k_Ma n_Ma hown hK hP (wC_D hAd) hS 11 rfl rfl 3 (by decide) (hts _ wd_186) (fun _ h9 => h9) rfl (by decide +kernel) rfl rfl (Nat.le_of_ble_eq_true rfl) d_Ma_divide_26 (fun H locs hP _ hS => ?_)
    have hP : va_P D cls (wC ad dA w P g ss (M.1, M.2.1, M.2.2.1, ((m_F_unsigned M.2.2.2.1) / (m_F_unsigned v)).toInt32, M.2.2.2.2.1, M.2.2.2.2.2.1, M.2.2.2.2.2.2.1, M.2.2.2.2.2.2.2)) H := hP
    exact W.vret hx hb hr (fun t ht hW => ⟨⟨_, rfl, (by rw [m_Ma_divide, if_neg h1]), CG_at hP hK hN ht hW⟩, hS.F ht⟩) hS.2.2 d_Ma_divide_29
  refine lv_aload_n hx hb d_Ma_divide_4 rfl (lv_at hl 0 rfl) ?_
  refine lv_iconst (v := 0) hx hb d_Ma_divide_5 (by decide) ?_
  refine va_callv (va_runV (As := [.int (0 : Int32)]) (rest := []) ⟨hx, hb, hml, hown, hts⟩ (c_Ma_end l D dA ad A hAd w P g ss M (0 : Int32)) (cwV 1 hts (g_V wd_459 wd_461 wd_9 wd_34 wd_462) rfl rfl rfl (by decide +kernel) ⟨Nat.le_of_ble_eq_true rfl, Nat.le_of_ble_eq_true rfl⟩) ⟨CG_fb, (va_recv (ci := 4) (q := (R_Ma, F_Ma, 8)) (q0 := 11) hK hP rfl rfl), fun U hU hW => ⟨rfl, CG_at hP hK hN hU hW⟩⟩ rfl rfl hl.1 rfl (lv_room (Nat.le_of_ble_eq_true rfl)) d_Ma_divide_6 ⟨Nat.le_of_ble_eq_true rfl, Nat.le_of_ble_eq_true rfl⟩) hS (fun _ _ h => h) (fun _ h => h) (fun u1 t H locs ht hvm hu hB hz hk hS => ?_)
  subst hu
  obtain ⟨hP, -⟩ := hB
  rw [ht] at hP
  have hP : va_P D cls (wC ad dA w P g ss (m_Ma_end M (0 : Int32))) H := hP
  refine lv_goto (tgt := 29) hx hb d_Ma_divide_9 (by decide) ?_
  exact W.vret hx hb hr (fun t ht hW => ⟨⟨_, rfl, (by rw [m_Ma_divide, if_pos h1]), CG_at hP hK hN ht hW⟩, hS.F ht⟩) hS.2.2 d_Ma_divide_29
def m_Ma_compute (M : MT) (op : Int32) (v : Int32) : MT := if op = (0 : Int32) then (M.1, M.2.1, M.2.2.1, M.2.2.2.1 + v, M.2.2.2.2.1, M.2.2.2.2.2.1, M.2.2.2.2.2.2.1, M.2.2.2.2.2.2.2) else if op = (16 : Int32) then (M.1, M.2.1, M.2.2.1, M.2.2.2.1 - v, M.2.2.2.2.1, M.2.2.2.2.2.1, M.2.2.2.2.2.2.1, M.2.2.2.2.2.2.2) else if op = (32 : Int32) then (M.1, M.2.1, M.2.2.1, M.2.2.2.1 * v, M.2.2.2.2.1, M.2.2.2.2.2.1, M.2.2.2.2.2.2.1, M.2.2.2.2.2.2.2) else if op = (48 : Int32) then (m_Ma_divide M v) else if op = (64 : Int32) then (M.1, M.2.1, M.2.2.1, M.2.2.2.1 ||| v, M.2.2.2.2.1, M.2.2.2.2.2.1, M.2.2.2.2.2.2.1, M.2.2.2.2.2.2.2) else if op = (80 : Int32) then (M.1, M.2.1, M.2.2.1, M.2.2.2.1 &&& v, M.2.2.2.2.1, M.2.2.2.2.2.1, M.2.2.2.2.2.2.1, M.2.2.2.2.2.2.2) else if op = (96 : Int32) then (M.1, M.2.1, M.2.2.1, M.2.2.2.1 <<< ((v &&& (31 : Int32)) &&& 31), M.2.2.2.2.1, M.2.2.2.2.2.1, M.2.2.2.2.2.2.1, M.2.2.2.2.2.2.2) else if op = (112 : Int32) then (M.1, M.2.1, M.2.2.1, (M.2.2.2.1.toUInt32 >>> ((v &&& (31 : Int32)).toUInt32 &&& Int32.toUInt32 31)).toInt32, M.2.2.2.2.1, M.2.2.2.2.2.1, M.2.2.2.2.2.2.1, M.2.2.2.2.2.2.2) else if op = (128 : Int32) then (M.1, M.2.1, M.2.2.1, -M.2.2.2.1, M.2.2.2.2.1, M.2.2.2.2.2.1, M.2.2.2.2.2.2.1, M.2.2.2.2.2.2.2) else (M.1, M.2.1, M.2.2.1, M.2.2.2.1 ^^^ v, M.2.2.2.2.1, M.2.2.2.2.2.1, M.2.2.2.2.2.2.1, M.2.2.2.2.2.2.2)
set_option maxHeartbeats 4000000 in
set_option maxRecDepth 100000 in
theorem c_Ma_compute (l : Launch) (D : va_G) (dA : Nat → ClassId) (ad : Nat → Nat) (A : Nat → Prop) (hAd : AdOK 49 ad A) (w : Nat → Int32) (P : PT) (g : GT) (ss : Nat → Int32) (M : MT) (op : Int32) (v : Int32) : Met l y_Ma_compute (mW y_Ma_compute b_Ma_compute 3 none) { frames := 2, cells := 0, slots := 0, locals := 42 } (va_Pc [.ref (ad 11), .int op, .int v] (fun U => CG D dA ad w P g ss M U)) (va_Qv (fun u : MT => u = m_Ma_compute M op v) (fun u t => CG D dA ad w P g ss u t) A) 0 0 A := by
  refine Met.ofW (cc := b_Ma_compute) (maxL := 3) (ret := none) (by decide) rfl ?_
  intro p e s m args below meth c s₁ B hml hv
  obtain ⟨rfl, hP, hK, hN⟩ := hv
  have hx := B.exec
  have hb := B.bytes
  have hr := B.returns
  have hlocks := B.notSynchronized
  have hts := fun (w : Cond) (h : w ∈ lw_g) => atoms_spec (ws := mW y_Ma_compute b_Ma_compute 3 none) B.pre w (List.mem_cons_of_mem _ h)
  have hown : s.vm.findClass R_Ma = some m.cls := findClass_of_methodNamed B.named
  have hS : va_S A s.heap s.heap [] := va_S.rf
  have hl := lv_entry ([.ref (ad 11), .int op, .int v]) (n := 3) (Nat.le_of_ble_eq_true rfl)
  rw [lg_entry_eq]
  generalize (lg_sl ([.ref (ad 11), .int op, .int v]) ++ List.replicate (3 - (lg_sl ([.ref (ad 11), .int op, .int v])).length) Slot.unset).toArray = ls at hl ⊢
  have hl : lv_has ls 3 [(0, .ref (ad 11)), (1, .int op), (2, .int v)] := hl
  refine lv_iload_n hx hb d_Ma_compute_0 rfl (lv_at hl 1 rfl) ?_
  by_cases h1 : op = (0 : Int32)
  · refine lv_lookup (tgt := 84) (off := 83) hx hb d_Ma_compute_1 (by decide) (by rw [h1] <;> rfl) (by decide) ?_
    refine lv_aload_n hx hb d_Ma_compute_84 rfl (lv_at hl 0 rfl) ?_
    refine lv_aload_n hx hb d_Ma_compute_85 rfl (lv_at hl 0 rfl) ?_
    refine va_get (D := D) (ci := 4) (v := .int M.2.2.2.1) (C := R_Ma) (T := F_Ma) (N := 8) hx hb hts in_Ma hown hK hP 11 rfl rfl 3 (by decide) (hts _ wd_186) (fun _ h9 => h9) rfl d_Ma_compute_86 ?_
    refine lv_iload_n hx hb d_Ma_compute_89 rfl (lv_at hl 2 rfl) ?_
    refine lv_iadd hx hb d_Ma_compute_90 ?_
    refine va_put (D := D) (ci := 4) (v := .int (M.2.2.2.1 + v)) (ty := .int) (C := R_Ma) (T := F_Ma) (N := 8) hx hb hts in_Ma t_Ma k_Ma n_Ma hown hK hP (wC_D hAd) hS 11 rfl rfl 3 (by decide) (hts _ wd_186) (fun _ h9 => h9) rfl (by decide +kernel) rfl rfl (Nat.le_of_ble_eq_true rfl) d_Ma_compute_91 (fun H locs hP _ hS => ?_)
    have hP : va_P D cls (wC ad dA w P g ss (M.1, M.2.1, M.2.2.1, M.2.2.2.1 + v, M.2.2.2.2.1, M.2.2.2.2.2.1, M.2.2.2.2.2.2.1, M.2.2.2.2.2.2.2)) H := hP
    refine lv_goto (tgt := 211) hx hb d_Ma_compute_94 (by decide) ?_
    exact W.vret hx hb hr (fun t ht hW => ⟨⟨_, rfl, (by rw [m_Ma_compute, if_pos h1]), CG_at hP hK hN ht hW⟩, hS.F ht⟩) hS.2.2 d_Ma_compute_211
  by_cases h2 : op = (16 : Int32)
  · refine lv_lookup (tgt := 97) (off := 96) hx hb d_Ma_compute_1 (by decide) (by rw [h2] <;> rfl) (by decide) ?_
    refine lv_aload_n hx hb d_Ma_compute_97 rfl (lv_at hl 0 rfl) ?_
    refine lv_aload_n hx hb d_Ma_compute_98 rfl (lv_at hl 0 rfl) ?_
    refine va_get (D := D) (ci := 4) (v := .int M.2.2.2.1) (C := R_Ma) (T := F_Ma) (N := 8) hx hb hts in_Ma hown hK hP 11 rfl rfl 3 (by decide) (hts _ wd_186) (fun _ h9 => h9) rfl d_Ma_compute_99 ?_
    refine lv_iload_n hx hb d_Ma_compute_102 rfl (lv_at hl 2 rfl) ?_
    refine lv_isub hx hb d_Ma_compute_103 ?_
    refine va_put (D := D) (ci := 4) (v := .int (M.2.2.2.1 - v)) (ty := .int) (C := R_Ma) (T := F_Ma) (N := 8) hx hb hts in_Ma t_Ma k_Ma n_Ma hown hK hP (wC_D hAd) hS 11 rfl rfl 3 (by decide) (hts _ wd_186) (fun _ h9 => h9) rfl (by decide +kernel) rfl rfl (Nat.le_of_ble_eq_true rfl) d_Ma_compute_104 (fun H locs hP _ hS => ?_)
    have hP : va_P D cls (wC ad dA w P g ss (M.1, M.2.1, M.2.2.1, M.2.2.2.1 - v, M.2.2.2.2.1, M.2.2.2.2.2.1, M.2.2.2.2.2.2.1, M.2.2.2.2.2.2.2)) H := hP
    refine lv_goto (tgt := 211) hx hb d_Ma_compute_107 (by decide) ?_
    exact W.vret hx hb hr (fun t ht hW => ⟨⟨_, rfl, (by rw [m_Ma_compute, if_neg h1, if_pos h2]), CG_at hP hK hN ht hW⟩, hS.F ht⟩) hS.2.2 d_Ma_compute_211
  by_cases h3 : op = (32 : Int32)
  · refine lv_lookup (tgt := 110) (off := 109) hx hb d_Ma_compute_1 (by decide) (by rw [h3] <;> rfl) (by decide) ?_
    refine lv_aload_n hx hb d_Ma_compute_110 rfl (lv_at hl 0 rfl) ?_
    refine lv_aload_n hx hb d_Ma_compute_111 rfl (lv_at hl 0 rfl) ?_
    refine va_get (D := D) (ci := 4) (v := .int M.2.2.2.1) (C := R_Ma) (T := F_Ma) (N := 8) hx hb hts in_Ma hown hK hP 11 rfl rfl 3 (by decide) (hts _ wd_186) (fun _ h9 => h9) rfl d_Ma_compute_112 ?_
    refine lv_iload_n hx hb d_Ma_compute_115 rfl (lv_at hl 2 rfl) ?_
    refine lv_imul hx hb d_Ma_compute_116 ?_
    refine va_put (D := D) (ci := 4) (v := .int (M.2.2.2.1 * v)) (ty := .int) (C := R_Ma) (T := F_Ma) (N := 8) hx hb hts in_Ma t_Ma k_Ma n_Ma hown hK hP (wC_D hAd) hS 11 rfl rfl 3 (by decide) (hts _ wd_186) (fun _ h9 => h9) rfl (by decide +kernel) rfl rfl (Nat.le_of_ble_eq_true rfl) d_Ma_compute_117 (fun H locs hP _ hS => ?_)
    have hP : va_P D cls (wC ad dA w P g ss (M.1, M.2.1, M.2.2.1, M.2.2.2.1 * v, M.2.2.2.2.1, M.2.2.2.2.2.1, M.2.2.2.2.2.2.1, M.2.2.2.2.2.2.2)) H := hP
    refine lv_goto (tgt := 211) hx hb d_Ma_compute_120 (by decide) ?_
    exact W.vret hx hb hr (fun t ht hW => ⟨⟨_, rfl, (by rw [m_Ma_compute, if_neg h1, if_neg h2, if_pos h3]), CG_at hP hK hN ht hW⟩, hS.F ht⟩) hS.2.2 d_Ma_compute_211
  by_cases h4 : op = (48 : Int32)
  · refine lv_lookup (tgt := 123) (off := 122) hx hb d_Ma_compute_1 (by decide) (by rw [h4] <;> rfl) (by decide) ?_
    refine lv_aload_n hx hb d_Ma_compute_123 rfl (lv_at hl 0 rfl) ?_
    refine lv_iload_n hx hb d_Ma_compute_124 rfl (lv_at hl 2 rfl) ?_
    refine va_callv (va_runV (As := [.int v]) (rest := []) ⟨hx, hb, hml, hown, hts⟩ (c_Ma_divide l D dA ad A hAd w P g ss M v) (cwV 1 hts (g_V wd_455 wd_457 wd_8 wd_34 wd_458) rfl rfl rfl (by decide +kernel) ⟨Nat.le_of_ble_eq_true rfl, Nat.le_of_ble_eq_true rfl⟩) ⟨CG_fb, (va_recv (ci := 4) (q := (R_Ma, F_Ma, 8)) (q0 := 11) hK hP rfl rfl), fun U hU hW => ⟨rfl, CG_at hP hK hN hU hW⟩⟩ rfl rfl hl.1 rfl (lv_room (Nat.le_of_ble_eq_true rfl)) d_Ma_compute_125 ⟨Nat.le_of_ble_eq_true rfl, Nat.le_of_ble_eq_true rfl⟩) hS (fun _ _ h => h) (fun _ h => h) (fun u1 t H locs ht hvm hu hB hz hk hS => ?_)
    subst hu
    obtain ⟨hP, -⟩ := hB
    rw [ht] at hP
    have hP : va_P D cls (wC ad dA w P g ss (m_Ma_divide M v)) H := hP
    refine lv_goto (tgt := 211) hx hb d_Ma_compute_128 (by decide) ?_
    exact W.vret hx hb hr (fun t ht hW => ⟨⟨_, rfl, (by rw [m_Ma_compute, if_neg h1, if_neg h2, if_neg h3, if_pos h4]), CG_at hP hK hN ht hW⟩, hS.F ht⟩) hS.2.2 d_Ma_compute_211
  by_cases h5 : op = (64 : Int32)
  · refine lv_lookup (tgt := 131) (off := 130) hx hb d_Ma_compute_1 (by decide) (by rw [h5] <;> rfl) (by decide) ?_
    refine lv_aload_n hx hb d_Ma_compute_131 rfl (lv_at hl 0 rfl) ?_
    refine lv_aload_n hx hb d_Ma_compute_132 rfl (lv_at hl 0 rfl) ?_
    refine va_get (D := D) (ci := 4) (v := .int M.2.2.2.1) (C := R_Ma) (T := F_Ma) (N := 8) hx hb hts in_Ma hown hK hP 11 rfl rfl 3 (by decide) (hts _ wd_186) (fun _ h9 => h9) rfl d_Ma_compute_133 ?_
    refine lv_iload_n hx hb d_Ma_compute_136 rfl (lv_at hl 2 rfl) ?_
    refine lv_ior hx hb d_Ma_compute_137 ?_
    refine va_put (D := D) (ci := 4) (v := .int (M.2.2.2.1 ||| v)) (ty := .int) (C := R_Ma) (T := F_Ma) (N := 8) hx hb hts in_Ma t_Ma k_Ma n_Ma hown hK hP (wC_D hAd) hS 11 rfl rfl 3 (by decide) (hts _ wd_186) (fun _ h9 => h9) rfl (by decide +kernel) rfl rfl (Nat.le_of_ble_eq_true rfl) d_Ma_compute_138 (fun H locs hP _ hS => ?_)
    have hP : va_P D cls (wC ad dA w P g ss (M.1, M.2.1, M.2.2.1, M.2.2.2.1 ||| v, M.2.2.2.2.1, M.2.2.2.2.2.1, M.2.2.2.2.2.2.1, M.2.2.2.2.2.2.2)) H := hP
    refine lv_goto (tgt := 211) hx hb d_Ma_compute_141 (by decide) ?_
    exact W.vret hx hb hr (fun t ht hW => ⟨⟨_, rfl, (by rw [m_Ma_compute, if_neg h1, if_neg h2, if_neg h3, if_neg h4, if_pos h5]), CG_at hP hK hN ht hW⟩, hS.F ht⟩) hS.2.2 d_Ma_compute_211
  by_cases h6 : op = (80 : Int32)
  · refine lv_lookup (tgt := 144) (off := 143) hx hb d_Ma_compute_1 (by decide) (by rw [h6] <;> rfl) (by decide) ?_
    refine lv_aload_n hx hb d_Ma_compute_144 rfl (lv_at hl 0 rfl) ?_
    refine lv_aload_n hx hb d_Ma_compute_145 rfl (lv_at hl 0 rfl) ?_
    refine va_get (D := D) (ci := 4) (v := .int M.2.2.2.1) (C := R_Ma) (T := F_Ma) (N := 8) hx hb hts in_Ma hown hK hP 11 rfl rfl 3 (by decide) (hts _ wd_186) (fun _ h9 => h9) rfl d_Ma_compute_146 ?_
    refine lv_iload_n hx hb d_Ma_compute_149 rfl (lv_at hl 2 rfl) ?_
    refine lv_iand hx hb d_Ma_compute_150 ?_
    refine va_put (D := D) (ci := 4) (v := .int (M.2.2.2.1 &&& v)) (ty := .int) (C := R_Ma) (T := F_Ma) (N := 8) hx hb hts in_Ma t_Ma k_Ma n_Ma hown hK hP (wC_D hAd) hS 11 rfl rfl 3 (by decide) (hts _ wd_186) (fun _ h9 => h9) rfl (by decide +kernel) rfl rfl (Nat.le_of_ble_eq_true rfl) d_Ma_compute_151 (fun H locs hP _ hS => ?_)
    have hP : va_P D cls (wC ad dA w P g ss (M.1, M.2.1, M.2.2.1, M.2.2.2.1 &&& v, M.2.2.2.2.1, M.2.2.2.2.2.1, M.2.2.2.2.2.2.1, M.2.2.2.2.2.2.2)) H := hP
    refine lv_goto (tgt := 211) hx hb d_Ma_compute_154 (by decide) ?_
    exact W.vret hx hb hr (fun t ht hW => ⟨⟨_, rfl, (by rw [m_Ma_compute, if_neg h1, if_neg h2, if_neg h3, if_neg h4, if_neg h5, if_pos h6]), CG_at hP hK hN ht hW⟩, hS.F ht⟩) hS.2.2 d_Ma_compute_211
  by_cases h7 : op = (96 : Int32)
  · refine lv_lookup (tgt := 157) (off := 156) hx hb d_Ma_compute_1 (by decide) (by rw [h7] <;> rfl) (by decide) ?_
    refine lv_aload_n hx hb d_Ma_compute_157 rfl (lv_at hl 0 rfl) ?_
    refine lv_aload_n hx hb d_Ma_compute_158 rfl (lv_at hl 0 rfl) ?_
    refine va_get (D := D) (ci := 4) (v := .int M.2.2.2.1) (C := R_Ma) (T := F_Ma) (N := 8) hx hb hts in_Ma hown hK hP 11 rfl rfl 3 (by decide) (hts _ wd_186) (fun _ h9 => h9) rfl d_Ma_compute_159 ?_
    refine lv_iload_n hx hb d_Ma_compute_162 rfl (lv_at hl 2 rfl) ?_
    refine lv_bipush (v := 31) hx hb d_Ma_compute_163 (by decide) ?_
    refine lv_iand hx hb d_Ma_compute_165 ?_
    refine lv_ishl hx hb d_Ma_compute_166 ?_
    refine va_put (D := D) (ci := 4) (v := .int (M.2.2.2.1 <<< ((v &&& (31 : Int32)) &&& 31))) (ty := .int) (C := R_Ma) (T := F_Ma) (N := 8) hx hb hts in_Ma t_Ma k_Ma n_Ma hown hK hP (wC_D hAd) hS 11 rfl rfl 3 (by decide) (hts _ wd_186) (fun _ h9 => h9) rfl (by decide +kernel) rfl rfl (Nat.le_of_ble_eq_true rfl) d_Ma_compute_167 (fun H locs hP _ hS => ?_)
    have hP : va_P D cls (wC ad dA w P g ss (M.1, M.2.1, M.2.2.1, M.2.2.2.1 <<< ((v &&& (31 : Int32)) &&& 31), M.2.2.2.2.1, M.2.2.2.2.2.1, M.2.2.2.2.2.2.1, M.2.2.2.2.2.2.2)) H := hP
    refine lv_goto (tgt := 211) hx hb d_Ma_compute_170 (by decide) ?_
    exact W.vret hx hb hr (fun t ht hW => ⟨⟨_, rfl, (by rw [m_Ma_compute, if_neg h1, if_neg h2, if_neg h3, if_neg h4, if_neg h5, if_neg h6, if_pos h7]), CG_at hP hK hN ht hW⟩, hS.F ht⟩) hS.2.2 d_Ma_compute_211
  by_cases h8 : op = (112 : Int32)
  · refine lv_lookup (tgt := 173) (off := 172) hx hb d_Ma_compute_1 (by decide) (by rw [h8] <;> rfl) (by decide) ?_
    refine lv_aload_n hx hb d_Ma_compute_173 rfl (lv_at hl 0 rfl) ?_
    refine lv_aload_n hx hb d_Ma_compute_174 rfl (lv_at hl 0 rfl) ?_
    refine va_get (D := D) (ci := 4) (v := .int M.2.2.2.1) (C := R_Ma) (T := F_Ma) (N := 8) hx hb hts in_Ma hown hK hP 11 rfl rfl 3 (by decide) (hts _ wd_186) (fun _ h9 => h9) rfl d_Ma_compute_175 ?_
    refine lv_iload_n hx hb d_Ma_compute_178 rfl (lv_at hl 2 rfl) ?_
    refine lv_bipush (v := 31) hx hb d_Ma_compute_179 (by decide) ?_
    refine lv_iand hx hb d_Ma_compute_181 ?_
    refine lv_iushr hx hb d_Ma_compute_182 rfl ?_
    refine va_put (D := D) (ci := 4) (v := .int ((M.2.2.2.1.toUInt32 >>> ((v &&& (31 : Int32)).toUInt32 &&& Int32.toUInt32 31)).toInt32)) (ty := .int) (C := R_Ma) (T := F_Ma) (N := 8) hx hb hts in_Ma t_Ma k_Ma n_Ma hown hK hP (wC_D hAd) hS 11 rfl rfl 3 (by decide) (hts _ wd_186) (fun _ h9 => h9) rfl (by decide +kernel) rfl rfl (Nat.le_of_ble_eq_true rfl) d_Ma_compute_183 (fun H locs hP _ hS => ?_)
    have hP : va_P D cls (wC ad dA w P g ss (M.1, M.2.1, M.2.2.1, (M.2.2.2.1.toUInt32 >>> ((v &&& (31 : Int32)).toUInt32 &&& Int32.toUInt32 31)).toInt32, M.2.2.2.2.1, M.2.2.2.2.2.1, M.2.2.2.2.2.2.1, M.2.2.2.2.2.2.2)) H := hP
    refine lv_goto (tgt := 211) hx hb d_Ma_compute_186 (by decide) ?_
    exact W.vret hx hb hr (fun t ht hW => ⟨⟨_, rfl, (by rw [m_Ma_compute, if_neg h1, if_neg h2, if_neg h3, if_neg h4, if_neg h5, if_neg h6, if_neg h7, if_pos h8]), CG_at hP hK hN ht hW⟩, hS.F ht⟩) hS.2.2 d_Ma_compute_211
  by_cases h9 : op = (128 : Int32)
  · refine lv_lookup (tgt := 189) (off := 188) hx hb d_Ma_compute_1 (by decide) (by rw [h9] <;> rfl) (by decide) ?_
    refine lv_aload_n hx hb d_Ma_compute_189 rfl (lv_at hl 0 rfl) ?_
    refine lv_aload_n hx hb d_Ma_compute_190 rfl (lv_at hl 0 rfl) ?_
    refine va_get (D := D) (ci := 4) (v := .int M.2.2.2.1) (C := R_Ma) (T := F_Ma) (N := 8) hx hb hts in_Ma hown hK hP 11 rfl rfl 3 (by decide) (hts _ wd_186) (fun _ h9 => h9) rfl d_Ma_compute_191 ?_
    refine lv_ineg hx hb d_Ma_compute_194 ?_
    refine va_put (D := D) (ci := 4) (v := .int (-M.2.2.2.1)) (ty := .int) (C := R_Ma) (T := F_Ma) (N := 8) hx hb hts in_Ma t_Ma k_Ma n_Ma hown hK hP (wC_D hAd) hS 11 rfl rfl 3 (by decide) (hts _ wd_186) (fun _ h9 => h9) rfl (by decide +kernel) rfl rfl (Nat.le_of_ble_eq_true rfl) d_Ma_compute_195 (fun H locs hP _ hS => ?_)
    have hP : va_P D cls (wC ad dA w P g ss (M.1, M.2.1, M.2.2.1, -M.2.2.2.1, M.2.2.2.2.1, M.2.2.2.2.2.1, M.2.2.2.2.2.2.1, M.2.2.2.2.2.2.2)) H := hP
    refine lv_goto (tgt := 211) hx hb d_Ma_compute_198 (by decide) ?_
    exact W.vret hx hb hr (fun t ht hW => ⟨⟨_, rfl, (by rw [m_Ma_compute, if_neg h1, if_neg h2, if_neg h3, if_neg h4, if_neg h5, if_neg h6, if_neg h7, if_neg h8, if_pos h9]), CG_at hP hK hN ht hW⟩, hS.F ht⟩) hS.2.2 d_Ma_compute_211
  refine lv_lookup (tgt := 201) (off := 200) hx hb d_Ma_compute_1 (by decide) ((lv_osw h1 (by decide)).trans ((lv_osw h2 (by decide)).trans ((lv_osw h3 (by decide)).trans ((lv_osw h4 (by decide)).trans ((lv_osw h5 (by decide)).trans ((lv_osw h6 (by decide)).trans ((lv_osw h7 (by decide)).trans ((lv_osw h8 (by decide)).trans ((lv_osw h9 (by decide)).trans rfl))))))))) (by decide) ?_
  refine lv_aload_n hx hb d_Ma_compute_201 rfl (lv_at hl 0 rfl) ?_
  refine lv_aload_n hx hb d_Ma_compute_202 rfl (lv_at hl 0 rfl) ?_
  refine va_get (D := D) (ci := 4) (v := .int M.2.2.2.1) (C := R_Ma) (T := F_Ma) (N := 8) hx hb hts in_Ma hown hK hP 11 rfl rfl 3 (by decide) (hts _ wd_186) (fun _ h9 => h9) rfl d_Ma_compute_203 ?_
  refine lv_iload_n hx hb d_Ma_compute_206 rfl (lv_at hl 2 rfl) ?_
  refine lv_ixor hx hb d_Ma_compute_207 ?_
  refine va_put (D := D) (ci := 4) (v := .int (M.2.2.2.1 ^^^ v)) (ty := .int) (C := R_Ma) (T := F_Ma) (N := 8) hx hb hts in_Ma t_Ma k_Ma n_Ma hown hK hP (wC_D hAd) hS 11 rfl rfl 3 (by decide) (hts _ wd_186) (fun _ h9 => h9) rfl (by decide +kernel) rfl rfl (Nat.le_of_ble_eq_true rfl) d_Ma_compute_208 (fun H locs hP _ hS => ?_)
  have hP : va_P D cls (wC ad dA w P g ss (M.1, M.2.1, M.2.2.1, M.2.2.2.1 ^^^ v, M.2.2.2.2.1, M.2.2.2.2.2.1, M.2.2.2.2.2.2.1, M.2.2.2.2.2.2.2)) H := hP
  exact W.vret hx hb hr (fun t ht hW => ⟨⟨_, rfl, (by rw [m_Ma_compute, if_neg h1, if_neg h2, if_neg h3, if_neg h4, if_neg h5, if_neg h6, if_neg h7, if_neg h8, if_neg h9]), CG_at hP hK hN ht hW⟩, hS.F ht⟩) hS.2.2 d_Ma_compute_211
def m_Ma_passes (M : MT) (ts : Int32) (v : Int32) : Int32 := if ts = (16 : Int32) then if M.2.2.2.1 = v then (1 : Int32) else (0 : Int32) else if ts = (32 : Int32) then if (lg_cmp (m_F_unsigned M.2.2.2.1) (m_F_unsigned v)) ≤ (0 : Int32) then (0 : Int32) else (1 : Int32) else if ts = (48 : Int32) then if (lg_cmp (m_F_unsigned M.2.2.2.1) (m_F_unsigned v)) < (0 : Int32) then (0 : Int32) else (1 : Int32) else if (M.2.2.2.1 &&& v) = (0 : Int32) then (0 : Int32) else (1 : Int32)
set_option maxHeartbeats 4000000 in
set_option maxRecDepth 100000 in
theorem c_Ma_passes (l : Launch) (D : va_G) (dA : Nat → ClassId) (ad : Nat → Nat) (w : Nat → Int32) (P : PT) (g : GT) (ss : Nat → Int32) (M : MT) (ts : Int32) (v : Int32) : Met l y_Ma_passes (mW y_Ma_passes b_Ma_passes 3 (some .boolean)) { frames := 1, cells := 0, slots := 0, locals := 20 } (va_Pc [.ref (ad 11), .int ts, .int v] (fun U => CG D dA ad w P g ss M U)) (vp_Si (fun r => r = m_Ma_passes M ts v)) 0 0 (fun _ => False) := by
  refine Met.ofW (cc := b_Ma_passes) (maxL := 3) (ret := (some .boolean)) (by decide) rfl ?_
  intro p e s m args below meth c s₁ B hml hv
  obtain ⟨rfl, hP, hK, hN⟩ := hv
  have hx := B.exec
  have hb := B.bytes
  have hr := B.returns
  have hlocks := B.notSynchronized
  have hts := fun (w : Cond) (h : w ∈ lw_g) => atoms_spec (ws := mW y_Ma_passes b_Ma_passes 3 (some .boolean)) B.pre w (List.mem_cons_of_mem _ h)
  have hown : s.vm.findClass R_Ma = some m.cls := findClass_of_methodNamed B.named
  have hl := lv_entry ([.ref (ad 11), .int ts, .int v]) (n := 3) (Nat.le_of_ble_eq_true rfl)
  rw [lg_entry_eq]
  generalize (lg_sl ([.ref (ad 11), .int ts, .int v]) ++ List.replicate (3 - (lg_sl ([.ref (ad 11), .int ts, .int v])).length) Slot.unset).toArray = ls at hl ⊢
  have hl : lv_has ls 3 [(0, .ref (ad 11)), (1, .int ts), (2, .int v)] := hl
  refine lv_iload_n hx hb d_Ma_passes_0 rfl (lv_at hl 1 rfl) ?_
  by_cases h1 : ts = (16 : Int32)
  · refine lv_lookup (tgt := 36) (off := 35) hx hb d_Ma_passes_1 (by decide) (by rw [h1] <;> rfl) (by decide) ?_
    refine lv_aload_n hx hb d_Ma_passes_36 rfl (lv_at hl 0 rfl) ?_
    refine va_get (D := D) (ci := 4) (v := .int M.2.2.2.1) (C := R_Ma) (T := F_Ma) (N := 8) hx hb hts in_Ma hown hK hP 11 rfl rfl 3 (by decide) (hts _ wd_186) (fun _ h9 => h9) rfl d_Ma_passes_37 ?_
    refine lv_iload_n hx hb d_Ma_passes_40 rfl (lv_at hl 2 rfl) ?_
    refine lv_icmp_ne (tgt := 48) hx hb d_Ma_passes_41 (by decide) (fun h2 => ?_) (fun h2 => ?_)
    · refine lv_iconst (v := 0) hx hb d_Ma_passes_48 (by decide) ?_
      exact W.zret hx hb hr rfl (fun t ht hW => ⟨_, rfl, (by rw [m_Ma_passes, if_pos h1, if_neg h2]), ht⟩) (fun _ h => by cases h) d_Ma_passes_49
    refine lv_iconst (v := 1) hx hb d_Ma_passes_44 (by decide) ?_
    refine lv_goto (tgt := 49) hx hb d_Ma_passes_45 (by decide) ?_
    exact W.zret hx hb hr rfl (fun t ht hW => ⟨_, rfl, (by rw [m_Ma_passes, if_pos h1, if_pos h2]), ht⟩) (fun _ h => by cases h) d_Ma_passes_49
  by_cases h3 : ts = (32 : Int32)
  · refine lv_lookup (tgt := 50) (off := 49) hx hb d_Ma_passes_1 (by decide) (by rw [h3] <;> rfl) (by decide) ?_
    refine lv_aload_n hx hb d_Ma_passes_50 rfl (lv_at hl 0 rfl) ?_
    refine va_get (D := D) (ci := 4) (v := .int M.2.2.2.1) (C := R_Ma) (T := F_Ma) (N := 8) hx hb hts in_Ma hown hK hP 11 rfl rfl 3 (by decide) (hts _ wd_186) (fun _ h9 => h9) rfl d_Ma_passes_51 ?_
    refine vp_callSl (va_Run.run (va_runSN (As := [.int M.2.2.2.1]) (rest := []) ⟨hx, hb, hml, hown, hts⟩ (c_F_unsigned l M.2.2.2.1) ⟨va_cnB 1 hts (g_in wd_302) rfl rfl rfl hN.2.2.2.2.2.2.1 (hts _ wd_26) (by decide +kernel) ⟨Nat.le_of_ble_eq_true rfl, Nat.le_of_ble_eq_true rfl⟩, hts _ wd_301, trivial⟩ ⟨fun _ _ _ _ q => q, fun _ _ _ => ⟨rfl, trivial⟩⟩ rfl rfl hl.1 rfl (lv_room (Nat.le_of_ble_eq_true rfl)) d_Ma_passes_54 ⟨Nat.le_of_ble_eq_true rfl, Nat.le_of_ble_eq_true rfl⟩)) (fun r1 e1 => ?_)
    subst e1
    refine lv_iload_n hx hb d_Ma_passes_57 rfl (lv_at hl 2 rfl) ?_
    refine vp_callSl (va_Run.run (va_runSN (As := [.int v]) (rest := [.long (m_F_unsigned M.2.2.2.1)]) ⟨hx, hb, hml, hown, hts⟩ (c_F_unsigned l v) ⟨va_cnB 1 hts (g_in wd_302) rfl rfl rfl hN.2.2.2.2.2.2.1 (hts _ wd_26) (by decide +kernel) ⟨Nat.le_of_ble_eq_true rfl, Nat.le_of_ble_eq_true rfl⟩, hts _ wd_301, trivial⟩ ⟨fun _ _ _ _ q => q, fun _ _ _ => ⟨rfl, trivial⟩⟩ rfl rfl hl.1 rfl (lv_room (Nat.le_of_ble_eq_true rfl)) d_Ma_passes_58 ⟨Nat.le_of_ble_eq_true rfl, Nat.le_of_ble_eq_true rfl⟩)) (fun r2 e2 => ?_)
    subst e2
    refine W.lcmp hx hb d_Ma_passes_61 ?_
    refine lv_if_le (tgt := 69) hx hb d_Ma_passes_62 (by decide) (fun h4 => ?_) (fun h4 => ?_)
    · refine lv_iconst (v := 0) hx hb d_Ma_passes_69 (by decide) ?_
      exact W.zret hx hb hr rfl (fun t ht hW => ⟨_, rfl, (by rw [m_Ma_passes, if_neg h1, if_pos h3, if_pos h4]), ht⟩) (fun _ h => by cases h) d_Ma_passes_70
    refine lv_iconst (v := 1) hx hb d_Ma_passes_65 (by decide) ?_
    refine lv_goto (tgt := 70) hx hb d_Ma_passes_66 (by decide) ?_
    exact W.zret hx hb hr rfl (fun t ht hW => ⟨_, rfl, (by rw [m_Ma_passes, if_neg h1, if_pos h3, if_neg h4]), ht⟩) (fun _ h => by cases h) d_Ma_passes_70
  by_cases h5 : ts = (48 : Int32)
  · refine lv_lookup (tgt := 71) (off := 70) hx hb d_Ma_passes_1 (by decide) (by rw [h5] <;> rfl) (by decide) ?_
    refine lv_aload_n hx hb d_Ma_passes_71 rfl (lv_at hl 0 rfl) ?_
    refine va_get (D := D) (ci := 4) (v := .int M.2.2.2.1) (C := R_Ma) (T := F_Ma) (N := 8) hx hb hts in_Ma hown hK hP 11 rfl rfl 3 (by decide) (hts _ wd_186) (fun _ h9 => h9) rfl d_Ma_passes_72 ?_
    refine vp_callSl (va_Run.run (va_runSN (As := [.int M.2.2.2.1]) (rest := []) ⟨hx, hb, hml, hown, hts⟩ (c_F_unsigned l M.2.2.2.1) ⟨va_cnB 1 hts (g_in wd_302) rfl rfl rfl hN.2.2.2.2.2.2.1 (hts _ wd_26) (by decide +kernel) ⟨Nat.le_of_ble_eq_true rfl, Nat.le_of_ble_eq_true rfl⟩, hts _ wd_301, trivial⟩ ⟨fun _ _ _ _ q => q, fun _ _ _ => ⟨rfl, trivial⟩⟩ rfl rfl hl.1 rfl (lv_room (Nat.le_of_ble_eq_true rfl)) d_Ma_passes_75 ⟨Nat.le_of_ble_eq_true rfl, Nat.le_of_ble_eq_true rfl⟩)) (fun r3 e3 => ?_)
    subst e3
    refine lv_iload_n hx hb d_Ma_passes_78 rfl (lv_at hl 2 rfl) ?_
    refine vp_callSl (va_Run.run (va_runSN (As := [.int v]) (rest := [.long (m_F_unsigned M.2.2.2.1)]) ⟨hx, hb, hml, hown, hts⟩ (c_F_unsigned l v) ⟨va_cnB 1 hts (g_in wd_302) rfl rfl rfl hN.2.2.2.2.2.2.1 (hts _ wd_26) (by decide +kernel) ⟨Nat.le_of_ble_eq_true rfl, Nat.le_of_ble_eq_true rfl⟩, hts _ wd_301, trivial⟩ ⟨fun _ _ _ _ q => q, fun _ _ _ => ⟨rfl, trivial⟩⟩ rfl rfl hl.1 rfl (lv_room (Nat.le_of_ble_eq_true rfl)) d_Ma_passes_79 ⟨Nat.le_of_ble_eq_true rfl, Nat.le_of_ble_eq_true rfl⟩)) (fun r4 e4 => ?_)
    subst e4
    refine W.lcmp hx hb d_Ma_passes_82 ?_
    refine lv_if_lt (tgt := 90) hx hb d_Ma_passes_83 (by decide) (fun h6 => ?_) (fun h6 => ?_)
    · refine lv_iconst (v := 0) hx hb d_Ma_passes_90 (by decide) ?_
      exact W.zret hx hb hr rfl (fun t ht hW => ⟨_, rfl, (by rw [m_Ma_passes, if_neg h1, if_neg h3, if_pos h5, if_pos h6]), ht⟩) (fun _ h => by cases h) d_Ma_passes_91
    refine lv_iconst (v := 1) hx hb d_Ma_passes_86 (by decide) ?_
    refine lv_goto (tgt := 91) hx hb d_Ma_passes_87 (by decide) ?_
    exact W.zret hx hb hr rfl (fun t ht hW => ⟨_, rfl, (by rw [m_Ma_passes, if_neg h1, if_neg h3, if_pos h5, if_neg h6]), ht⟩) (fun _ h => by cases h) d_Ma_passes_91
  refine lv_lookup (tgt := 92) (off := 91) hx hb d_Ma_passes_1 (by decide) ((lv_osw h1 (by decide)).trans ((lv_osw h3 (by decide)).trans ((lv_osw h5 (by decide)).trans rfl))) (by decide) ?_
  refine lv_aload_n hx hb d_Ma_passes_92 rfl (lv_at hl 0 rfl) ?_
  refine va_get (D := D) (ci := 4) (v := .int M.2.2.2.1) (C := R_Ma) (T := F_Ma) (N := 8) hx hb hts in_Ma hown hK hP 11 rfl rfl 3 (by decide) (hts _ wd_186) (fun _ h9 => h9) rfl d_Ma_passes_93 ?_
  refine lv_iload_n hx hb d_Ma_passes_96 rfl (lv_at hl 2 rfl) ?_
  refine lv_iand hx hb d_Ma_passes_97 ?_
  refine lv_if_eq (tgt := 105) hx hb d_Ma_passes_98 (by decide) (fun h7 => ?_) (fun h7 => ?_)
  · refine lv_iconst (v := 0) hx hb d_Ma_passes_105 (by decide) ?_
    exact W.zret hx hb hr rfl (fun t ht hW => ⟨_, rfl, (by rw [m_Ma_passes, if_neg h1, if_neg h3, if_neg h5, if_pos h7]), ht⟩) (fun _ h => by cases h) d_Ma_passes_106
  refine lv_iconst (v := 1) hx hb d_Ma_passes_101 (by decide) ?_
  refine lv_goto (tgt := 106) hx hb d_Ma_passes_102 (by decide) ?_
  exact W.zret hx hb hr rfl (fun t ht hW => ⟨_, rfl, (by rw [m_Ma_passes, if_neg h1, if_neg h3, if_neg h5, if_neg h7]), ht⟩) (fun _ h => by cases h) d_Ma_passes_106
def m_Ma_jump (M : MT) (z : Int64) (cd : Int32) (v : Int32) : MT := if cd = (5 : Int32) then (M.1, M.2.1, M.2.2.1, M.2.2.2.1, M.2.2.2.2.1, M.2.2.2.2.2.1 + v, M.2.2.2.2.2.2.1, M.2.2.2.2.2.2.2) else if (m_Ma_passes M (cd &&& (240 : Int32)) v) = (0 : Int32) then (M.1, M.2.1, M.2.2.1, M.2.2.2.1, M.2.2.2.2.1, M.2.2.2.2.2.1 + (m_In_distanceIfFalse z), M.2.2.2.2.2.2.1, M.2.2.2.2.2.2.2) else (M.1, M.2.1, M.2.2.1, M.2.2.2.1, M.2.2.2.2.1, M.2.2.2.2.2.1 + (m_In_distanceIfTrue z), M.2.2.2.2.2.2.1, M.2.2.2.2.2.2.2)
set_option maxHeartbeats 4000000 in
set_option maxRecDepth 100000 in
theorem c_Ma_jump (l : Launch) (D : va_G) (dA : Nat → ClassId) (ad : Nat → Nat) (A : Nat → Prop) (hAd : AdOK 49 ad A) (w : Nat → Int32) (P : PT) (g : GT) (ss : Nat → Int32) (M : MT) (z : Int64) (cd : Int32) (v : Int32) : Met l y_Ma_jump (mW y_Ma_jump b_Ma_jump 5 none) { frames := 2, cells := 0, slots := 0, locals := 42 } (va_Pc [.ref (ad 11), .long z, .int cd, .int v] (fun U => CG D dA ad w P g ss M U)) (va_Qv (fun u : MT => u = m_Ma_jump M z cd v) (fun u t => CG D dA ad w P g ss u t) A) 0 0 A := by
  refine Met.ofW (cc := b_Ma_jump) (maxL := 5) (ret := none) (by decide) rfl ?_
  intro p e s m args below meth c s₁ B hml hv
  obtain ⟨rfl, hP, hK, hN⟩ := hv
  have hx := B.exec
  have hb := B.bytes
  have hr := B.returns
  have hlocks := B.notSynchronized
  have hts := fun (w : Cond) (h : w ∈ lw_g) => atoms_spec (ws := mW y_Ma_jump b_Ma_jump 5 none) B.pre w (List.mem_cons_of_mem _ h)
  have hown : s.vm.findClass R_Ma = some m.cls := findClass_of_methodNamed B.named
  have hS : va_S A s.heap s.heap [] := va_S.rf
  have hl := lv_entry ([.ref (ad 11), .long z, .int cd, .int v]) (n := 5) (Nat.le_of_ble_eq_true rfl)
  rw [lg_entry_eq]
  generalize (lg_sl ([.ref (ad 11), .long z, .int cd, .int v]) ++ List.replicate (5 - (lg_sl ([.ref (ad 11), .long z, .int cd, .int v])).length) Slot.unset).toArray = ls at hl ⊢
  have hl : lv_has ls 5 [(0, .ref (ad 11)), (1, .long z), (3, .int cd), (4, .int v)] := hl
  refine lv_iload_n hx hb d_Ma_jump_0 rfl (lv_at hl 2 rfl) ?_
  refine lv_iconst (v := 5) hx hb d_Ma_jump_1 (by decide) ?_
  refine lv_icmp_ne (tgt := 19) hx hb d_Ma_jump_2 (by decide) (fun h1 => ?_) (fun h1 => ?_)
  · refine lv_aload_n hx hb d_Ma_jump_19 rfl (lv_at hl 0 rfl) ?_
    refine lv_iload_n hx hb d_Ma_jump_20 rfl (lv_at hl 2 rfl) ?_
    refine lv_sipush (v := 240) hx hb d_Ma_jump_21 (by decide) ?_
    refine lv_iand hx hb d_Ma_jump_24 ?_
    refine lv_iload hx hb d_Ma_jump_25 (lv_at hl 3 rfl) ?_
    refine vp_callSi (va_Run.run (va_runV (As := [.int (cd &&& (240 : Int32)), .int v]) (rest := []) ⟨hx, hb, hml, hown, hts⟩ (c_Ma_passes l D dA ad w P g ss M (cd &&& (240 : Int32)) v) (cwV 2 hts (g_V wd_468 wd_470 wd_11 wd_34 wd_471) rfl rfl rfl (by decide +kernel) ⟨Nat.le_of_ble_eq_true rfl, Nat.le_of_ble_eq_true rfl⟩) ⟨CG_fb, (va_recv (ci := 4) (q := (R_Ma, F_Ma, 8)) (q0 := 11) hK hP rfl rfl), fun U hU hW => ⟨rfl, CG_at hP hK hN hU hW⟩⟩ rfl rfl hl.1 rfl (lv_room (Nat.le_of_ble_eq_true rfl)) d_Ma_jump_27 ⟨Nat.le_of_ble_eq_true rfl, Nat.le_of_ble_eq_true rfl⟩)) (fun r1 e1 => ?_)
    subst e1
    refine lv_if_eq (tgt := 49) hx hb d_Ma_jump_30 (by decide) (fun h2 => ?_) (fun h2 => ?_)
    · refine lv_aload_n hx hb d_Ma_jump_49 rfl (lv_at hl 0 rfl) ?_
      refine lv_dup hx hb d_Ma_jump_50 rfl ?_
      refine va_get (D := D) (ci := 4) (v := .int M.2.2.2.2.2.1) (C := R_Ma) (T := F_Ma) (N := 8) hx hb hts in_Ma hown hK hP 11 rfl rfl 5 (by decide) (hts _ wd_188) (fun _ h9 => h9) rfl d_Ma_jump_51 ?_
      refine lv_lload_n hx hb d_Ma_jump_54 rfl (lv_at hl 1 rfl) ?_
      refine vp_callSi (va_Run.run (va_runS (As := [.long z]) (rest := [.int M.2.2.2.2.2.1, .ref (ad 11)]) ⟨hx, hb, hml, hown, hts⟩ (c_In_distanceIfFalse l z) (va_cwS 1 hts (g_S wd_473 wd_404 wd_36 wd_405) rfl rfl rfl (by decide +kernel) ⟨Nat.le_of_ble_eq_true rfl, Nat.le_of_ble_eq_true rfl⟩) ⟨fun _ _ _ _ q => q, fun _ _ _ => ⟨rfl, trivial⟩⟩ rfl rfl hl.1 rfl (lv_room (Nat.le_of_ble_eq_true rfl)) d_Ma_jump_55 ⟨Nat.le_of_ble_eq_true rfl, Nat.le_of_ble_eq_true rfl⟩)) (fun r2 e2 => ?_)
      subst e2
      refine lv_iadd hx hb d_Ma_jump_58 ?_
      refine va_put (D := D) (ci := 4) (v := .int (M.2.2.2.2.2.1 + (m_In_distanceIfFalse z))) (ty := .int) (C := R_Ma) (T := F_Ma) (N := 8) hx hb hts in_Ma t_Ma k_Ma n_Ma hown hK hP (wC_D hAd) hS 11 rfl rfl 5 (by decide) (hts _ wd_188) (fun _ h9 => h9) rfl (by decide +kernel) rfl rfl (Nat.le_of_ble_eq_true rfl) d_Ma_jump_59 (fun H locs hP _ hS => ?_)
      have hP : va_P D cls (wC ad dA w P g ss (M.1, M.2.1, M.2.2.1, M.2.2.2.1, M.2.2.2.2.1, M.2.2.2.2.2.1 + (m_In_distanceIfFalse z), M.2.2.2.2.2.2.1, M.2.2.2.2.2.2.2)) H := hP
      exact W.vret hx hb hr (fun t ht hW => ⟨⟨_, rfl, (by rw [m_Ma_jump, if_neg h1, if_pos h2]), CG_at hP hK hN ht hW⟩, hS.F ht⟩) hS.2.2 d_Ma_jump_62
    refine lv_aload_n hx hb d_Ma_jump_33 rfl (lv_at hl 0 rfl) ?_
    refine lv_dup hx hb d_Ma_jump_34 rfl ?_
    refine va_get (D := D) (ci := 4) (v := .int M.2.2.2.2.2.1) (C := R_Ma) (T := F_Ma) (N := 8) hx hb hts in_Ma hown hK hP 11 rfl rfl 5 (by decide) (hts _ wd_188) (fun _ h9 => h9) rfl d_Ma_jump_35 ?_
    refine lv_lload_n hx hb d_Ma_jump_38 rfl (lv_at hl 1 rfl) ?_
    refine vp_callSi (va_Run.run (va_runS (As := [.long z]) (rest := [.int M.2.2.2.2.2.1, .ref (ad 11)]) ⟨hx, hb, hml, hown, hts⟩ (c_In_distanceIfTrue l z) (va_cwS 1 hts (g_S wd_472 wd_400 wd_36 wd_401) rfl rfl rfl (by decide +kernel) ⟨Nat.le_of_ble_eq_true rfl, Nat.le_of_ble_eq_true rfl⟩) ⟨fun _ _ _ _ q => q, fun _ _ _ => ⟨rfl, trivial⟩⟩ rfl rfl hl.1 rfl (lv_room (Nat.le_of_ble_eq_true rfl)) d_Ma_jump_39 ⟨Nat.le_of_ble_eq_true rfl, Nat.le_of_ble_eq_true rfl⟩)) (fun r3 e3 => ?_)
    subst e3
    refine lv_iadd hx hb d_Ma_jump_42 ?_
    refine va_put (D := D) (ci := 4) (v := .int (M.2.2.2.2.2.1 + (m_In_distanceIfTrue z))) (ty := .int) (C := R_Ma) (T := F_Ma) (N := 8) hx hb hts in_Ma t_Ma k_Ma n_Ma hown hK hP (wC_D hAd) hS 11 rfl rfl 5 (by decide) (hts _ wd_188) (fun _ h9 => h9) rfl (by decide +kernel) rfl rfl (Nat.le_of_ble_eq_true rfl) d_Ma_jump_43 (fun H locs hP _ hS => ?_)
    have hP : va_P D cls (wC ad dA w P g ss (M.1, M.2.1, M.2.2.1, M.2.2.2.1, M.2.2.2.2.1, M.2.2.2.2.2.1 + (m_In_distanceIfTrue z), M.2.2.2.2.2.2.1, M.2.2.2.2.2.2.2)) H := hP
    refine lv_goto (tgt := 62) hx hb d_Ma_jump_46 (by decide) ?_
    exact W.vret hx hb hr (fun t ht hW => ⟨⟨_, rfl, (by rw [m_Ma_jump, if_neg h1, if_neg h2]), CG_at hP hK hN ht hW⟩, hS.F ht⟩) hS.2.2 d_Ma_jump_62
  refine lv_aload_n hx hb d_Ma_jump_5 rfl (lv_at hl 0 rfl) ?_
  refine lv_dup hx hb d_Ma_jump_6 rfl ?_
  refine va_get (D := D) (ci := 4) (v := .int M.2.2.2.2.2.1) (C := R_Ma) (T := F_Ma) (N := 8) hx hb hts in_Ma hown hK hP 11 rfl rfl 5 (by decide) (hts _ wd_188) (fun _ h9 => h9) rfl d_Ma_jump_7 ?_
  refine lv_iload hx hb d_Ma_jump_10 (lv_at hl 3 rfl) ?_
  refine lv_iadd hx hb d_Ma_jump_12 ?_
  refine va_put (D := D) (ci := 4) (v := .int (M.2.2.2.2.2.1 + v)) (ty := .int) (C := R_Ma) (T := F_Ma) (N := 8) hx hb hts in_Ma t_Ma k_Ma n_Ma hown hK hP (wC_D hAd) hS 11 rfl rfl 5 (by decide) (hts _ wd_188) (fun _ h9 => h9) rfl (by decide +kernel) rfl rfl (Nat.le_of_ble_eq_true rfl) d_Ma_jump_13 (fun H locs hP _ hS => ?_)
  have hP : va_P D cls (wC ad dA w P g ss (M.1, M.2.1, M.2.2.1, M.2.2.2.1, M.2.2.2.2.1, M.2.2.2.2.2.1 + v, M.2.2.2.2.2.2.1, M.2.2.2.2.2.2.2)) H := hP
  refine lv_goto (tgt := 62) hx hb d_Ma_jump_16 (by decide) ?_
  exact W.vret hx hb hr (fun t ht hW => ⟨⟨_, rfl, (by rw [m_Ma_jump, if_pos h1]), CG_at hP hK hN ht hW⟩, hS.F ht⟩) hS.2.2 d_Ma_jump_62
def m_Ma_perform (w : Nat → Int32) (M : MT) (z : Int64) : MT := if ((m_In_codeOf z) &&& (8 : Int32)) = (0 : Int32) then if ((m_In_codeOf z) &&& (7 : Int32)) = (0 : Int32) then (M.1, M.2.1, M.2.2.1, m_Ma_load w M (m_In_codeOf z) ((m_In_operandOf z).toInt32), M.2.2.2.2.1, M.2.2.2.2.2.1, M.2.2.2.2.2.2.1, M.2.2.2.2.2.2.2) else if ((m_In_codeOf z) &&& (7 : Int32)) = (1 : Int32) then (M.1, M.2.1, M.2.2.1, M.2.2.2.1, m_Ma_load w M (m_In_codeOf z) ((m_In_operandOf z).toInt32), M.2.2.2.2.2.1, M.2.2.2.2.2.2.1, M.2.2.2.2.2.2.2) else if ((m_In_codeOf z) &&& (7 : Int32)) = (2 : Int32) then (m_Ma_store M ((m_In_operandOf z).toInt32) M.2.2.2.1) else if ((m_In_codeOf z) &&& (7 : Int32)) = (3 : Int32) then (m_Ma_store M ((m_In_operandOf z).toInt32) M.2.2.2.2.1) else if ((m_In_codeOf z) &&& (7 : Int32)) = (4 : Int32) then (m_Ma_compute M ((m_In_codeOf z) &&& (240 : Int32)) ((m_In_operandOf z).toInt32)) else if ((m_In_codeOf z) &&& (7 : Int32)) = (5 : Int32) then (m_Ma_jump M z (m_In_codeOf z) ((m_In_operandOf z).toInt32)) else if ((m_In_codeOf z) &&& (7 : Int32)) = (6 : Int32) then if (m_In_codeOf z) = (6 : Int32) then (m_Ma_end M ((m_In_operandOf z).toInt32)) else (m_Ma_end M M.2.2.2.1) else (m_Ma_copy M (m_In_codeOf z)) else if ((m_In_codeOf z) &&& (7 : Int32)) = (0 : Int32) then (M.1, M.2.1, M.2.2.1, m_Ma_load w M (m_In_codeOf z) ((m_In_operandOf z).toInt32), M.2.2.2.2.1, M.2.2.2.2.2.1, M.2.2.2.2.2.2.1, M.2.2.2.2.2.2.2) else if ((m_In_codeOf z) &&& (7 : Int32)) = (1 : Int32) then (M.1, M.2.1, M.2.2.1, M.2.2.2.1, m_Ma_load w M (m_In_codeOf z) ((m_In_operandOf z).toInt32), M.2.2.2.2.2.1, M.2.2.2.2.2.2.1, M.2.2.2.2.2.2.2) else if ((m_In_codeOf z) &&& (7 : Int32)) = (2 : Int32) then (m_Ma_store M ((m_In_operandOf z).toInt32) M.2.2.2.1) else if ((m_In_codeOf z) &&& (7 : Int32)) = (3 : Int32) then (m_Ma_store M ((m_In_operandOf z).toInt32) M.2.2.2.2.1) else if ((m_In_codeOf z) &&& (7 : Int32)) = (4 : Int32) then (m_Ma_compute M ((m_In_codeOf z) &&& (240 : Int32)) M.2.2.2.2.1) else if ((m_In_codeOf z) &&& (7 : Int32)) = (5 : Int32) then (m_Ma_jump M z (m_In_codeOf z) M.2.2.2.2.1) else if ((m_In_codeOf z) &&& (7 : Int32)) = (6 : Int32) then if (m_In_codeOf z) = (6 : Int32) then (m_Ma_end M ((m_In_operandOf z).toInt32)) else (m_Ma_end M M.2.2.2.1) else (m_Ma_copy M (m_In_codeOf z))
set_option maxHeartbeats 4000000 in
set_option maxRecDepth 100000 in
theorem c_Ma_perform (l : Launch) (D : va_G) (dA : Nat → ClassId) (ad : Nat → Nat) (A : Nat → Prop) (hAd : AdOK 49 ad A) (w : Nat → Int32) (P : PT) (g : GT) (ss : Nat → Int32) (M : MT) (z : Int64) (hz : OKz z) : Met l y_Ma_perform (mW y_Ma_perform b_Ma_perform 7 none) { frames := 3, cells := 0, slots := 0, locals := 66 } (va_Pc [.ref (ad 11), .long z, .ref (ad 1)] (fun U => CG D dA ad w P g ss M U)) (va_Qv (fun u : MT => u = m_Ma_perform w M z) (fun u t => CG D dA ad w P g ss u t) A) 0 0 A := by
  refine Met.ofW (cc := b_Ma_perform) (maxL := 7) (ret := none) (by decide) rfl ?_
  intro p e s m args below meth c s₁ B hml hv
  obtain ⟨rfl, hP, hK, hN⟩ := hv
  have hx := B.exec
  have hb := B.bytes
  have hr := B.returns
  have hlocks := B.notSynchronized
  have hts := fun (w : Cond) (h : w ∈ lw_g) => atoms_spec (ws := mW y_Ma_perform b_Ma_perform 7 none) B.pre w (List.mem_cons_of_mem _ h)
  have hown : s.vm.findClass R_Ma = some m.cls := findClass_of_methodNamed B.named
  have hS : va_S A s.heap s.heap [] := va_S.rf
  have hl := lv_entry ([.ref (ad 11), .long z, .ref (ad 1)]) (n := 7) (Nat.le_of_ble_eq_true rfl)
  rw [lg_entry_eq]
  generalize (lg_sl ([.ref (ad 11), .long z, .ref (ad 1)]) ++ List.replicate (7 - (lg_sl ([.ref (ad 11), .long z, .ref (ad 1)])).length) Slot.unset).toArray = ls at hl ⊢
  have hl : lv_has ls 7 [(0, .ref (ad 11)), (1, .long z), (3, .ref (ad 1))] := hl
  refine lv_lload_n hx hb d_Ma_perform_0 rfl (lv_at hl 1 rfl) ?_
  refine vp_callSi (va_Run.run (va_runS (As := [.long z]) (rest := []) ⟨hx, hb, hml, hown, hts⟩ (c_In_codeOf l z) (va_cwS 1 hts (g_S wd_441 wd_364 wd_36 wd_365) rfl rfl rfl (by decide +kernel) ⟨Nat.le_of_ble_eq_true rfl, Nat.le_of_ble_eq_true rfl⟩) ⟨fun _ _ _ _ q => q, fun _ _ _ => ⟨rfl, trivial⟩⟩ rfl rfl hl.1 rfl (lv_room (Nat.le_of_ble_eq_true rfl)) d_Ma_perform_1 ⟨Nat.le_of_ble_eq_true rfl, Nat.le_of_ble_eq_true rfl⟩)) (fun r1 e1 => ?_)
  subst e1
  refine lv_istore hx hb d_Ma_perform_4 hl (by decide) rfl (fun ls hl => ?_)
  have hl : lv_has ls 7 [(4, .int (m_In_codeOf z)), (0, .ref (ad 11)), (1, .long z), (3, .ref (ad 1))] := hl
  refine lv_lload_n hx hb d_Ma_perform_6 rfl (lv_at hl 2 rfl) ?_
  refine vp_callSl (va_Run.run (va_runS (As := [.long z]) (rest := []) ⟨hx, hb, hml, hown, hts⟩ (c_In_operandOf l z) (va_cwS 1 hts (g_S wd_442 wd_380 wd_36 wd_381) rfl rfl rfl (by decide +kernel) ⟨Nat.le_of_ble_eq_true rfl, Nat.le_of_ble_eq_true rfl⟩) ⟨fun _ _ _ _ q => q, fun _ _ _ => ⟨rfl, trivial⟩⟩ rfl rfl hl.1 rfl (lv_room (Nat.le_of_ble_eq_true rfl)) d_Ma_perform_7 ⟨Nat.le_of_ble_eq_true rfl, Nat.le_of_ble_eq_true rfl⟩)) (fun r2 e2 => ?_)
  subst e2
  refine lv_l2i hx hb d_Ma_perform_10 rfl ?_
  refine lv_istore hx hb d_Ma_perform_11 hl (by decide) rfl (fun ls hl => ?_)
  have hl : lv_has ls 7 [(5, .int ((m_In_operandOf z).toInt32)), (4, .int (m_In_codeOf z)), (0, .ref (ad 11)), (1, .long z), (3, .ref (ad 1))] := hl
  refine lv_iload hx hb d_Ma_perform_13 (lv_at hl 1 rfl) ?_
  refine lv_bipush (v := 8) hx hb d_Ma_perform_15 (by decide) ?_
  refine lv_iand hx hb d_Ma_perform_17 ?_
  refine lv_if_eq (tgt := 28) hx hb d_Ma_perform_18 (by decide) (fun h1 => ?_) (fun h1 => ?_)
  · refine lv_iload hx hb d_Ma_perform_28 (lv_at hl 0 rfl) ?_
    refine lv_istore hx hb d_Ma_perform_30 hl (by decide) rfl (fun ls hl => ?_)
    have hl : lv_has ls 7 [(6, .int ((m_In_operandOf z).toInt32)), (5, .int ((m_In_operandOf z).toInt32)), (4, .int (m_In_codeOf z)), (0, .ref (ad 11)), (1, .long z), (3, .ref (ad 1))] := hl
    refine lv_iload hx hb d_Ma_perform_32 (lv_at hl 2 rfl) ?_
    refine lv_bipush (v := 7) hx hb d_Ma_perform_34 (by decide) ?_
    refine lv_iand hx hb d_Ma_perform_36 ?_
    by_cases h2 : (m_In_codeOf z) &&& (7 : Int32) = (0 : Int32)
    · refine lv_tableIn (tgt := 80) (off := 43) hx hb d_Ma_perform_37 (by rw [h2]; decide) (by rw [h2]; decide) (by rw [h2] <;> rfl) (by decide) ?_
      refine lv_aload_n hx hb d_Ma_perform_80 rfl (lv_at hl 3 rfl) ?_
      refine lv_aload_n hx hb d_Ma_perform_81 rfl (lv_at hl 3 rfl) ?_
      refine lv_iload hx hb d_Ma_perform_82 (lv_at hl 2 rfl) ?_
      refine lv_iload hx hb d_Ma_perform_84 (lv_at hl 1 rfl) ?_
      refine lv_aload_n hx hb d_Ma_perform_86 rfl (lv_at hl 5 rfl) ?_
      refine vp_callSi (va_Run.run (va_runV (As := [.int (m_In_codeOf z), .int ((m_In_operandOf z).toInt32), .ref (ad 1)]) (rest := [.ref (ad 11)]) ⟨hx, hb, hml, hown, hts⟩ (c_Ma_load l D dA ad w P g ss M (m_In_codeOf z) ((m_In_operandOf z).toInt32) (okz_w hz (by first | exact Or.inl (by assumption) | exact Or.inr (by assumption))) (okz_c hz (by first | exact Or.inl (by assumption) | exact Or.inr (by assumption)))) (cwV 3 hts (g_V wd_443 wd_445 wd_5 wd_34 wd_446) rfl rfl rfl (by decide +kernel) ⟨Nat.le_of_ble_eq_true rfl, Nat.le_of_ble_eq_true rfl⟩) ⟨CG_fb, (va_recv (ci := 4) (q := (R_Ma, F_Ma, 8)) (q0 := 11) hK hP rfl rfl), fun U hU hW => ⟨rfl, CG_at hP hK hN hU hW⟩⟩ rfl rfl hl.1 rfl (lv_room (Nat.le_of_ble_eq_true rfl)) d_Ma_perform_87 ⟨Nat.le_of_ble_eq_true rfl, Nat.le_of_ble_eq_true rfl⟩)) (fun r3 e3 => ?_)
      subst e3
      refine va_put (D := D) (ci := 4) (v := .int (m_Ma_load w M (m_In_codeOf z) ((m_In_operandOf z).toInt32))) (ty := .int) (C := R_Ma) (T := F_Ma) (N := 8) hx hb hts in_Ma t_Ma k_Ma n_Ma hown hK hP (wC_D hAd) hS 11 rfl rfl 3 (by decide) (hts _ wd_186) (fun _ h9 => h9) rfl (by decide +kernel) rfl rfl (Nat.le_of_ble_eq_true rfl) d_Ma_perform_90 (fun H locs hP _ hS => ?_)
      have hP : va_P D cls (wC ad dA w P g ss (M.1, M.2.1, M.2.2.1, m_Ma_load w M (m_In_codeOf z) ((m_In_operandOf z).toInt32), M.2.2.2.2.1, M.2.2.2.2.2.1, M.2.2.2.2.2.2.1, M.2.2.2.2.2.2.2)) H := hP
      refine lv_goto (tgt := 194) hx hb d_Ma_perform_93 (by decide) ?_
      exact W.vret hx hb hr (fun t ht hW => ⟨⟨_, rfl, (by rw [m_Ma_perform, if_pos h1, if_pos h2]), CG_at hP hK hN ht hW⟩, hS.F ht⟩) hS.2.2 d_Ma_perform_194
    by_cases h3 : (m_In_codeOf z) &&& (7 : Int32) = (1 : Int32)
    · refine lv_tableIn (tgt := 96) (off := 59) hx hb d_Ma_perform_37 (by rw [h3]; decide) (by rw [h3]; decide) (by rw [h3] <;> rfl) (by decide) ?_
      refine lv_aload_n hx hb d_Ma_perform_96 rfl (lv_at hl 3 rfl) ?_
      refine lv_aload_n hx hb d_Ma_perform_97 rfl (lv_at hl 3 rfl) ?_
      refine lv_iload hx hb d_Ma_perform_98 (lv_at hl 2 rfl) ?_
      refine lv_iload hx hb d_Ma_perform_100 (lv_at hl 1 rfl) ?_
      refine lv_aload_n hx hb d_Ma_perform_102 rfl (lv_at hl 5 rfl) ?_
      refine vp_callSi (va_Run.run (va_runV (As := [.int (m_In_codeOf z), .int ((m_In_operandOf z).toInt32), .ref (ad 1)]) (rest := [.ref (ad 11)]) ⟨hx, hb, hml, hown, hts⟩ (c_Ma_load l D dA ad w P g ss M (m_In_codeOf z) ((m_In_operandOf z).toInt32) (okz_w hz (by first | exact Or.inl (by assumption) | exact Or.inr (by assumption))) (okz_c hz (by first | exact Or.inl (by assumption) | exact Or.inr (by assumption)))) (cwV 3 hts (g_V wd_443 wd_445 wd_5 wd_34 wd_446) rfl rfl rfl (by decide +kernel) ⟨Nat.le_of_ble_eq_true rfl, Nat.le_of_ble_eq_true rfl⟩) ⟨CG_fb, (va_recv (ci := 4) (q := (R_Ma, F_Ma, 8)) (q0 := 11) hK hP rfl rfl), fun U hU hW => ⟨rfl, CG_at hP hK hN hU hW⟩⟩ rfl rfl hl.1 rfl (lv_room (Nat.le_of_ble_eq_true rfl)) d_Ma_perform_103 ⟨Nat.le_of_ble_eq_true rfl, Nat.le_of_ble_eq_true rfl⟩)) (fun r4 e4 => ?_)
      subst e4
      refine va_put (D := D) (ci := 4) (v := .int (m_Ma_load w M (m_In_codeOf z) ((m_In_operandOf z).toInt32))) (ty := .int) (C := R_Ma) (T := F_Ma) (N := 8) hx hb hts in_Ma t_Ma k_Ma n_Ma hown hK hP (wC_D hAd) hS 11 rfl rfl 4 (by decide) (hts _ wd_187) (fun _ h9 => h9) rfl (by decide +kernel) rfl rfl (Nat.le_of_ble_eq_true rfl) d_Ma_perform_106 (fun H locs hP _ hS => ?_)
      have hP : va_P D cls (wC ad dA w P g ss (M.1, M.2.1, M.2.2.1, M.2.2.2.1, m_Ma_load w M (m_In_codeOf z) ((m_In_operandOf z).toInt32), M.2.2.2.2.2.1, M.2.2.2.2.2.2.1, M.2.2.2.2.2.2.2)) H := hP
      refine lv_goto (tgt := 194) hx hb d_Ma_perform_109 (by decide) ?_
      exact W.vret hx hb hr (fun t ht hW => ⟨⟨_, rfl, (by rw [m_Ma_perform, if_pos h1, if_neg h2, if_pos h3]), CG_at hP hK hN ht hW⟩, hS.F ht⟩) hS.2.2 d_Ma_perform_194
    by_cases h4 : (m_In_codeOf z) &&& (7 : Int32) = (2 : Int32)
    · refine lv_tableIn (tgt := 112) (off := 75) hx hb d_Ma_perform_37 (by rw [h4]; decide) (by rw [h4]; decide) (by rw [h4] <;> rfl) (by decide) ?_
      refine lv_aload_n hx hb d_Ma_perform_112 rfl (lv_at hl 3 rfl) ?_
      refine lv_iload hx hb d_Ma_perform_113 (lv_at hl 1 rfl) ?_
      refine lv_aload_n hx hb d_Ma_perform_115 rfl (lv_at hl 3 rfl) ?_
      refine va_get (D := D) (ci := 4) (v := .int M.2.2.2.1) (C := R_Ma) (T := F_Ma) (N := 8) hx hb hts in_Ma hown hK hP 11 rfl rfl 3 (by decide) (hts _ wd_186) (fun _ h9 => h9) rfl d_Ma_perform_116 ?_
      refine va_callv (va_runV (As := [.int ((m_In_operandOf z).toInt32), .int M.2.2.2.1]) (rest := []) ⟨hx, hb, hml, hown, hts⟩ (c_Ma_store l D dA ad A hAd w P g ss M ((m_In_operandOf z).toInt32) M.2.2.2.1 (okz_s hz (by first | exact Or.inl (by assumption) | exact Or.inr (by assumption)))) (cwV 2 hts (g_V wd_447 wd_449 wd_6 wd_34 wd_450) rfl rfl rfl (by decide +kernel) ⟨Nat.le_of_ble_eq_true rfl, Nat.le_of_ble_eq_true rfl⟩) ⟨CG_fb, (va_recv (ci := 4) (q := (R_Ma, F_Ma, 8)) (q0 := 11) hK hP rfl rfl), fun U hU hW => ⟨rfl, CG_at hP hK hN hU hW⟩⟩ rfl rfl hl.1 rfl (lv_room (Nat.le_of_ble_eq_true rfl)) d_Ma_perform_119 ⟨Nat.le_of_ble_eq_true rfl, Nat.le_of_ble_eq_true rfl⟩) hS (fun _ _ h => h) (fun _ h => h) (fun u1 t H locs ht hvm hu hB hz hk hS => ?_)
      subst hu
      obtain ⟨hP, -⟩ := hB
      rw [ht] at hP
      have hP : va_P D cls (wC ad dA w P g ss (m_Ma_store M ((m_In_operandOf z).toInt32) M.2.2.2.1)) H := hP
      refine lv_goto (tgt := 194) hx hb d_Ma_perform_122 (by decide) ?_
      exact W.vret hx hb hr (fun t ht hW => ⟨⟨_, rfl, (by rw [m_Ma_perform, if_pos h1, if_neg h2, if_neg h3, if_pos h4]), CG_at hP hK hN ht hW⟩, hS.F ht⟩) hS.2.2 d_Ma_perform_194
    by_cases h5 : (m_In_codeOf z) &&& (7 : Int32) = (3 : Int32)
    · refine lv_tableIn (tgt := 125) (off := 88) hx hb d_Ma_perform_37 (by rw [h5]; decide) (by rw [h5]; decide) (by rw [h5] <;> rfl) (by decide) ?_
      refine lv_aload_n hx hb d_Ma_perform_125 rfl (lv_at hl 3 rfl) ?_
      refine lv_iload hx hb d_Ma_perform_126 (lv_at hl 1 rfl) ?_
      refine lv_aload_n hx hb d_Ma_perform_128 rfl (lv_at hl 3 rfl) ?_
      refine va_get (D := D) (ci := 4) (v := .int M.2.2.2.2.1) (C := R_Ma) (T := F_Ma) (N := 8) hx hb hts in_Ma hown hK hP 11 rfl rfl 4 (by decide) (hts _ wd_187) (fun _ h9 => h9) rfl d_Ma_perform_129 ?_
      refine va_callv (va_runV (As := [.int ((m_In_operandOf z).toInt32), .int M.2.2.2.2.1]) (rest := []) ⟨hx, hb, hml, hown, hts⟩ (c_Ma_store l D dA ad A hAd w P g ss M ((m_In_operandOf z).toInt32) M.2.2.2.2.1 (okz_s hz (by first | exact Or.inl (by assumption) | exact Or.inr (by assumption)))) (cwV 2 hts (g_V wd_447 wd_449 wd_6 wd_34 wd_450) rfl rfl rfl (by decide +kernel) ⟨Nat.le_of_ble_eq_true rfl, Nat.le_of_ble_eq_true rfl⟩) ⟨CG_fb, (va_recv (ci := 4) (q := (R_Ma, F_Ma, 8)) (q0 := 11) hK hP rfl rfl), fun U hU hW => ⟨rfl, CG_at hP hK hN hU hW⟩⟩ rfl rfl hl.1 rfl (lv_room (Nat.le_of_ble_eq_true rfl)) d_Ma_perform_132 ⟨Nat.le_of_ble_eq_true rfl, Nat.le_of_ble_eq_true rfl⟩) hS (fun _ _ h => h) (fun _ h => h) (fun u2 t H locs ht hvm hu hB hz hk hS => ?_)
      subst hu
      obtain ⟨hP, -⟩ := hB
      rw [ht] at hP
      have hP : va_P D cls (wC ad dA w P g ss (m_Ma_store M ((m_In_operandOf z).toInt32) M.2.2.2.2.1)) H := hP
      refine lv_goto (tgt := 194) hx hb d_Ma_perform_135 (by decide) ?_
      exact W.vret hx hb hr (fun t ht hW => ⟨⟨_, rfl, (by rw [m_Ma_perform, if_pos h1, if_neg h2, if_neg h3, if_neg h4, if_pos h5]), CG_at hP hK hN ht hW⟩, hS.F ht⟩) hS.2.2 d_Ma_perform_194
    by_cases h6 : (m_In_codeOf z) &&& (7 : Int32) = (4 : Int32)
    · refine lv_tableIn (tgt := 138) (off := 101) hx hb d_Ma_perform_37 (by rw [h6]; decide) (by rw [h6]; decide) (by rw [h6] <;> rfl) (by decide) ?_
      refine lv_aload_n hx hb d_Ma_perform_138 rfl (lv_at hl 3 rfl) ?_
      refine lv_iload hx hb d_Ma_perform_139 (lv_at hl 2 rfl) ?_
      refine lv_sipush (v := 240) hx hb d_Ma_perform_141 (by decide) ?_
      refine lv_iand hx hb d_Ma_perform_144 ?_
      refine lv_iload hx hb d_Ma_perform_145 (lv_at hl 0 rfl) ?_
      refine va_callv (va_runV (As := [.int ((m_In_codeOf z) &&& (240 : Int32)), .int ((m_In_operandOf z).toInt32)]) (rest := []) ⟨hx, hb, hml, hown, hts⟩ (c_Ma_compute l D dA ad A hAd w P g ss M ((m_In_codeOf z) &&& (240 : Int32)) ((m_In_operandOf z).toInt32)) (cwV 2 hts (g_V wd_451 wd_453 wd_7 wd_34 wd_454) rfl rfl rfl (by decide +kernel) ⟨Nat.le_of_ble_eq_true rfl, Nat.le_of_ble_eq_true rfl⟩) ⟨CG_fb, (va_recv (ci := 4) (q := (R_Ma, F_Ma, 8)) (q0 := 11) hK hP rfl rfl), fun U hU hW => ⟨rfl, CG_at hP hK hN hU hW⟩⟩ rfl rfl hl.1 rfl (lv_room (Nat.le_of_ble_eq_true rfl)) d_Ma_perform_147 ⟨Nat.le_of_ble_eq_true rfl, Nat.le_of_ble_eq_true rfl⟩) hS (fun _ _ h => h) (fun _ h => h) (fun u3 t H locs ht hvm hu hB hz hk hS => ?_)
      subst hu
      obtain ⟨hP, -⟩ := hB
      rw [ht] at hP
      have hP : va_P D cls (wC ad dA w P g ss (m_Ma_compute M ((m_In_codeOf z) &&& (240 : Int32)) ((m_In_operandOf z).toInt32))) H := hP
      refine lv_goto (tgt := 194) hx hb d_Ma_perform_150 (by decide) ?_
      exact W.vret hx hb hr (fun t ht hW => ⟨⟨_, rfl, (by rw [m_Ma_perform, if_pos h1, if_neg h2, if_neg h3, if_neg h4, if_neg h5, if_pos h6]), CG_at hP hK hN ht hW⟩, hS.F ht⟩) hS.2.2 d_Ma_perform_194
    by_cases h7 : (m_In_codeOf z) &&& (7 : Int32) = (5 : Int32)
    · refine lv_tableIn (tgt := 153) (off := 116) hx hb d_Ma_perform_37 (by rw [h7]; decide) (by rw [h7]; decide) (by rw [h7] <;> rfl) (by decide) ?_
      refine lv_aload_n hx hb d_Ma_perform_153 rfl (lv_at hl 3 rfl) ?_
      refine lv_lload_n hx hb d_Ma_perform_154 rfl (lv_at hl 4 rfl) ?_
      refine lv_iload hx hb d_Ma_perform_155 (lv_at hl 2 rfl) ?_
      refine lv_iload hx hb d_Ma_perform_157 (lv_at hl 0 rfl) ?_
      refine va_callv (va_runV (As := [.long z, .int (m_In_codeOf z), .int ((m_In_operandOf z).toInt32)]) (rest := []) ⟨hx, hb, hml, hown, hts⟩ (c_Ma_jump l D dA ad A hAd w P g ss M z (m_In_codeOf z) ((m_In_operandOf z).toInt32)) (cwV 3 hts (g_V wd_464 wd_466 wd_10 wd_34 wd_467) rfl rfl rfl (by decide +kernel) ⟨Nat.le_of_ble_eq_true rfl, Nat.le_of_ble_eq_true rfl⟩) ⟨CG_fb, (va_recv (ci := 4) (q := (R_Ma, F_Ma, 8)) (q0 := 11) hK hP rfl rfl), fun U hU hW => ⟨rfl, CG_at hP hK hN hU hW⟩⟩ rfl rfl hl.1 rfl (lv_room (Nat.le_of_ble_eq_true rfl)) d_Ma_perform_159 ⟨Nat.le_of_ble_eq_true rfl, Nat.le_of_ble_eq_true rfl⟩) hS (fun _ _ h => h) (fun _ h => h) (fun u4 t H locs ht hvm hu hB hz hk hS => ?_)
      subst hu
      obtain ⟨hP, -⟩ := hB
      rw [ht] at hP
      have hP : va_P D cls (wC ad dA w P g ss (m_Ma_jump M z (m_In_codeOf z) ((m_In_operandOf z).toInt32))) H := hP
      refine lv_goto (tgt := 194) hx hb d_Ma_perform_162 (by decide) ?_
      exact W.vret hx hb hr (fun t ht hW => ⟨⟨_, rfl, (by rw [m_Ma_perform, if_pos h1, if_neg h2, if_neg h3, if_neg h4, if_neg h5, if_neg h6, if_pos h7]), CG_at hP hK hN ht hW⟩, hS.F ht⟩) hS.2.2 d_Ma_perform_194
    by_cases h8 : (m_In_codeOf z) &&& (7 : Int32) = (6 : Int32)
    · refine lv_tableIn (tgt := 165) (off := 128) hx hb d_Ma_perform_37 (by rw [h8]; decide) (by rw [h8]; decide) (by rw [h8] <;> rfl) (by decide) ?_
      refine lv_aload_n hx hb d_Ma_perform_165 rfl (lv_at hl 3 rfl) ?_
      refine lv_iload hx hb d_Ma_perform_166 (lv_at hl 2 rfl) ?_
      refine lv_bipush (v := 6) hx hb d_Ma_perform_168 (by decide) ?_
      refine lv_icmp_ne (tgt := 178) hx hb d_Ma_perform_170 (by decide) (fun h9 => ?_) (fun h9 => ?_)
      · refine lv_aload_n hx hb d_Ma_perform_178 rfl (lv_at hl 3 rfl) ?_
        refine va_get (D := D) (ci := 4) (v := .int M.2.2.2.1) (C := R_Ma) (T := F_Ma) (N := 8) hx hb hts in_Ma hown hK hP 11 rfl rfl 3 (by decide) (hts _ wd_186) (fun _ h9 => h9) rfl d_Ma_perform_179 ?_
        refine va_callv (va_runV (As := [.int M.2.2.2.1]) (rest := []) ⟨hx, hb, hml, hown, hts⟩ (c_Ma_end l D dA ad A hAd w P g ss M M.2.2.2.1) (cwV 1 hts (g_V wd_459 wd_461 wd_9 wd_34 wd_462) rfl rfl rfl (by decide +kernel) ⟨Nat.le_of_ble_eq_true rfl, Nat.le_of_ble_eq_true rfl⟩) ⟨CG_fb, (va_recv (ci := 4) (q := (R_Ma, F_Ma, 8)) (q0 := 11) hK hP rfl rfl), fun U hU hW => ⟨rfl, CG_at hP hK hN hU hW⟩⟩ rfl rfl hl.1 rfl (lv_room (Nat.le_of_ble_eq_true rfl)) d_Ma_perform_182 ⟨Nat.le_of_ble_eq_true rfl, Nat.le_of_ble_eq_true rfl⟩) hS (fun _ _ h => h) (fun _ h => h) (fun u5 t H locs ht hvm hu hB hz hk hS => ?_)
        subst hu
        obtain ⟨hP, -⟩ := hB
        rw [ht] at hP
        have hP : va_P D cls (wC ad dA w P g ss (m_Ma_end M M.2.2.2.1)) H := hP
        refine lv_goto (tgt := 194) hx hb d_Ma_perform_185 (by decide) ?_
        exact W.vret hx hb hr (fun t ht hW => ⟨⟨_, rfl, (by rw [m_Ma_perform, if_pos h1, if_neg h2, if_neg h3, if_neg h4, if_neg h5, if_neg h6, if_neg h7, if_pos h8, if_neg h9]), CG_at hP hK hN ht hW⟩, hS.F ht⟩) hS.2.2 d_Ma_perform_194
      refine lv_iload hx hb d_Ma_perform_173 (lv_at hl 1 rfl) ?_
      refine lv_goto (tgt := 182) hx hb d_Ma_perform_175 (by decide) ?_
      refine va_callv (va_runV (As := [.int ((m_In_operandOf z).toInt32)]) (rest := []) ⟨hx, hb, hml, hown, hts⟩ (c_Ma_end l D dA ad A hAd w P g ss M ((m_In_operandOf z).toInt32)) (cwV 1 hts (g_V wd_459 wd_461 wd_9 wd_34 wd_462) rfl rfl rfl (by decide +kernel) ⟨Nat.le_of_ble_eq_true rfl, Nat.le_of_ble_eq_true rfl⟩) ⟨CG_fb, (va_recv (ci := 4) (q := (R_Ma, F_Ma, 8)) (q0 := 11) hK hP rfl rfl), fun U hU hW => ⟨rfl, CG_at hP hK hN hU hW⟩⟩ rfl rfl hl.1 rfl (lv_room (Nat.le_of_ble_eq_true rfl)) d_Ma_perform_182 ⟨Nat.le_of_ble_eq_true rfl, Nat.le_of_ble_eq_true rfl⟩) hS (fun _ _ h => h) (fun _ h => h) (fun u6 t H locs ht hvm hu hB hz hk hS => ?_)
      subst hu
      obtain ⟨hP, -⟩ := hB
      rw [ht] at hP
      have hP : va_P D cls (wC ad dA w P g ss (m_Ma_end M ((m_In_operandOf z).toInt32))) H := hP
      refine lv_goto (tgt := 194) hx hb d_Ma_perform_185 (by decide) ?_
      exact W.vret hx hb hr (fun t ht hW => ⟨⟨_, rfl, (by rw [m_Ma_perform, if_pos h1, if_neg h2, if_neg h3, if_neg h4, if_neg h5, if_neg h6, if_neg h7, if_pos h8, if_pos h9]), CG_at hP hK hN ht hW⟩, hS.F ht⟩) hS.2.2 d_Ma_perform_194
    refine lv_tableOut (tgt := 188) hx hb d_Ma_perform_37 (by have z0 := lv_neT (a := 0) h2 (by decide); have z1 := lv_neT (a := 1) h3 (by decide); have z2 := lv_neT (a := 2) h4 (by decide); have z3 := lv_neT (a := 3) h5 (by decide); have z4 := lv_neT (a := 4) h6 (by decide); have z5 := lv_neT (a := 5) h7 (by decide); have z6 := lv_neT (a := 6) h8 (by decide); omega) (by decide) ?_
    refine lv_aload_n hx hb d_Ma_perform_188 rfl (lv_at hl 3 rfl) ?_
    refine lv_iload hx hb d_Ma_perform_189 (lv_at hl 2 rfl) ?_
    refine va_callv (va_runV (As := [.int (m_In_codeOf z)]) (rest := []) ⟨hx, hb, hml, hown, hts⟩ (c_Ma_copy l D dA ad A hAd w P g ss M (m_In_codeOf z)) (cwV 1 hts (g_V wd_474 wd_476 wd_12 wd_34 wd_477) rfl rfl rfl (by decide +kernel) ⟨Nat.le_of_ble_eq_true rfl, Nat.le_of_ble_eq_true rfl⟩) ⟨CG_fb, (va_recv (ci := 4) (q := (R_Ma, F_Ma, 8)) (q0 := 11) hK hP rfl rfl), fun U hU hW => ⟨rfl, CG_at hP hK hN hU hW⟩⟩ rfl rfl hl.1 rfl (lv_room (Nat.le_of_ble_eq_true rfl)) d_Ma_perform_191 ⟨Nat.le_of_ble_eq_true rfl, Nat.le_of_ble_eq_true rfl⟩) hS (fun _ _ h => h) (fun _ h => h) (fun u7 t H locs ht hvm hu hB hz hk hS => ?_)
    subst hu
    obtain ⟨hP, -⟩ := hB
    rw [ht] at hP
    have hP : va_P D cls (wC ad dA w P g ss (m_Ma_copy M (m_In_codeOf z))) H := hP
    exact W.vret hx hb hr (fun t ht hW => ⟨⟨_, rfl, (by rw [m_Ma_perform, if_pos h1, if_neg h2, if_neg h3, if_neg h4, if_neg h5, if_neg h6, if_neg h7, if_neg h8]), CG_at hP hK hN ht hW⟩, hS.F ht⟩) hS.2.2 d_Ma_perform_194
  refine lv_aload_n hx hb d_Ma_perform_21 rfl (lv_at hl 2 rfl) ?_
  refine va_get (D := D) (ci := 4) (v := .int M.2.2.2.2.1) (C := R_Ma) (T := F_Ma) (N := 8) hx hb hts in_Ma hown hK hP 11 rfl rfl 4 (by decide) (hts _ wd_187) (fun _ h9 => h9) rfl d_Ma_perform_22 ?_
  refine lv_goto (tgt := 30) hx hb d_Ma_perform_25 (by decide) ?_
  refine lv_istore hx hb d_Ma_perform_30 hl (by decide) rfl (fun ls hl => ?_)
  have hl : lv_has ls 7 [(6, .int M.2.2.2.2.1), (5, .int ((m_In_operandOf z).toInt32)), (4, .int (m_In_codeOf z)), (0, .ref (ad 11)), (1, .long z), (3, .ref (ad 1))] := hl
  refine lv_iload hx hb d_Ma_perform_32 (lv_at hl 2 rfl) ?_
  refine lv_bipush (v := 7) hx hb d_Ma_perform_34 (by decide) ?_
  refine lv_iand hx hb d_Ma_perform_36 ?_
  by_cases h10 : (m_In_codeOf z) &&& (7 : Int32) = (0 : Int32)
  · refine lv_tableIn (tgt := 80) (off := 43) hx hb d_Ma_perform_37 (by rw [h10]; decide) (by rw [h10]; decide) (by rw [h10] <;> rfl) (by decide) ?_
    refine lv_aload_n hx hb d_Ma_perform_80 rfl (lv_at hl 3 rfl) ?_
    refine lv_aload_n hx hb d_Ma_perform_81 rfl (lv_at hl 3 rfl) ?_
    refine lv_iload hx hb d_Ma_perform_82 (lv_at hl 2 rfl) ?_
    refine lv_iload hx hb d_Ma_perform_84 (lv_at hl 1 rfl) ?_
    refine lv_aload_n hx hb d_Ma_perform_86 rfl (lv_at hl 5 rfl) ?_
    refine vp_callSi (va_Run.run (va_runV (As := [.int (m_In_codeOf z), .int ((m_In_operandOf z).toInt32), .ref (ad 1)]) (rest := [.ref (ad 11)]) ⟨hx, hb, hml, hown, hts⟩ (c_Ma_load l D dA ad w P g ss M (m_In_codeOf z) ((m_In_operandOf z).toInt32) (okz_w hz (by first | exact Or.inl (by assumption) | exact Or.inr (by assumption))) (okz_c hz (by first | exact Or.inl (by assumption) | exact Or.inr (by assumption)))) (cwV 3 hts (g_V wd_443 wd_445 wd_5 wd_34 wd_446) rfl rfl rfl (by decide +kernel) ⟨Nat.le_of_ble_eq_true rfl, Nat.le_of_ble_eq_true rfl⟩) ⟨CG_fb, (va_recv (ci := 4) (q := (R_Ma, F_Ma, 8)) (q0 := 11) hK hP rfl rfl), fun U hU hW => ⟨rfl, CG_at hP hK hN hU hW⟩⟩ rfl rfl hl.1 rfl (lv_room (Nat.le_of_ble_eq_true rfl)) d_Ma_perform_87 ⟨Nat.le_of_ble_eq_true rfl, Nat.le_of_ble_eq_true rfl⟩)) (fun r5 e5 => ?_)
    subst e5
    refine va_put (D := D) (ci := 4) (v := .int (m_Ma_load w M (m_In_codeOf z) ((m_In_operandOf z).toInt32))) (ty := .int) (C := R_Ma) (T := F_Ma) (N := 8) hx hb hts in_Ma t_Ma k_Ma n_Ma hown hK hP (wC_D hAd) hS 11 rfl rfl 3 (by decide) (hts _ wd_186) (fun _ h9 => h9) rfl (by decide +kernel) rfl rfl (Nat.le_of_ble_eq_true rfl) d_Ma_perform_90 (fun H locs hP _ hS => ?_)
    have hP : va_P D cls (wC ad dA w P g ss (M.1, M.2.1, M.2.2.1, m_Ma_load w M (m_In_codeOf z) ((m_In_operandOf z).toInt32), M.2.2.2.2.1, M.2.2.2.2.2.1, M.2.2.2.2.2.2.1, M.2.2.2.2.2.2.2)) H := hP
    refine lv_goto (tgt := 194) hx hb d_Ma_perform_93 (by decide) ?_
    exact W.vret hx hb hr (fun t ht hW => ⟨⟨_, rfl, (by rw [m_Ma_perform, if_neg h1, if_pos h10]), CG_at hP hK hN ht hW⟩, hS.F ht⟩) hS.2.2 d_Ma_perform_194
  by_cases h11 : (m_In_codeOf z) &&& (7 : Int32) = (1 : Int32)
  · refine lv_tableIn (tgt := 96) (off := 59) hx hb d_Ma_perform_37 (by rw [h11]; decide) (by rw [h11]; decide) (by rw [h11] <;> rfl) (by decide) ?_
    refine lv_aload_n hx hb d_Ma_perform_96 rfl (lv_at hl 3 rfl) ?_
    refine lv_aload_n hx hb d_Ma_perform_97 rfl (lv_at hl 3 rfl) ?_
    refine lv_iload hx hb d_Ma_perform_98 (lv_at hl 2 rfl) ?_
    refine lv_iload hx hb d_Ma_perform_100 (lv_at hl 1 rfl) ?_
    refine lv_aload_n hx hb d_Ma_perform_102 rfl (lv_at hl 5 rfl) ?_
    refine vp_callSi (va_Run.run (va_runV (As := [.int (m_In_codeOf z), .int ((m_In_operandOf z).toInt32), .ref (ad 1)]) (rest := [.ref (ad 11)]) ⟨hx, hb, hml, hown, hts⟩ (c_Ma_load l D dA ad w P g ss M (m_In_codeOf z) ((m_In_operandOf z).toInt32) (okz_w hz (by first | exact Or.inl (by assumption) | exact Or.inr (by assumption))) (okz_c hz (by first | exact Or.inl (by assumption) | exact Or.inr (by assumption)))) (cwV 3 hts (g_V wd_443 wd_445 wd_5 wd_34 wd_446) rfl rfl rfl (by decide +kernel) ⟨Nat.le_of_ble_eq_true rfl, Nat.le_of_ble_eq_true rfl⟩) ⟨CG_fb, (va_recv (ci := 4) (q := (R_Ma, F_Ma, 8)) (q0 := 11) hK hP rfl rfl), fun U hU hW => ⟨rfl, CG_at hP hK hN hU hW⟩⟩ rfl rfl hl.1 rfl (lv_room (Nat.le_of_ble_eq_true rfl)) d_Ma_perform_103 ⟨Nat.le_of_ble_eq_true rfl, Nat.le_of_ble_eq_true rfl⟩)) (fun r6 e6 => ?_)
    subst e6
    refine va_put (D := D) (ci := 4) (v := .int (m_Ma_load w M (m_In_codeOf z) ((m_In_operandOf z).toInt32))) (ty := .int) (C := R_Ma) (T := F_Ma) (N := 8) hx hb hts in_Ma t_Ma k_Ma n_Ma hown hK hP (wC_D hAd) hS 11 rfl rfl 4 (by decide) (hts _ wd_187) (fun _ h9 => h9) rfl (by decide +kernel) rfl rfl (Nat.le_of_ble_eq_true rfl) d_Ma_perform_106 (fun H locs hP _ hS => ?_)
    have hP : va_P D cls (wC ad dA w P g ss (M.1, M.2.1, M.2.2.1, M.2.2.2.1, m_Ma_load w M (m_In_codeOf z) ((m_In_operandOf z).toInt32), M.2.2.2.2.2.1, M.2.2.2.2.2.2.1, M.2.2.2.2.2.2.2)) H := hP
    refine lv_goto (tgt := 194) hx hb d_Ma_perform_109 (by decide) ?_
    exact W.vret hx hb hr (fun t ht hW => ⟨⟨_, rfl, (by rw [m_Ma_perform, if_neg h1, if_neg h10, if_pos h11]), CG_at hP hK hN ht hW⟩, hS.F ht⟩) hS.2.2 d_Ma_perform_194
  by_cases h12 : (m_In_codeOf z) &&& (7 : Int32) = (2 : Int32)
  · refine lv_tableIn (tgt := 112) (off := 75) hx hb d_Ma_perform_37 (by rw [h12]; decide) (by rw [h12]; decide) (by rw [h12] <;> rfl) (by decide) ?_
    refine lv_aload_n hx hb d_Ma_perform_112 rfl (lv_at hl 3 rfl) ?_
    refine lv_iload hx hb d_Ma_perform_113 (lv_at hl 1 rfl) ?_
    refine lv_aload_n hx hb d_Ma_perform_115 rfl (lv_at hl 3 rfl) ?_
    refine va_get (D := D) (ci := 4) (v := .int M.2.2.2.1) (C := R_Ma) (T := F_Ma) (N := 8) hx hb hts in_Ma hown hK hP 11 rfl rfl 3 (by decide) (hts _ wd_186) (fun _ h9 => h9) rfl d_Ma_perform_116 ?_
    refine va_callv (va_runV (As := [.int ((m_In_operandOf z).toInt32), .int M.2.2.2.1]) (rest := []) ⟨hx, hb, hml, hown, hts⟩ (c_Ma_store l D dA ad A hAd w P g ss M ((m_In_operandOf z).toInt32) M.2.2.2.1 (okz_s hz (by first | exact Or.inl (by assumption) | exact Or.inr (by assumption)))) (cwV 2 hts (g_V wd_447 wd_449 wd_6 wd_34 wd_450) rfl rfl rfl (by decide +kernel) ⟨Nat.le_of_ble_eq_true rfl, Nat.le_of_ble_eq_true rfl⟩) ⟨CG_fb, (va_recv (ci := 4) (q := (R_Ma, F_Ma, 8)) (q0 := 11) hK hP rfl rfl), fun U hU hW => ⟨rfl, CG_at hP hK hN hU hW⟩⟩ rfl rfl hl.1 rfl (lv_room (Nat.le_of_ble_eq_true rfl)) d_Ma_perform_119 ⟨Nat.le_of_ble_eq_true rfl, Nat.le_of_ble_eq_true rfl⟩) hS (fun _ _ h => h) (fun _ h => h) (fun u8 t H locs ht hvm hu hB hz hk hS => ?_)
    subst hu
    obtain ⟨hP, -⟩ := hB
    rw [ht] at hP
    have hP : va_P D cls (wC ad dA w P g ss (m_Ma_store M ((m_In_operandOf z).toInt32) M.2.2.2.1)) H := hP
    refine lv_goto (tgt := 194) hx hb d_Ma_perform_122 (by decide) ?_
    exact W.vret hx hb hr (fun t ht hW => ⟨⟨_, rfl, (by rw [m_Ma_perform, if_neg h1, if_neg h10, if_neg h11, if_pos h12]), CG_at hP hK hN ht hW⟩, hS.F ht⟩) hS.2.2 d_Ma_perform_194
  by_cases h13 : (m_In_codeOf z) &&& (7 : Int32) = (3 : Int32)
  · refine lv_tableIn (tgt := 125) (off := 88) hx hb d_Ma_perform_37 (by rw [h13]; decide) (by rw [h13]; decide) (by rw [h13] <;> rfl) (by decide) ?_
    refine lv_aload_n hx hb d_Ma_perform_125 rfl (lv_at hl 3 rfl) ?_
    refine lv_iload hx hb d_Ma_perform_126 (lv_at hl 1 rfl) ?_
    refine lv_aload_n hx hb d_Ma_perform_128 rfl (lv_at hl 3 rfl) ?_
    refine va_get (D := D) (ci := 4) (v := .int M.2.2.2.2.1) (C := R_Ma) (T := F_Ma) (N := 8) hx hb hts in_Ma hown hK hP 11 rfl rfl 4 (by decide) (hts _ wd_187) (fun _ h9 => h9) rfl d_Ma_perform_129 ?_
    refine va_callv (va_runV (As := [.int ((m_In_operandOf z).toInt32), .int M.2.2.2.2.1]) (rest := []) ⟨hx, hb, hml, hown, hts⟩ (c_Ma_store l D dA ad A hAd w P g ss M ((m_In_operandOf z).toInt32) M.2.2.2.2.1 (okz_s hz (by first | exact Or.inl (by assumption) | exact Or.inr (by assumption)))) (cwV 2 hts (g_V wd_447 wd_449 wd_6 wd_34 wd_450) rfl rfl rfl (by decide +kernel) ⟨Nat.le_of_ble_eq_true rfl, Nat.le_of_ble_eq_true rfl⟩) ⟨CG_fb, (va_recv (ci := 4) (q := (R_Ma, F_Ma, 8)) (q0 := 11) hK hP rfl rfl), fun U hU hW => ⟨rfl, CG_at hP hK hN hU hW⟩⟩ rfl rfl hl.1 rfl (lv_room (Nat.le_of_ble_eq_true rfl)) d_Ma_perform_132 ⟨Nat.le_of_ble_eq_true rfl, Nat.le_of_ble_eq_true rfl⟩) hS (fun _ _ h => h) (fun _ h => h) (fun u9 t H locs ht hvm hu hB hz hk hS => ?_)
    subst hu
    obtain ⟨hP, -⟩ := hB
    rw [ht] at hP
    have hP : va_P D cls (wC ad dA w P g ss (m_Ma_store M ((m_In_operandOf z).toInt32) M.2.2.2.2.1)) H := hP
    refine lv_goto (tgt := 194) hx hb d_Ma_perform_135 (by decide) ?_
    exact W.vret hx hb hr (fun t ht hW => ⟨⟨_, rfl, (by rw [m_Ma_perform, if_neg h1, if_neg h10, if_neg h11, if_neg h12, if_pos h13]), CG_at hP hK hN ht hW⟩, hS.F ht⟩) hS.2.2 d_Ma_perform_194
  by_cases h14 : (m_In_codeOf z) &&& (7 : Int32) = (4 : Int32)
  · refine lv_tableIn (tgt := 138) (off := 101) hx hb d_Ma_perform_37 (by rw [h14]; decide) (by rw [h14]; decide) (by rw [h14] <;> rfl) (by decide) ?_
    refine lv_aload_n hx hb d_Ma_perform_138 rfl (lv_at hl 3 rfl) ?_
    refine lv_iload hx hb d_Ma_perform_139 (lv_at hl 2 rfl) ?_
    refine lv_sipush (v := 240) hx hb d_Ma_perform_141 (by decide) ?_
    refine lv_iand hx hb d_Ma_perform_144 ?_
    refine lv_iload hx hb d_Ma_perform_145 (lv_at hl 0 rfl) ?_
    refine va_callv (va_runV (As := [.int ((m_In_codeOf z) &&& (240 : Int32)), .int M.2.2.2.2.1]) (rest := []) ⟨hx, hb, hml, hown, hts⟩ (c_Ma_compute l D dA ad A hAd w P g ss M ((m_In_codeOf z) &&& (240 : Int32)) M.2.2.2.2.1) (cwV 2 hts (g_V wd_451 wd_453 wd_7 wd_34 wd_454) rfl rfl rfl (by decide +kernel) ⟨Nat.le_of_ble_eq_true rfl, Nat.le_of_ble_eq_true rfl⟩) ⟨CG_fb, (va_recv (ci := 4) (q := (R_Ma, F_Ma, 8)) (q0 := 11) hK hP rfl rfl), fun U hU hW => ⟨rfl, CG_at hP hK hN hU hW⟩⟩ rfl rfl hl.1 rfl (lv_room (Nat.le_of_ble_eq_true rfl)) d_Ma_perform_147 ⟨Nat.le_of_ble_eq_true rfl, Nat.le_of_ble_eq_true rfl⟩) hS (fun _ _ h => h) (fun _ h => h) (fun u10 t H locs ht hvm hu hB hz hk hS => ?_)
    subst hu
    obtain ⟨hP, -⟩ := hB
    rw [ht] at hP
    have hP : va_P D cls (wC ad dA w P g ss (m_Ma_compute M ((m_In_codeOf z) &&& (240 : Int32)) M.2.2.2.2.1)) H := hP
    refine lv_goto (tgt := 194) hx hb d_Ma_perform_150 (by decide) ?_
    exact W.vret hx hb hr (fun t ht hW => ⟨⟨_, rfl, (by rw [m_Ma_perform, if_neg h1, if_neg h10, if_neg h11, if_neg h12, if_neg h13, if_pos h14]), CG_at hP hK hN ht hW⟩, hS.F ht⟩) hS.2.2 d_Ma_perform_194
  by_cases h15 : (m_In_codeOf z) &&& (7 : Int32) = (5 : Int32)
  · refine lv_tableIn (tgt := 153) (off := 116) hx hb d_Ma_perform_37 (by rw [h15]; decide) (by rw [h15]; decide) (by rw [h15] <;> rfl) (by decide) ?_
    refine lv_aload_n hx hb d_Ma_perform_153 rfl (lv_at hl 3 rfl) ?_
    refine lv_lload_n hx hb d_Ma_perform_154 rfl (lv_at hl 4 rfl) ?_
    refine lv_iload hx hb d_Ma_perform_155 (lv_at hl 2 rfl) ?_
    refine lv_iload hx hb d_Ma_perform_157 (lv_at hl 0 rfl) ?_
    refine va_callv (va_runV (As := [.long z, .int (m_In_codeOf z), .int M.2.2.2.2.1]) (rest := []) ⟨hx, hb, hml, hown, hts⟩ (c_Ma_jump l D dA ad A hAd w P g ss M z (m_In_codeOf z) M.2.2.2.2.1) (cwV 3 hts (g_V wd_464 wd_466 wd_10 wd_34 wd_467) rfl rfl rfl (by decide +kernel) ⟨Nat.le_of_ble_eq_true rfl, Nat.le_of_ble_eq_true rfl⟩) ⟨CG_fb, (va_recv (ci := 4) (q := (R_Ma, F_Ma, 8)) (q0 := 11) hK hP rfl rfl), fun U hU hW => ⟨rfl, CG_at hP hK hN hU hW⟩⟩ rfl rfl hl.1 rfl (lv_room (Nat.le_of_ble_eq_true rfl)) d_Ma_perform_159 ⟨Nat.le_of_ble_eq_true rfl, Nat.le_of_ble_eq_true rfl⟩) hS (fun _ _ h => h) (fun _ h => h) (fun u11 t H locs ht hvm hu hB hz hk hS => ?_)
    subst hu
    obtain ⟨hP, -⟩ := hB
    rw [ht] at hP
    have hP : va_P D cls (wC ad dA w P g ss (m_Ma_jump M z (m_In_codeOf z) M.2.2.2.2.1)) H := hP
    refine lv_goto (tgt := 194) hx hb d_Ma_perform_162 (by decide) ?_
    exact W.vret hx hb hr (fun t ht hW => ⟨⟨_, rfl, (by rw [m_Ma_perform, if_neg h1, if_neg h10, if_neg h11, if_neg h12, if_neg h13, if_neg h14, if_pos h15]), CG_at hP hK hN ht hW⟩, hS.F ht⟩) hS.2.2 d_Ma_perform_194
  by_cases h16 : (m_In_codeOf z) &&& (7 : Int32) = (6 : Int32)
  · refine lv_tableIn (tgt := 165) (off := 128) hx hb d_Ma_perform_37 (by rw [h16]; decide) (by rw [h16]; decide) (by rw [h16] <;> rfl) (by decide) ?_
    refine lv_aload_n hx hb d_Ma_perform_165 rfl (lv_at hl 3 rfl) ?_
    refine lv_iload hx hb d_Ma_perform_166 (lv_at hl 2 rfl) ?_
    refine lv_bipush (v := 6) hx hb d_Ma_perform_168 (by decide) ?_
    refine lv_icmp_ne (tgt := 178) hx hb d_Ma_perform_170 (by decide) (fun h17 => ?_) (fun h17 => ?_)
    · refine lv_aload_n hx hb d_Ma_perform_178 rfl (lv_at hl 3 rfl) ?_
      refine va_get (D := D) (ci := 4) (v := .int M.2.2.2.1) (C := R_Ma) (T := F_Ma) (N := 8) hx hb hts in_Ma hown hK hP 11 rfl rfl 3 (by decide) (hts _ wd_186) (fun _ h9 => h9) rfl d_Ma_perform_179 ?_
      refine va_callv (va_runV (As := [.int M.2.2.2.1]) (rest := []) ⟨hx, hb, hml, hown, hts⟩ (c_Ma_end l D dA ad A hAd w P g ss M M.2.2.2.1) (cwV 1 hts (g_V wd_459 wd_461 wd_9 wd_34 wd_462) rfl rfl rfl (by decide +kernel) ⟨Nat.le_of_ble_eq_true rfl, Nat.le_of_ble_eq_true rfl⟩) ⟨CG_fb, (va_recv (ci := 4) (q := (R_Ma, F_Ma, 8)) (q0 := 11) hK hP rfl rfl), fun U hU hW => ⟨rfl, CG_at hP hK hN hU hW⟩⟩ rfl rfl hl.1 rfl (lv_room (Nat.le_of_ble_eq_true rfl)) d_Ma_perform_182 ⟨Nat.le_of_ble_eq_true rfl, Nat.le_of_ble_eq_true rfl⟩) hS (fun _ _ h => h) (fun _ h => h) (fun u12 t H locs ht hvm hu hB hz hk hS => ?_)
      subst hu
      obtain ⟨hP, -⟩ := hB
      rw [ht] at hP
      have hP : va_P D cls (wC ad dA w P g ss (m_Ma_end M M.2.2.2.1)) H := hP
      refine lv_goto (tgt := 194) hx hb d_Ma_perform_185 (by decide) ?_
      exact W.vret hx hb hr (fun t ht hW => ⟨⟨_, rfl, (by rw [m_Ma_perform, if_neg h1, if_neg h10, if_neg h11, if_neg h12, if_neg h13, if_neg h14, if_neg h15, if_pos h16, if_neg h17]), CG_at hP hK hN ht hW⟩, hS.F ht⟩) hS.2.2 d_Ma_perform_194
    refine lv_iload hx hb d_Ma_perform_173 (lv_at hl 1 rfl) ?_
    refine lv_goto (tgt := 182) hx hb d_Ma_perform_175 (by decide) ?_
    refine va_callv (va_runV (As := [.int ((m_In_operandOf z).toInt32)]) (rest := []) ⟨hx, hb, hml, hown, hts⟩ (c_Ma_end l D dA ad A hAd w P g ss M ((m_In_operandOf z).toInt32)) (cwV 1 hts (g_V wd_459 wd_461 wd_9 wd_34 wd_462) rfl rfl rfl (by decide +kernel) ⟨Nat.le_of_ble_eq_true rfl, Nat.le_of_ble_eq_true rfl⟩) ⟨CG_fb, (va_recv (ci := 4) (q := (R_Ma, F_Ma, 8)) (q0 := 11) hK hP rfl rfl), fun U hU hW => ⟨rfl, CG_at hP hK hN hU hW⟩⟩ rfl rfl hl.1 rfl (lv_room (Nat.le_of_ble_eq_true rfl)) d_Ma_perform_182 ⟨Nat.le_of_ble_eq_true rfl, Nat.le_of_ble_eq_true rfl⟩) hS (fun _ _ h => h) (fun _ h => h) (fun u13 t H locs ht hvm hu hB hz hk hS => ?_)
    subst hu
    obtain ⟨hP, -⟩ := hB
    rw [ht] at hP
    have hP : va_P D cls (wC ad dA w P g ss (m_Ma_end M ((m_In_operandOf z).toInt32))) H := hP
    refine lv_goto (tgt := 194) hx hb d_Ma_perform_185 (by decide) ?_
    exact W.vret hx hb hr (fun t ht hW => ⟨⟨_, rfl, (by rw [m_Ma_perform, if_neg h1, if_neg h10, if_neg h11, if_neg h12, if_neg h13, if_neg h14, if_neg h15, if_pos h16, if_pos h17]), CG_at hP hK hN ht hW⟩, hS.F ht⟩) hS.2.2 d_Ma_perform_194
  refine lv_tableOut (tgt := 188) hx hb d_Ma_perform_37 (by have z0 := lv_neT (a := 0) h10 (by decide); have z1 := lv_neT (a := 1) h11 (by decide); have z2 := lv_neT (a := 2) h12 (by decide); have z3 := lv_neT (a := 3) h13 (by decide); have z4 := lv_neT (a := 4) h14 (by decide); have z5 := lv_neT (a := 5) h15 (by decide); have z6 := lv_neT (a := 6) h16 (by decide); omega) (by decide) ?_
  refine lv_aload_n hx hb d_Ma_perform_188 rfl (lv_at hl 3 rfl) ?_
  refine lv_iload hx hb d_Ma_perform_189 (lv_at hl 2 rfl) ?_
  refine va_callv (va_runV (As := [.int (m_In_codeOf z)]) (rest := []) ⟨hx, hb, hml, hown, hts⟩ (c_Ma_copy l D dA ad A hAd w P g ss M (m_In_codeOf z)) (cwV 1 hts (g_V wd_474 wd_476 wd_12 wd_34 wd_477) rfl rfl rfl (by decide +kernel) ⟨Nat.le_of_ble_eq_true rfl, Nat.le_of_ble_eq_true rfl⟩) ⟨CG_fb, (va_recv (ci := 4) (q := (R_Ma, F_Ma, 8)) (q0 := 11) hK hP rfl rfl), fun U hU hW => ⟨rfl, CG_at hP hK hN hU hW⟩⟩ rfl rfl hl.1 rfl (lv_room (Nat.le_of_ble_eq_true rfl)) d_Ma_perform_191 ⟨Nat.le_of_ble_eq_true rfl, Nat.le_of_ble_eq_true rfl⟩) hS (fun _ _ h => h) (fun _ h => h) (fun u14 t H locs ht hvm hu hB hz hk hS => ?_)
  subst hu
  obtain ⟨hP, -⟩ := hB
  rw [ht] at hP
  have hP : va_P D cls (wC ad dA w P g ss (m_Ma_copy M (m_In_codeOf z))) H := hP
  exact W.vret hx hb hr (fun t ht hW => ⟨⟨_, rfl, (by rw [m_Ma_perform, if_neg h1, if_neg h10, if_neg h11, if_neg h12, if_neg h13, if_neg h14, if_neg h15, if_neg h16]), CG_at hP hK hN ht hW⟩, hS.F ht⟩) hS.2.2 d_Ma_perform_194
def m_F_scratch (M : MT) (i : Int32) : Int64 := if i < (0 : Int32) then (-1 : Int64) else if (16 : Int32) ≤ i then (-1 : Int64) else if (m_Ma_hasStored M i) = (0 : Int32) then (-1 : Int64) else m_F_unsigned (M.1 i.toNatClampNeg)
set_option maxHeartbeats 4000000 in
set_option maxRecDepth 100000 in
theorem c_F_scratch (l : Launch) (D : va_G) (dA : Nat → ClassId) (ad : Nat → Nat) (w : Nat → Int32) (P : PT) (g : GT) (ss : Nat → Int32) (M : MT) (i : Int32) : Met l y_F_scratch (mW y_F_scratch b_F_scratch 2 (some .long)) { frames := 1, cells := 0, slots := 0, locals := 21 } (va_Pc [.ref (ad 0), .int i] (fun U => CG D dA ad w P g ss M U)) (vp_Sl (fun r => r = m_F_scratch M i)) 0 0 (fun _ => False) := by
  refine Met.ofW (cc := b_F_scratch) (maxL := 2) (ret := (some .long)) (by decide) rfl ?_
  intro p e s m args below meth c s₁ B hml hv
  obtain ⟨rfl, hP, hK, hN⟩ := hv
  have hx := B.exec
  have hb := B.bytes
  have hr := B.returns
  have hlocks := B.notSynchronized
  have hts := fun (w : Cond) (h : w ∈ lw_g) => atoms_spec (ws := mW y_F_scratch b_F_scratch 2 (some .long)) B.pre w (List.mem_cons_of_mem _ h)
  have hown : s.vm.findClass R_F = some m.cls := findClass_of_methodNamed B.named
  have hl := lv_entry ([.ref (ad 0), .int i]) (n := 2) (Nat.le_of_ble_eq_true rfl)
  rw [lg_entry_eq]
  generalize (lg_sl ([.ref (ad 0), .int i]) ++ List.replicate (2 - (lg_sl ([.ref (ad 0), .int i])).length) Slot.unset).toArray = ls at hl ⊢
  have hl : lv_has ls 2 [(0, .ref (ad 0)), (1, .int i)] := hl
  refine lv_iload_n hx hb d_F_scratch_0 rfl (lv_at hl 1 rfl) ?_
  refine lv_if_lt (tgt := 21) hx hb d_F_scratch_1 (by decide) (fun h1 => ?_) (fun h1 => ?_)
  · refine lv_ldc2 (v := -1) hx hb hown (hts _ wd_427) d_F_scratch_21 ?_
    exact W.lret hx hb hr (fun t ht hW => ⟨_, rfl, (by rw [m_F_scratch, if_pos h1]), ht⟩) (fun _ h => by cases h) d_F_scratch_24
  refine lv_iload_n hx hb d_F_scratch_4 rfl (lv_at hl 1 rfl) ?_
  refine lv_bipush (v := 16) hx hb d_F_scratch_5 (by decide) ?_
  refine lv_icmp_ge (tgt := 21) hx hb d_F_scratch_7 (by decide) (fun h2 => ?_) (fun h2 => ?_)
  · refine lv_ldc2 (v := -1) hx hb hown (hts _ wd_427) d_F_scratch_21 ?_
    exact W.lret hx hb hr (fun t ht hW => ⟨_, rfl, (by rw [m_F_scratch, if_neg h1, if_pos h2]), ht⟩) (fun _ h => by cases h) d_F_scratch_24
  refine lv_aload_n hx hb d_F_scratch_10 rfl (lv_at hl 0 rfl) ?_
  refine va_get (D := D) (ci := 8) (v := .ref (ad 11)) (C := R_F) (T := F_F) (N := 5) hx hb hts in_F hown hK hP 0 rfl rfl 4 (by decide) (hts _ wd_212) (fun _ h9 => h9) rfl d_F_scratch_11 ?_
  refine lv_iload_n hx hb d_F_scratch_14 rfl (lv_at hl 1 rfl) ?_
  refine vp_callSi (va_Run.run (va_runV (As := [.int i]) (rest := []) ⟨hx, hb, hml, hown, hts⟩ (c_Ma_hasStored l D dA ad w P g ss M i) (cwV 1 hts (g_V wd_486 wd_487 wd_488 wd_34 wd_489) rfl rfl rfl (by decide +kernel) ⟨Nat.le_of_ble_eq_true rfl, Nat.le_of_ble_eq_true rfl⟩) ⟨CG_fb, (va_recv (ci := 4) (q := (R_Ma, F_Ma, 8)) (q0 := 11) hK hP rfl rfl), fun U hU hW => ⟨rfl, CG_at hP hK hN hU hW⟩⟩ rfl rfl hl.1 rfl (lv_room (Nat.le_of_ble_eq_true rfl)) d_F_scratch_15 ⟨Nat.le_of_ble_eq_true rfl, Nat.le_of_ble_eq_true rfl⟩)) (fun r1 e1 => ?_)
  subst e1
  refine lv_if_ne (tgt := 25) hx hb d_F_scratch_18 (by decide) (fun h3 => ?_) (fun h3 => ?_)
  · refine lv_aload_n hx hb d_F_scratch_25 rfl (lv_at hl 0 rfl) ?_
    refine va_get (D := D) (ci := 8) (v := .ref (ad 11)) (C := R_F) (T := F_F) (N := 5) hx hb hts in_F hown hK hP 0 rfl rfl 4 (by decide) (hts _ wd_212) (fun _ h9 => h9) rfl d_F_scratch_26 ?_
    refine va_get (D := D) (ci := 4) (v := .ref (ad 12)) (C := R_Ma) (T := F_Ma) (N := 8) hx hb hts in_Ma hown hK hP 11 rfl rfl 0 (by decide) (hts _ wd_182) (fun _ h9 => h9) rfl d_F_scratch_29 ?_
    refine lv_iload_n hx hb d_F_scratch_32 rfl (lv_at hl 1 rfl) ?_
    refine va_iald (n := 16) (f := M.1) hx hb hK hP 12 0 rfl rfl (ix_of (by assumption) (by assumption)) d_F_scratch_33 ?_
    refine vp_callSl (va_Run.run (va_runS (As := [.int (M.1 i.toNatClampNeg)]) (rest := []) ⟨hx, hb, hml, hown, hts⟩ (c_F_unsigned l (M.1 i.toNatClampNeg)) (va_cwS 1 hts (g_S wd_490 wd_301 wd_26 wd_302) rfl rfl rfl (by decide +kernel) ⟨Nat.le_of_ble_eq_true rfl, Nat.le_of_ble_eq_true rfl⟩) ⟨fun _ _ _ _ q => q, fun _ _ _ => ⟨rfl, trivial⟩⟩ rfl rfl hl.1 rfl (lv_room (Nat.le_of_ble_eq_true rfl)) d_F_scratch_34 ⟨Nat.le_of_ble_eq_true rfl, Nat.le_of_ble_eq_true rfl⟩)) (fun r2 e2 => ?_)
    subst e2
    exact W.lret hx hb hr (fun t ht hW => ⟨_, rfl, (by rw [m_F_scratch, if_neg h1, if_neg h2, if_neg h3]), ht⟩) (fun _ h => by cases h) d_F_scratch_37
  refine lv_ldc2 (v := -1) hx hb hown (hts _ wd_427) d_F_scratch_21 ?_
  exact W.lret hx hb hr (fun t ht hW => ⟨_, rfl, (by rw [m_F_scratch, if_neg h1, if_neg h2, if_pos h3]), ht⟩) (fun _ h => by cases h) d_F_scratch_24
end
section
theorem wd_33 : Cond.initialized R_Ch ∈ lw_g := wd_in (i := 33) (by decide +kernel) (by decide +kernel)
theorem wd_153 : Cond.fieldLink R_Ch 25 R_Pr "instructions" "[J" ∈ lw_g := wd_in (i := 153) (by decide +kernel) (by decide +kernel)
theorem wd_156 : Cond.fieldLink R_Ch 17 R_Pr "count" "I" ∈ lw_g := wd_in (i := 156) (by decide +kernel) (by decide +kernel)
theorem wd_171 : Cond.fieldLink R_Ch 11 R_Ch "surelyStored" "[I" ∈ lw_g := wd_in (i := 171) (by decide +kernel) (by decide +kernel)
theorem wd_363 : Cond.methodLink R_Ch 29 y_In_codeOf ∈ lw_g := wd_in (i := 363) (by decide +kernel) (by decide +kernel)
theorem wd_367 : Cond.methodLink R_Ch 43 y_In_isKnown ∈ lw_g := wd_in (i := 367) (by decide +kernel) (by decide +kernel)
theorem wd_368 : Cond.static y_In_isKnown ∈ lw_g := wd_in (i := 368) (by decide +kernel) (by decide +kernel)
theorem wd_369 : Cond.code y_In_isKnown prog_6_method_6_code 1 (Option.some Jvm.ClassFile.FieldType.boolean) ∈ lw_g := wd_in (i := 369) (by decide +kernel) (by decide +kernel)
theorem wd_382 : Cond.methodLink R_Ch 50 y_Ch_isOperandFit ∈ lw_g := wd_in (i := 382) (by decide +kernel) (by decide +kernel)
theorem wd_383 : Cond.static y_Ch_isOperandFit ∈ lw_g := wd_in (i := 383) (by decide +kernel) (by decide +kernel)
theorem wd_384 : Cond.code y_Ch_isOperandFit prog_4_method_4_code 3 (Option.some Jvm.ClassFile.FieldType.boolean) ∈ lw_g := wd_in (i := 384) (by decide +kernel) (by decide +kernel)
theorem wd_395 : Cond.methodLink R_Ch 54 y_Ch_longestSkip ∈ lw_g := wd_in (i := 395) (by decide +kernel) (by decide +kernel)
theorem wd_396 : Cond.static y_Ch_longestSkip ∈ lw_g := wd_in (i := 396) (by decide +kernel) (by decide +kernel)
theorem wd_397 : Cond.code y_Ch_longestSkip prog_4_method_5_code 5 (Option.some Jvm.ClassFile.FieldType.long) ∈ lw_g := wd_in (i := 397) (by decide +kernel) (by decide +kernel)
theorem wd_409 : Cond.methodLink R_Ch 35 y_In_endsRun ∈ lw_g := wd_in (i := 409) (by decide +kernel) (by decide +kernel)
theorem d_Ch_ownFault_0 : decode b_Ch_ownFault 0 = .ok (.aload_n 0, 1) := by decide +kernel
theorem d_Ch_ownFault_1 : decode b_Ch_ownFault 1 = .ok (.getfield 25, 3) := by decide +kernel
theorem d_Ch_ownFault_4 : decode b_Ch_ownFault 4 = .ok (.iload_n 1, 1) := by decide +kernel
theorem d_Ch_ownFault_5 : decode b_Ch_ownFault 5 = .ok (.laload, 1) := by decide +kernel
theorem d_Ch_ownFault_6 : decode b_Ch_ownFault 6 = .ok (.lstore_n 2, 1) := by decide +kernel
theorem d_Ch_ownFault_7 : decode b_Ch_ownFault 7 = .ok (.lload_n 2, 1) := by decide +kernel
theorem d_Ch_ownFault_8 : decode b_Ch_ownFault 8 = .ok (.invokestatic 29, 3) := by decide +kernel
theorem d_Ch_ownFault_11 : decode b_Ch_ownFault 11 = .ok (.istore 4, 2) := by decide +kernel
theorem d_Ch_ownFault_13 : decode b_Ch_ownFault 13 = .ok (.iload 4, 2) := by decide +kernel
theorem d_Ch_ownFault_15 : decode b_Ch_ownFault 15 = .ok (.invokestatic 43, 3) := by decide +kernel
theorem d_Ch_ownFault_18 : decode b_Ch_ownFault 18 = .ok (.ifCond .ne 5, 3) := by decide +kernel
theorem d_Ch_ownFault_21 : decode b_Ch_ownFault 21 = .ok (.iconst 2, 1) := by decide +kernel
theorem d_Ch_ownFault_22 : decode b_Ch_ownFault 22 = .ok (.ireturn, 1) := by decide +kernel
theorem d_Ch_ownFault_23 : decode b_Ch_ownFault 23 = .ok (.iload 4, 2) := by decide +kernel
theorem d_Ch_ownFault_25 : decode b_Ch_ownFault 25 = .ok (.lload_n 2, 1) := by decide +kernel
theorem d_Ch_ownFault_26 : decode b_Ch_ownFault 26 = .ok (.invokestatic 46, 3) := by decide +kernel
theorem d_Ch_ownFault_29 : decode b_Ch_ownFault 29 = .ok (.invokestatic 50, 3) := by decide +kernel
theorem d_Ch_ownFault_32 : decode b_Ch_ownFault 32 = .ok (.ifCond .ne 5, 3) := by decide +kernel
theorem d_Ch_ownFault_35 : decode b_Ch_ownFault 35 = .ok (.iconst 3, 1) := by decide +kernel
theorem d_Ch_ownFault_36 : decode b_Ch_ownFault 36 = .ok (.ireturn, 1) := by decide +kernel
theorem d_Ch_ownFault_37 : decode b_Ch_ownFault 37 = .ok (.iload 4, 2) := by decide +kernel
theorem d_Ch_ownFault_39 : decode b_Ch_ownFault 39 = .ok (.lload_n 2, 1) := by decide +kernel
theorem d_Ch_ownFault_40 : decode b_Ch_ownFault 40 = .ok (.invokestatic 54, 3) := by decide +kernel
theorem d_Ch_ownFault_43 : decode b_Ch_ownFault 43 = .ok (.aload_n 0, 1) := by decide +kernel
theorem d_Ch_ownFault_44 : decode b_Ch_ownFault 44 = .ok (.getfield 17, 3) := by decide +kernel
theorem d_Ch_ownFault_47 : decode b_Ch_ownFault 47 = .ok (.iconst 1, 1) := by decide +kernel
theorem d_Ch_ownFault_48 : decode b_Ch_ownFault 48 = .ok (.isub, 1) := by decide +kernel
theorem d_Ch_ownFault_49 : decode b_Ch_ownFault 49 = .ok (.iload_n 1, 1) := by decide +kernel
theorem d_Ch_ownFault_50 : decode b_Ch_ownFault 50 = .ok (.isub, 1) := by decide +kernel
theorem d_Ch_ownFault_51 : decode b_Ch_ownFault 51 = .ok (.i2l, 1) := by decide +kernel
theorem d_Ch_ownFault_52 : decode b_Ch_ownFault 52 = .ok (.lcmp, 1) := by decide +kernel
theorem d_Ch_ownFault_53 : decode b_Ch_ownFault 53 = .ok (.ifCond .le 7, 3) := by decide +kernel
theorem d_Ch_ownFault_56 : decode b_Ch_ownFault 56 = .ok (.iconst 4, 1) := by decide +kernel
theorem d_Ch_ownFault_57 : decode b_Ch_ownFault 57 = .ok (.goto 4, 3) := by decide +kernel
theorem d_Ch_ownFault_60 : decode b_Ch_ownFault 60 = .ok (.iconst 0, 1) := by decide +kernel
theorem d_Ch_ownFault_61 : decode b_Ch_ownFault 61 = .ok (.ireturn, 1) := by decide +kernel
theorem d_Ch_passOn_0 : decode b_Ch_passOn 0 = .ok (.lload_n 1, 1) := by decide +kernel
theorem d_Ch_passOn_1 : decode b_Ch_passOn 1 = .ok (.invokestatic 29, 3) := by decide +kernel
theorem d_Ch_passOn_4 : decode b_Ch_passOn 4 = .ok (.istore 5, 2) := by decide +kernel
theorem d_Ch_passOn_6 : decode b_Ch_passOn 6 = .ok (.iload 5, 2) := by decide +kernel
theorem d_Ch_passOn_8 : decode b_Ch_passOn 8 = .ok (.iconst 5, 1) := by decide +kernel
theorem d_Ch_passOn_9 : decode b_Ch_passOn 9 = .ok (.if_icmp .ne 23, 3) := by decide +kernel
theorem d_Ch_passOn_12 : decode b_Ch_passOn 12 = .ok (.aload_n 0, 1) := by decide +kernel
theorem d_Ch_passOn_13 : decode b_Ch_passOn 13 = .ok (.getfield 11, 3) := by decide +kernel
theorem d_Ch_passOn_16 : decode b_Ch_passOn 16 = .ok (.iload_n 3, 1) := by decide +kernel
theorem d_Ch_passOn_17 : decode b_Ch_passOn 17 = .ok (.lload_n 1, 1) := by decide +kernel
theorem d_Ch_passOn_18 : decode b_Ch_passOn 18 = .ok (.invokestatic 46, 3) := by decide +kernel
theorem d_Ch_passOn_21 : decode b_Ch_passOn 21 = .ok (.l2i, 1) := by decide +kernel
theorem d_Ch_passOn_22 : decode b_Ch_passOn 22 = .ok (.iadd, 1) := by decide +kernel
theorem d_Ch_passOn_23 : decode b_Ch_passOn 23 = .ok (.dup2, 1) := by decide +kernel
theorem d_Ch_passOn_24 : decode b_Ch_passOn 24 = .ok (.iaload, 1) := by decide +kernel
theorem d_Ch_passOn_25 : decode b_Ch_passOn 25 = .ok (.iload 4, 2) := by decide +kernel
theorem d_Ch_passOn_27 : decode b_Ch_passOn 27 = .ok (.iand, 1) := by decide +kernel
theorem d_Ch_passOn_28 : decode b_Ch_passOn 28 = .ok (.iastore, 1) := by decide +kernel
theorem d_Ch_passOn_29 : decode b_Ch_passOn 29 = .ok (.goto 65, 3) := by decide +kernel
theorem d_Ch_passOn_32 : decode b_Ch_passOn 32 = .ok (.iload 5, 2) := by decide +kernel
theorem d_Ch_passOn_34 : decode b_Ch_passOn 34 = .ok (.invokestatic 76, 3) := by decide +kernel
theorem d_Ch_passOn_37 : decode b_Ch_passOn 37 = .ok (.ifCond .eq 38, 3) := by decide +kernel
theorem d_Ch_passOn_40 : decode b_Ch_passOn 40 = .ok (.aload_n 0, 1) := by decide +kernel
theorem d_Ch_passOn_41 : decode b_Ch_passOn 41 = .ok (.getfield 11, 3) := by decide +kernel
theorem d_Ch_passOn_44 : decode b_Ch_passOn 44 = .ok (.iload_n 3, 1) := by decide +kernel
theorem d_Ch_passOn_45 : decode b_Ch_passOn 45 = .ok (.lload_n 1, 1) := by decide +kernel
theorem d_Ch_passOn_46 : decode b_Ch_passOn 46 = .ok (.invokestatic 79, 3) := by decide +kernel
theorem d_Ch_passOn_49 : decode b_Ch_passOn 49 = .ok (.iadd, 1) := by decide +kernel
theorem d_Ch_passOn_50 : decode b_Ch_passOn 50 = .ok (.dup2, 1) := by decide +kernel
theorem d_Ch_passOn_51 : decode b_Ch_passOn 51 = .ok (.iaload, 1) := by decide +kernel
theorem d_Ch_passOn_52 : decode b_Ch_passOn 52 = .ok (.iload 4, 2) := by decide +kernel
theorem d_Ch_passOn_54 : decode b_Ch_passOn 54 = .ok (.iand, 1) := by decide +kernel
theorem d_Ch_passOn_55 : decode b_Ch_passOn 55 = .ok (.iastore, 1) := by decide +kernel
theorem d_Ch_passOn_56 : decode b_Ch_passOn 56 = .ok (.aload_n 0, 1) := by decide +kernel
theorem d_Ch_passOn_57 : decode b_Ch_passOn 57 = .ok (.getfield 11, 3) := by decide +kernel
theorem d_Ch_passOn_60 : decode b_Ch_passOn 60 = .ok (.iload_n 3, 1) := by decide +kernel
theorem d_Ch_passOn_61 : decode b_Ch_passOn 61 = .ok (.lload_n 1, 1) := by decide +kernel
theorem d_Ch_passOn_62 : decode b_Ch_passOn 62 = .ok (.invokestatic 82, 3) := by decide +kernel
theorem d_Ch_passOn_65 : decode b_Ch_passOn 65 = .ok (.iadd, 1) := by decide +kernel
theorem d_Ch_passOn_66 : decode b_Ch_passOn 66 = .ok (.dup2, 1) := by decide +kernel
theorem d_Ch_passOn_67 : decode b_Ch_passOn 67 = .ok (.iaload, 1) := by decide +kernel
theorem d_Ch_passOn_68 : decode b_Ch_passOn 68 = .ok (.iload 4, 2) := by decide +kernel
theorem d_Ch_passOn_70 : decode b_Ch_passOn 70 = .ok (.iand, 1) := by decide +kernel
theorem d_Ch_passOn_71 : decode b_Ch_passOn 71 = .ok (.iastore, 1) := by decide +kernel
theorem d_Ch_passOn_72 : decode b_Ch_passOn 72 = .ok (.goto 22, 3) := by decide +kernel
theorem d_Ch_passOn_75 : decode b_Ch_passOn 75 = .ok (.iload 5, 2) := by decide +kernel
theorem d_Ch_passOn_77 : decode b_Ch_passOn 77 = .ok (.invokestatic 35, 3) := by decide +kernel
theorem d_Ch_passOn_80 : decode b_Ch_passOn 80 = .ok (.ifCond .ne 14, 3) := by decide +kernel
theorem d_Ch_passOn_83 : decode b_Ch_passOn 83 = .ok (.aload_n 0, 1) := by decide +kernel
theorem d_Ch_passOn_84 : decode b_Ch_passOn 84 = .ok (.getfield 11, 3) := by decide +kernel
theorem d_Ch_passOn_87 : decode b_Ch_passOn 87 = .ok (.iload_n 3, 1) := by decide +kernel
theorem d_Ch_passOn_88 : decode b_Ch_passOn 88 = .ok (.dup2, 1) := by decide +kernel
theorem d_Ch_passOn_89 : decode b_Ch_passOn 89 = .ok (.iaload, 1) := by decide +kernel
theorem d_Ch_passOn_90 : decode b_Ch_passOn 90 = .ok (.iload 4, 2) := by decide +kernel
theorem d_Ch_passOn_92 : decode b_Ch_passOn 92 = .ok (.iand, 1) := by decide +kernel
theorem d_Ch_passOn_93 : decode b_Ch_passOn 93 = .ok (.iastore, 1) := by decide +kernel
theorem d_Ch_passOn_94 : decode b_Ch_passOn 94 = .ok (.return_, 1) := by decide +kernel
def m_Ch_ownFault (g : GT) (i : Int32) : Int32 := if (m_In_isKnown (m_In_codeOf (g.2 i.toNatClampNeg))) = (0 : Int32) then (2 : Int32) else if (m_Ch_isOperandFit (m_In_codeOf (g.2 i.toNatClampNeg)) (m_In_operandOf (g.2 i.toNatClampNeg))) = (0 : Int32) then (3 : Int32) else if (lg_cmp (m_Ch_longestSkip (m_In_codeOf (g.2 i.toNatClampNeg)) (g.2 i.toNatClampNeg)) (((g.1 - (1 : Int32)) - i).toInt64)) ≤ (0 : Int32) then (0 : Int32) else (4 : Int32)
set_option maxHeartbeats 4000000 in
set_option maxRecDepth 100000 in
theorem c_Ch_ownFault (l : Launch) (D : va_G) (dA : Nat → ClassId) (ad : Nat → Nat) (w : Nat → Int32) (P : PT) (g : GT) (ss : Nat → Int32) (M : MT) (i : Int32) (hi : vp_in i 64) : Met l y_Ch_ownFault (mW y_Ch_ownFault b_Ch_ownFault 5 (some .int)) { frames := 2, cells := 0, slots := 0, locals := 45 } (va_Pc [.ref (ad 7), .int i] (fun U => CG D dA ad w P g ss M U)) (vp_Si (fun r => r = m_Ch_ownFault g i)) 0 0 (fun _ => False) := by
  refine Met.ofW (cc := b_Ch_ownFault) (maxL := 5) (ret := (some .int)) (by decide) rfl ?_
  intro p e s m args below meth c s₁ B hml hv
  obtain ⟨rfl, hP, hK, hN⟩ := hv
  have hx := B.exec
  have hb := B.bytes
  have hr := B.returns
  have hlocks := B.notSynchronized
  have hts := fun (w : Cond) (h : w ∈ lw_g) => atoms_spec (ws := mW y_Ch_ownFault b_Ch_ownFault 5 (some .int)) B.pre w (List.mem_cons_of_mem _ h)
  have hown : s.vm.findClass R_Ch = some m.cls := findClass_of_methodNamed B.named
  have hl := lv_entry ([.ref (ad 7), .int i]) (n := 5) (Nat.le_of_ble_eq_true rfl)
  rw [lg_entry_eq]
  generalize (lg_sl ([.ref (ad 7), .int i]) ++ List.replicate (5 - (lg_sl ([.ref (ad 7), .int i])).length) Slot.unset).toArray = ls at hl ⊢
  have hl : lv_has ls 5 [(0, .ref (ad 7)), (1, .int i)] := hl
  refine lv_aload_n hx hb d_Ch_ownFault_0 rfl (lv_at hl 0 rfl) ?_
  refine va_get (D := D) (ci := 6) (v := .ref (ad 8)) (C := R_Pr) (T := F_Pr) (N := 2) hx hb hts in_Pr hown hK hP 7 rfl rfl 0 (by decide) (hts _ wd_153) (fun _ h9 => h9) rfl d_Ch_ownFault_1 ?_
  refine lv_iload_n hx hb d_Ch_ownFault_4 rfl (lv_at hl 1 rfl) ?_
  refine va_lald (n := 64) (f := g.2) hx hb hK hP 8 1 rfl rfl hi d_Ch_ownFault_5 ?_
  refine lv_lstore_n hx hb d_Ch_ownFault_6 rfl hl (by decide) rfl (fun ls hl => ?_)
  have hl : lv_has ls 5 [(2, .long (g.2 i.toNatClampNeg)), (0, .ref (ad 7)), (1, .int i)] := hl
  refine lv_lload_n hx hb d_Ch_ownFault_7 rfl (lv_at hl 0 rfl) ?_
  refine vp_callSi (va_Run.run (va_runS (As := [.long (g.2 i.toNatClampNeg)]) (rest := []) ⟨hx, hb, hml, hown, hts⟩ (c_In_codeOf l (g.2 i.toNatClampNeg)) (va_cwS 1 hts (g_S wd_363 wd_364 wd_36 wd_365) rfl rfl rfl (by decide +kernel) ⟨Nat.le_of_ble_eq_true rfl, Nat.le_of_ble_eq_true rfl⟩) ⟨fun _ _ _ _ q => q, fun _ _ _ => ⟨rfl, trivial⟩⟩ rfl rfl hl.1 rfl (lv_room (Nat.le_of_ble_eq_true rfl)) d_Ch_ownFault_8 ⟨Nat.le_of_ble_eq_true rfl, Nat.le_of_ble_eq_true rfl⟩)) (fun r1 e1 => ?_)
  subst e1
  refine lv_istore hx hb d_Ch_ownFault_11 hl (by decide) rfl (fun ls hl => ?_)
  have hl : lv_has ls 5 [(4, .int (m_In_codeOf (g.2 i.toNatClampNeg))), (2, .long (g.2 i.toNatClampNeg)), (0, .ref (ad 7)), (1, .int i)] := hl
  refine lv_iload hx hb d_Ch_ownFault_13 (lv_at hl 0 rfl) ?_
  refine vp_callSi (va_Run.run (va_runS (As := [.int (m_In_codeOf (g.2 i.toNatClampNeg))]) (rest := []) ⟨hx, hb, hml, hown, hts⟩ (c_In_isKnown l (m_In_codeOf (g.2 i.toNatClampNeg))) (va_cwS 1 hts (g_S wd_367 wd_368 wd_36 wd_369) rfl rfl rfl (by decide +kernel) ⟨Nat.le_of_ble_eq_true rfl, Nat.le_of_ble_eq_true rfl⟩) ⟨fun _ _ _ _ q => q, fun _ _ _ => ⟨rfl, trivial⟩⟩ rfl rfl hl.1 rfl (lv_room (Nat.le_of_ble_eq_true rfl)) d_Ch_ownFault_15 ⟨Nat.le_of_ble_eq_true rfl, Nat.le_of_ble_eq_true rfl⟩)) (fun r2 e2 => ?_)
  subst e2
  refine lv_if_ne (tgt := 23) hx hb d_Ch_ownFault_18 (by decide) (fun h1 => ?_) (fun h1 => ?_)
  · refine lv_iload hx hb d_Ch_ownFault_23 (lv_at hl 0 rfl) ?_
    refine lv_lload_n hx hb d_Ch_ownFault_25 rfl (lv_at hl 1 rfl) ?_
    refine vp_callSl (va_Run.run (va_runS (As := [.long (g.2 i.toNatClampNeg)]) (rest := [.int (m_In_codeOf (g.2 i.toNatClampNeg))]) ⟨hx, hb, hml, hown, hts⟩ (c_In_operandOf l (g.2 i.toNatClampNeg)) (va_cwS 1 hts (g_S wd_379 wd_380 wd_36 wd_381) rfl rfl rfl (by decide +kernel) ⟨Nat.le_of_ble_eq_true rfl, Nat.le_of_ble_eq_true rfl⟩) ⟨fun _ _ _ _ q => q, fun _ _ _ => ⟨rfl, trivial⟩⟩ rfl rfl hl.1 rfl (lv_room (Nat.le_of_ble_eq_true rfl)) d_Ch_ownFault_26 ⟨Nat.le_of_ble_eq_true rfl, Nat.le_of_ble_eq_true rfl⟩)) (fun r3 e3 => ?_)
    subst e3
    refine vp_callSi (va_Run.run (va_runS (As := [.int (m_In_codeOf (g.2 i.toNatClampNeg)), .long (m_In_operandOf (g.2 i.toNatClampNeg))]) (rest := []) ⟨hx, hb, hml, hown, hts⟩ (c_Ch_isOperandFit l (m_In_codeOf (g.2 i.toNatClampNeg)) (m_In_operandOf (g.2 i.toNatClampNeg))) (va_cwS 2 hts (g_S wd_382 wd_383 wd_33 wd_384) rfl rfl rfl (by decide +kernel) ⟨Nat.le_of_ble_eq_true rfl, Nat.le_of_ble_eq_true rfl⟩) ⟨fun _ _ _ _ q => q, fun _ _ _ => ⟨rfl, trivial⟩⟩ rfl rfl hl.1 rfl (lv_room (Nat.le_of_ble_eq_true rfl)) d_Ch_ownFault_29 ⟨Nat.le_of_ble_eq_true rfl, Nat.le_of_ble_eq_true rfl⟩)) (fun r4 e4 => ?_)
    subst e4
    refine lv_if_ne (tgt := 37) hx hb d_Ch_ownFault_32 (by decide) (fun h2 => ?_) (fun h2 => ?_)
    · refine lv_iload hx hb d_Ch_ownFault_37 (lv_at hl 0 rfl) ?_
      refine lv_lload_n hx hb d_Ch_ownFault_39 rfl (lv_at hl 1 rfl) ?_
      refine vp_callSl (va_Run.run (va_runS (As := [.int (m_In_codeOf (g.2 i.toNatClampNeg)), .long (g.2 i.toNatClampNeg)]) (rest := []) ⟨hx, hb, hml, hown, hts⟩ (c_Ch_longestSkip l (m_In_codeOf (g.2 i.toNatClampNeg)) (g.2 i.toNatClampNeg)) (va_cwS 2 hts (g_S wd_395 wd_396 wd_33 wd_397) rfl rfl rfl (by decide +kernel) ⟨Nat.le_of_ble_eq_true rfl, Nat.le_of_ble_eq_true rfl⟩) ⟨fun _ _ _ _ q => q, fun _ _ _ => ⟨rfl, trivial⟩⟩ rfl rfl hl.1 rfl (lv_room (Nat.le_of_ble_eq_true rfl)) d_Ch_ownFault_40 ⟨Nat.le_of_ble_eq_true rfl, Nat.le_of_ble_eq_true rfl⟩)) (fun r5 e5 => ?_)
      subst e5
      refine lv_aload_n hx hb d_Ch_ownFault_43 rfl (lv_at hl 2 rfl) ?_
      refine va_get (D := D) (ci := 6) (v := .int g.1) (C := R_Pr) (T := F_Pr) (N := 2) hx hb hts in_Pr hown hK hP 7 rfl rfl 1 (by decide) (hts _ wd_156) (fun _ h9 => h9) rfl d_Ch_ownFault_44 ?_
      refine lv_iconst (v := 1) hx hb d_Ch_ownFault_47 (by decide) ?_
      refine lv_isub hx hb d_Ch_ownFault_48 ?_
      refine lv_iload_n hx hb d_Ch_ownFault_49 rfl (lv_at hl 3 rfl) ?_
      refine lv_isub hx hb d_Ch_ownFault_50 ?_
      refine lv_i2l hx hb d_Ch_ownFault_51 rfl ?_
      refine W.lcmp hx hb d_Ch_ownFault_52 ?_
      refine lv_if_le (tgt := 60) hx hb d_Ch_ownFault_53 (by decide) (fun h3 => ?_) (fun h3 => ?_)
      · refine lv_iconst (v := 0) hx hb d_Ch_ownFault_60 (by decide) ?_
        exact W.iret hx hb hr (fun t ht hW => ⟨_, rfl, (by rw [m_Ch_ownFault, if_neg h1, if_neg h2, if_pos h3]), ht⟩) (fun _ h => by cases h) d_Ch_ownFault_61
      refine lv_iconst (v := 4) hx hb d_Ch_ownFault_56 (by decide) ?_
      refine lv_goto (tgt := 61) hx hb d_Ch_ownFault_57 (by decide) ?_
      exact W.iret hx hb hr (fun t ht hW => ⟨_, rfl, (by rw [m_Ch_ownFault, if_neg h1, if_neg h2, if_neg h3]), ht⟩) (fun _ h => by cases h) d_Ch_ownFault_61
    refine lv_iconst (v := 3) hx hb d_Ch_ownFault_35 (by decide) ?_
    exact W.iret hx hb hr (fun t ht hW => ⟨_, rfl, (by rw [m_Ch_ownFault, if_neg h1, if_pos h2]), ht⟩) (fun _ h => by cases h) d_Ch_ownFault_36
  refine lv_iconst (v := 2) hx hb d_Ch_ownFault_21 (by decide) ?_
  exact W.iret hx hb hr (fun t ht hW => ⟨_, rfl, (by rw [m_Ch_ownFault, if_pos h1]), ht⟩) (fun _ h => by cases h) d_Ch_ownFault_22
def m_Ch_passOn (ss : Nat → Int32) (z : Int64) (nx : Int32) (sd : Int32) : (Nat → Int32) := if (m_In_codeOf z) = (5 : Int32) then (upd ss (nx + ((m_In_operandOf z).toInt32)).toNatClampNeg ((ss (nx + ((m_In_operandOf z).toInt32)).toNatClampNeg) &&& sd)) else if (m_In_isConditional (m_In_codeOf z)) = (0 : Int32) then if (m_In_endsRun (m_In_codeOf z)) = (0 : Int32) then (upd ss nx.toNatClampNeg ((ss nx.toNatClampNeg) &&& sd)) else ss else (upd (upd ss (nx + (m_In_distanceIfTrue z)).toNatClampNeg ((ss (nx + (m_In_distanceIfTrue z)).toNatClampNeg) &&& sd)) (nx + (m_In_distanceIfFalse z)).toNatClampNeg (((upd ss (nx + (m_In_distanceIfTrue z)).toNatClampNeg ((ss (nx + (m_In_distanceIfTrue z)).toNatClampNeg) &&& sd)) (nx + (m_In_distanceIfFalse z)).toNatClampNeg) &&& sd))
set_option maxHeartbeats 4000000 in
set_option maxRecDepth 100000 in
theorem c_Ch_passOn (l : Launch) (D : va_G) (dA : Nat → ClassId) (ad : Nat → Nat) (A : Nat → Prop) (hAd : AdOK 49 ad A) (w : Nat → Int32) (P : PT) (g : GT) (ss : Nat → Int32) (M : MT) (z : Int64) (nx : Int32) (sd : Int32) (hz : OKp z nx) : Met l y_Ch_passOn (mW y_Ch_passOn b_Ch_passOn 6 none) { frames := 1, cells := 0, slots := 0, locals := 21 } (va_Pc [.ref (ad 9), .long z, .int nx, .int sd] (fun U => CG D dA ad w P g ss M U)) (va_Qv (fun u : (Nat → Int32) => u = m_Ch_passOn ss z nx sd) (fun u t => CG D dA ad w P g u M t) A) 0 0 A := by
  refine Met.ofW (cc := b_Ch_passOn) (maxL := 6) (ret := none) (by decide) rfl ?_
  intro p e s m args below meth c s₁ B hml hv
  obtain ⟨rfl, hP, hK, hN⟩ := hv
  have hx := B.exec
  have hb := B.bytes
  have hr := B.returns
  have hlocks := B.notSynchronized
  have hts := fun (w : Cond) (h : w ∈ lw_g) => atoms_spec (ws := mW y_Ch_passOn b_Ch_passOn 6 none) B.pre w (List.mem_cons_of_mem _ h)
  have hown : s.vm.findClass R_Ch = some m.cls := findClass_of_methodNamed B.named
  have hS : va_S A s.heap s.heap [] := va_S.rf
  have hl := lv_entry ([.ref (ad 9), .long z, .int nx, .int sd]) (n := 6) (Nat.le_of_ble_eq_true rfl)
  rw [lg_entry_eq]
  generalize (lg_sl ([.ref (ad 9), .long z, .int nx, .int sd]) ++ List.replicate (6 - (lg_sl ([.ref (ad 9), .long z, .int nx, .int sd])).length) Slot.unset).toArray = ls at hl ⊢
  have hl : lv_has ls 6 [(0, .ref (ad 9)), (1, .long z), (3, .int nx), (4, .int sd)] := hl
  refine lv_lload_n hx hb d_Ch_passOn_0 rfl (lv_at hl 1 rfl) ?_
  refine vp_callSi (va_Run.run (va_runS (As := [.long z]) (rest := []) ⟨hx, hb, hml, hown, hts⟩ (c_In_codeOf l z) (va_cwS 1 hts (g_S wd_363 wd_364 wd_36 wd_365) rfl rfl rfl (by decide +kernel) ⟨Nat.le_of_ble_eq_true rfl, Nat.le_of_ble_eq_true rfl⟩) ⟨fun _ _ _ _ q => q, fun _ _ _ => ⟨rfl, trivial⟩⟩ rfl rfl hl.1 rfl (lv_room (Nat.le_of_ble_eq_true rfl)) d_Ch_passOn_1 ⟨Nat.le_of_ble_eq_true rfl, Nat.le_of_ble_eq_true rfl⟩)) (fun r1 e1 => ?_)
  subst e1
  refine lv_istore hx hb d_Ch_passOn_4 hl (by decide) rfl (fun ls hl => ?_)
  have hl : lv_has ls 6 [(5, .int (m_In_codeOf z)), (0, .ref (ad 9)), (1, .long z), (3, .int nx), (4, .int sd)] := hl
  refine lv_iload hx hb d_Ch_passOn_6 (lv_at hl 0 rfl) ?_
  refine lv_iconst (v := 5) hx hb d_Ch_passOn_8 (by decide) ?_
  refine lv_icmp_ne (tgt := 32) hx hb d_Ch_passOn_9 (by decide) (fun h1 => ?_) (fun h1 => ?_)
  · refine lv_iload hx hb d_Ch_passOn_32 (lv_at hl 0 rfl) ?_
    refine vp_callSi (va_Run.run (va_runS (As := [.int (m_In_codeOf z)]) (rest := []) ⟨hx, hb, hml, hown, hts⟩ (c_In_isConditional l (m_In_codeOf z)) (va_cwS 1 hts (g_S wd_398 wd_374 wd_36 wd_375) rfl rfl rfl (by decide +kernel) ⟨Nat.le_of_ble_eq_true rfl, Nat.le_of_ble_eq_true rfl⟩) ⟨fun _ _ _ _ q => q, fun _ _ _ => ⟨rfl, trivial⟩⟩ rfl rfl hl.1 rfl (lv_room (Nat.le_of_ble_eq_true rfl)) d_Ch_passOn_34 ⟨Nat.le_of_ble_eq_true rfl, Nat.le_of_ble_eq_true rfl⟩)) (fun r2 e2 => ?_)
    subst e2
    refine lv_if_eq (tgt := 75) hx hb d_Ch_passOn_37 (by decide) (fun h2 => ?_) (fun h2 => ?_)
    · refine lv_iload hx hb d_Ch_passOn_75 (lv_at hl 0 rfl) ?_
      refine vp_callSi (va_Run.run (va_runS (As := [.int (m_In_codeOf z)]) (rest := []) ⟨hx, hb, hml, hown, hts⟩ (c_In_endsRun l (m_In_codeOf z)) (va_cwS 1 hts (g_S wd_409 wd_377 wd_36 wd_378) rfl rfl rfl (by decide +kernel) ⟨Nat.le_of_ble_eq_true rfl, Nat.le_of_ble_eq_true rfl⟩) ⟨fun _ _ _ _ q => q, fun _ _ _ => ⟨rfl, trivial⟩⟩ rfl rfl hl.1 rfl (lv_room (Nat.le_of_ble_eq_true rfl)) d_Ch_passOn_77 ⟨Nat.le_of_ble_eq_true rfl, Nat.le_of_ble_eq_true rfl⟩)) (fun r3 e3 => ?_)
      subst e3
      refine lv_if_ne (tgt := 94) hx hb d_Ch_passOn_80 (by decide) (fun h3 => ?_) (fun h3 => ?_)
      · exact W.vret hx hb hr (fun t ht hW => ⟨⟨_, rfl, (by rw [m_Ch_passOn, if_neg h1, if_pos h2, if_neg h3]), CG_at hP hK hN ht hW⟩, hS.F ht⟩) hS.2.2 d_Ch_passOn_94
      refine lv_aload_n hx hb d_Ch_passOn_83 rfl (lv_at hl 1 rfl) ?_
      refine va_get (D := D) (ci := 2) (v := .ref (ad 10)) (C := R_Ch) (T := F_Ch) (N := 1) hx hb hts in_Ch hown hK hP 9 rfl rfl 0 (by decide) (hts _ wd_171) (fun _ h9 => h9) rfl d_Ch_passOn_84 ?_
      refine lv_iload_n hx hb d_Ch_passOn_87 rfl (lv_at hl 3 rfl) ?_
      refine lv_dup2_11 hx hb d_Ch_passOn_88 rfl rfl ?_
      refine va_iald (n := 64) (f := ss) hx hb hK hP 10 0 rfl rfl (okp_n hz (by assumption) (by assumption) (by assumption)) d_Ch_passOn_89 ?_
      refine lv_iload hx hb d_Ch_passOn_90 (lv_at hl 4 rfl) ?_
      refine lv_iand hx hb d_Ch_passOn_92 ?_
      refine va_iast (n := 64) (f := ss) hx hb hK hP (wC_D hAd) hS 10 0 rfl rfl (okp_n hz (by assumption) (by assumption) (by assumption)) d_Ch_passOn_93 (fun H locs hP _ hS => ?_)
      have hP : va_P D cls (wC ad dA w P g (upd ss nx.toNatClampNeg ((ss nx.toNatClampNeg) &&& sd)) M) H := hP
      exact W.vret hx hb hr (fun t ht hW => ⟨⟨_, rfl, (by rw [m_Ch_passOn, if_neg h1, if_pos h2, if_pos h3]), CG_at hP hK hN ht hW⟩, hS.F ht⟩) hS.2.2 d_Ch_passOn_94
    refine lv_aload_n hx hb d_Ch_passOn_40 rfl (lv_at hl 1 rfl) ?_
    refine va_get (D := D) (ci := 2) (v := .ref (ad 10)) (C := R_Ch) (T := F_Ch) (N := 1) hx hb hts in_Ch hown hK hP 9 rfl rfl 0 (by decide) (hts _ wd_171) (fun _ h9 => h9) rfl d_Ch_passOn_41 ?_
    refine lv_iload_n hx hb d_Ch_passOn_44 rfl (lv_at hl 3 rfl) ?_
    refine lv_lload_n hx hb d_Ch_passOn_45 rfl (lv_at hl 2 rfl) ?_
    refine vp_callSi (va_Run.run (va_runS (As := [.long z]) (rest := [.int nx, .ref (ad 10)]) ⟨hx, hb, hml, hown, hts⟩ (c_In_distanceIfTrue l z) (va_cwS 1 hts (g_S wd_399 wd_400 wd_36 wd_401) rfl rfl rfl (by decide +kernel) ⟨Nat.le_of_ble_eq_true rfl, Nat.le_of_ble_eq_true rfl⟩) ⟨fun _ _ _ _ q => q, fun _ _ _ => ⟨rfl, trivial⟩⟩ rfl rfl hl.1 rfl (lv_room (Nat.le_of_ble_eq_true rfl)) d_Ch_passOn_46 ⟨Nat.le_of_ble_eq_true rfl, Nat.le_of_ble_eq_true rfl⟩)) (fun r4 e4 => ?_)
    subst e4
    refine lv_iadd hx hb d_Ch_passOn_49 ?_
    refine lv_dup2_11 hx hb d_Ch_passOn_50 rfl rfl ?_
    refine va_iald (n := 64) (f := ss) hx hb hK hP 10 0 rfl rfl (okp_t hz (by assumption) (by assumption)) d_Ch_passOn_51 ?_
    refine lv_iload hx hb d_Ch_passOn_52 (lv_at hl 4 rfl) ?_
    refine lv_iand hx hb d_Ch_passOn_54 ?_
    refine va_iast (n := 64) (f := ss) hx hb hK hP (wC_D hAd) hS 10 0 rfl rfl (okp_t hz (by assumption) (by assumption)) d_Ch_passOn_55 (fun H locs hP _ hS => ?_)
    have hP : va_P D cls (wC ad dA w P g (upd ss (nx + (m_In_distanceIfTrue z)).toNatClampNeg ((ss (nx + (m_In_distanceIfTrue z)).toNatClampNeg) &&& sd)) M) H := hP
    refine lv_aload_n hx hb d_Ch_passOn_56 rfl (lv_at hl 1 rfl) ?_
    refine va_get (D := D) (ci := 2) (v := .ref (ad 10)) (C := R_Ch) (T := F_Ch) (N := 1) hx hb hts in_Ch hown hK hP 9 rfl rfl 0 (by decide) (hts _ wd_171) (fun _ h9 => h9) rfl d_Ch_passOn_57 ?_
    refine lv_iload_n hx hb d_Ch_passOn_60 rfl (lv_at hl 3 rfl) ?_
    refine lv_lload_n hx hb d_Ch_passOn_61 rfl (lv_at hl 2 rfl) ?_
    refine vp_callSi (va_Run.run (va_runS (As := [.long z]) (rest := [.int nx, .ref (ad 10)]) ⟨hx, hb, hml, hown, hts⟩ (c_In_distanceIfFalse l z) (va_cwS 1 hts (g_S wd_403 wd_404 wd_36 wd_405) rfl rfl rfl (by decide +kernel) ⟨Nat.le_of_ble_eq_true rfl, Nat.le_of_ble_eq_true rfl⟩) ⟨fun _ _ _ _ q => q, fun _ _ _ => ⟨rfl, trivial⟩⟩ rfl rfl hl.1 rfl (lv_room (Nat.le_of_ble_eq_true rfl)) d_Ch_passOn_62 ⟨Nat.le_of_ble_eq_true rfl, Nat.le_of_ble_eq_true rfl⟩)) (fun r5 e5 => ?_)
    subst e5
    refine lv_iadd hx hb d_Ch_passOn_65 ?_
    refine lv_dup2_11 hx hb d_Ch_passOn_66 rfl rfl ?_
    refine va_iald (n := 64) (f := upd ss (nx + (m_In_distanceIfTrue z)).toNatClampNeg ((ss (nx + (m_In_distanceIfTrue z)).toNatClampNeg) &&& sd)) hx hb hK hP 10 0 rfl rfl (okp_f hz (by assumption) (by assumption)) d_Ch_passOn_67 ?_
    refine lv_iload hx hb d_Ch_passOn_68 (lv_at hl 4 rfl) ?_
    refine lv_iand hx hb d_Ch_passOn_70 ?_
    refine va_iast (n := 64) (f := upd ss (nx + (m_In_distanceIfTrue z)).toNatClampNeg ((ss (nx + (m_In_distanceIfTrue z)).toNatClampNeg) &&& sd)) hx hb hK hP (wC_D hAd) hS 10 0 rfl rfl (okp_f hz (by assumption) (by assumption)) d_Ch_passOn_71 (fun H locs hP _ hS => ?_)
    have hP : va_P D cls (wC ad dA w P g (upd (upd ss (nx + (m_In_distanceIfTrue z)).toNatClampNeg ((ss (nx + (m_In_distanceIfTrue z)).toNatClampNeg) &&& sd)) (nx + (m_In_distanceIfFalse z)).toNatClampNeg (((upd ss (nx + (m_In_distanceIfTrue z)).toNatClampNeg ((ss (nx + (m_In_distanceIfTrue z)).toNatClampNeg) &&& sd)) (nx + (m_In_distanceIfFalse z)).toNatClampNeg) &&& sd)) M) H := hP
    refine lv_goto (tgt := 94) hx hb d_Ch_passOn_72 (by decide) ?_
    exact W.vret hx hb hr (fun t ht hW => ⟨⟨_, rfl, (by rw [m_Ch_passOn, if_neg h1, if_neg h2]), CG_at hP hK hN ht hW⟩, hS.F ht⟩) hS.2.2 d_Ch_passOn_94
  refine lv_aload_n hx hb d_Ch_passOn_12 rfl (lv_at hl 1 rfl) ?_
  refine va_get (D := D) (ci := 2) (v := .ref (ad 10)) (C := R_Ch) (T := F_Ch) (N := 1) hx hb hts in_Ch hown hK hP 9 rfl rfl 0 (by decide) (hts _ wd_171) (fun _ h9 => h9) rfl d_Ch_passOn_13 ?_
  refine lv_iload_n hx hb d_Ch_passOn_16 rfl (lv_at hl 3 rfl) ?_
  refine lv_lload_n hx hb d_Ch_passOn_17 rfl (lv_at hl 2 rfl) ?_
  refine vp_callSl (va_Run.run (va_runS (As := [.long z]) (rest := [.int nx, .ref (ad 10)]) ⟨hx, hb, hml, hown, hts⟩ (c_In_operandOf l z) (va_cwS 1 hts (g_S wd_379 wd_380 wd_36 wd_381) rfl rfl rfl (by decide +kernel) ⟨Nat.le_of_ble_eq_true rfl, Nat.le_of_ble_eq_true rfl⟩) ⟨fun _ _ _ _ q => q, fun _ _ _ => ⟨rfl, trivial⟩⟩ rfl rfl hl.1 rfl (lv_room (Nat.le_of_ble_eq_true rfl)) d_Ch_passOn_18 ⟨Nat.le_of_ble_eq_true rfl, Nat.le_of_ble_eq_true rfl⟩)) (fun r6 e6 => ?_)
  subst e6
  refine lv_l2i hx hb d_Ch_passOn_21 rfl ?_
  refine lv_iadd hx hb d_Ch_passOn_22 ?_
  refine lv_dup2_11 hx hb d_Ch_passOn_23 rfl rfl ?_
  refine va_iald (n := 64) (f := ss) hx hb hK hP 10 0 rfl rfl (okp_k hz (by assumption)) d_Ch_passOn_24 ?_
  refine lv_iload hx hb d_Ch_passOn_25 (lv_at hl 4 rfl) ?_
  refine lv_iand hx hb d_Ch_passOn_27 ?_
  refine va_iast (n := 64) (f := ss) hx hb hK hP (wC_D hAd) hS 10 0 rfl rfl (okp_k hz (by assumption)) d_Ch_passOn_28 (fun H locs hP _ hS => ?_)
  have hP : va_P D cls (wC ad dA w P g (upd ss (nx + ((m_In_operandOf z).toInt32)).toNatClampNeg ((ss (nx + ((m_In_operandOf z).toInt32)).toNatClampNeg) &&& sd)) M) H := hP
  refine lv_goto (tgt := 94) hx hb d_Ch_passOn_29 (by decide) ?_
  exact W.vret hx hb hr (fun t ht hW => ⟨⟨_, rfl, (by rw [m_Ch_passOn, if_pos h1]), CG_at hP hK hN ht hW⟩, hS.F ht⟩) hS.2.2 d_Ch_passOn_94
end
section
theorem wd_0 : Cond.selects R_Po y_Po_isStricter y_Po_isStricter ∈ lw_g := wd_in (i := 0) (by decide +kernel) (by decide +kernel)
theorem wd_28 : Cond.initialized R_Po ∈ lw_g := wd_in (i := 28) (by decide +kernel) (by decide +kernel)
theorem wd_29 : Cond.initialized R_Ac ∈ lw_g := wd_in (i := 29) (by decide +kernel) (by decide +kernel)
theorem wd_30 : Cond.initialized R_Ru ∈ lw_g := wd_in (i := 30) (by decide +kernel) (by decide +kernel)
theorem wd_31 : Cond.initialized R_Co ∈ lw_g := wd_in (i := 31) (by decide +kernel) (by decide +kernel)
theorem wd_71 : Cond.fieldLink R_Ac 7 R_Ac "kind" "I" ∈ lw_g := wd_in (i := 71) (by decide +kernel) (by decide +kernel)
theorem wd_72 : Cond.fieldLink R_Po 58 R_Ac "kind" "I" ∈ lw_g := wd_in (i := 72) (by decide +kernel) (by decide +kernel)
theorem wd_73 : Cond.fieldLink R_Ac 14 R_Ac "data" "I" ∈ lw_g := wd_in (i := 73) (by decide +kernel) (by decide +kernel)
theorem wd_95 : Cond.fieldLink R_Co 9 R_Co "place" "I" ∈ lw_g := wd_in (i := 95) (by decide +kernel) (by decide +kernel)
theorem wd_96 : Cond.fieldLink R_Co 13 R_Co "operator" "I" ∈ lw_g := wd_in (i := 96) (by decide +kernel) (by decide +kernel)
theorem wd_97 : Cond.fieldLink R_Co 16 R_Co "value" "J" ∈ lw_g := wd_in (i := 97) (by decide +kernel) (by decide +kernel)
theorem wd_98 : Cond.fieldLink R_Co 20 R_Co "mask" "J" ∈ lw_g := wd_in (i := 98) (by decide +kernel) (by decide +kernel)
theorem wd_108 : Cond.fieldLink R_Ru 12 R_Ru "action" "LCallFilter$Action;" ∈ lw_g := wd_in (i := 108) (by decide +kernel) (by decide +kernel)
theorem wd_109 : Cond.fieldLink R_Po 55 R_Ru "action" "LCallFilter$Action;" ∈ lw_g := wd_in (i := 109) (by decide +kernel) (by decide +kernel)
theorem wd_110 : Cond.fieldLink R_Ru 36 R_Ru "count" "I" ∈ lw_g := wd_in (i := 110) (by decide +kernel) (by decide +kernel)
theorem wd_112 : Cond.fieldLink R_Ru 25 R_Ru "from" "I" ∈ lw_g := wd_in (i := 112) (by decide +kernel) (by decide +kernel)
theorem wd_113 : Cond.fieldLink R_Ru 29 R_Ru "to" "I" ∈ lw_g := wd_in (i := 113) (by decide +kernel) (by decide +kernel)
theorem wd_114 : Cond.fieldLink R_Ru 20 R_Ru "conditions" "[LCallFilter$Condition;" ∈ lw_g := wd_in (i := 114) (by decide +kernel) (by decide +kernel)
theorem wd_126 : Cond.fieldLink R_Po 14 R_Po "defaultAction" "LCallFilter$Action;" ∈ lw_g := wd_in (i := 126) (by decide +kernel) (by decide +kernel)
theorem wd_128 : Cond.fieldLink R_Po 20 R_Po "foreignAction" "LCallFilter$Action;" ∈ lw_g := wd_in (i := 128) (by decide +kernel) (by decide +kernel)
theorem wd_130 : Cond.fieldLink R_Po 25 R_Po "rules" "[LCallFilter$Rule;" ∈ lw_g := wd_in (i := 130) (by decide +kernel) (by decide +kernel)
theorem wd_132 : Cond.fieldLink R_Po 34 R_Po "count" "I" ∈ lw_g := wd_in (i := 132) (by decide +kernel) (by decide +kernel)
theorem wd_134 : Cond.fieldLink R_Po 29 R_Po "architecture" "I" ∈ lw_g := wd_in (i := 134) (by decide +kernel) (by decide +kernel)
theorem wd_252 : Cond.methodLink R_Po 37 y_Ru_become ∈ lw_g := wd_in (i := 252) (by decide +kernel) (by decide +kernel)
theorem wd_253 : Cond.instanceMethod y_Ru_become ∈ lw_g := wd_in (i := 253) (by decide +kernel) (by decide +kernel)
theorem wd_254 : Cond.selects R_Ru y_Ru_become y_Ru_become ∈ lw_g := wd_in (i := 254) (by decide +kernel) (by decide +kernel)
theorem wd_255 : Cond.code y_Ru_become prog_10_method_2_code 5 (Option.none : Option Jvm.ClassFile.FieldType) ∈ lw_g := wd_in (i := 255) (by decide +kernel) (by decide +kernel)
theorem wd_256 : Cond.methodLink R_Ru 32 y_Ac_become ∈ lw_g := wd_in (i := 256) (by decide +kernel) (by decide +kernel)
theorem wd_257 : Cond.instanceMethod y_Ac_become ∈ lw_g := wd_in (i := 257) (by decide +kernel) (by decide +kernel)
theorem wd_258 : Cond.selects R_Ac y_Ac_become y_Ac_become ∈ lw_g := wd_in (i := 258) (by decide +kernel) (by decide +kernel)
theorem wd_259 : Cond.code y_Ac_become prog_2_method_3_code 3 (Option.none : Option Jvm.ClassFile.FieldType) ∈ lw_g := wd_in (i := 259) (by decide +kernel) (by decide +kernel)
theorem wd_271 : Cond.methodLink R_Ru 39 y_Co_become ∈ lw_g := wd_in (i := 271) (by decide +kernel) (by decide +kernel)
theorem wd_272 : Cond.instanceMethod y_Co_become ∈ lw_g := wd_in (i := 272) (by decide +kernel) (by decide +kernel)
theorem wd_273 : Cond.selects R_Co y_Co_become y_Co_become ∈ lw_g := wd_in (i := 273) (by decide +kernel) (by decide +kernel)
theorem wd_274 : Cond.code y_Co_become prog_5_method_3_code 7 (Option.none : Option Jvm.ClassFile.FieldType) ∈ lw_g := wd_in (i := 274) (by decide +kernel) (by decide +kernel)
theorem wd_292 : Cond.methodLink R_Po 41 y_Ca_isForeignTo ∈ lw_g := wd_in (i := 292) (by decide +kernel) (by decide +kernel)
theorem wd_293 : Cond.instanceMethod y_Ca_isForeignTo ∈ lw_g := wd_in (i := 293) (by decide +kernel) (by decide +kernel)
theorem wd_294 : Cond.selects R_Ca y_Ca_isForeignTo y_Ca_isForeignTo ∈ lw_g := wd_in (i := 294) (by decide +kernel) (by decide +kernel)
theorem wd_295 : Cond.code y_Ca_isForeignTo prog_3_method_6_code 2 (Option.some Jvm.ClassFile.FieldType.boolean) ∈ lw_g := wd_in (i := 295) (by decide +kernel) (by decide +kernel)
theorem wd_305 : Cond.methodLink R_Po 47 y_Ru_matches ∈ lw_g := wd_in (i := 305) (by decide +kernel) (by decide +kernel)
theorem wd_306 : Cond.instanceMethod y_Ru_matches ∈ lw_g := wd_in (i := 306) (by decide +kernel) (by decide +kernel)
theorem wd_307 : Cond.selects R_Ru y_Ru_matches y_Ru_matches ∈ lw_g := wd_in (i := 307) (by decide +kernel) (by decide +kernel)
theorem wd_308 : Cond.code y_Ru_matches prog_10_method_4_code 3 (Option.some Jvm.ClassFile.FieldType.boolean) ∈ lw_g := wd_in (i := 308) (by decide +kernel) (by decide +kernel)
theorem wd_309 : Cond.methodLink R_Ru 42 y_Ca_number ∈ lw_g := wd_in (i := 309) (by decide +kernel) (by decide +kernel)
theorem wd_310 : Cond.methodLink R_Ru 48 y_Co_holdsFor ∈ lw_g := wd_in (i := 310) (by decide +kernel) (by decide +kernel)
theorem wd_311 : Cond.instanceMethod y_Co_holdsFor ∈ lw_g := wd_in (i := 311) (by decide +kernel) (by decide +kernel)
theorem wd_312 : Cond.selects R_Co y_Co_holdsFor y_Co_holdsFor ∈ lw_g := wd_in (i := 312) (by decide +kernel) (by decide +kernel)
theorem wd_313 : Cond.code y_Co_holdsFor prog_5_method_4_code 4 (Option.some Jvm.ClassFile.FieldType.boolean) ∈ lw_g := wd_in (i := 313) (by decide +kernel) (by decide +kernel)
theorem wd_314 : Cond.methodLink R_Co 23 y_Ca_getArgument ∈ lw_g := wd_in (i := 314) (by decide +kernel) (by decide +kernel)
theorem wd_315 : Cond.instanceMethod y_Ca_getArgument ∈ lw_g := wd_in (i := 315) (by decide +kernel) (by decide +kernel)
theorem wd_316 : Cond.selects R_Ca y_Ca_getArgument y_Ca_getArgument ∈ lw_g := wd_in (i := 316) (by decide +kernel) (by decide +kernel)
theorem wd_317 : Cond.code y_Ca_getArgument prog_3_method_4_code 3 (Option.some Jvm.ClassFile.FieldType.long) ∈ lw_g := wd_in (i := 317) (by decide +kernel) (by decide +kernel)
theorem wd_318 : Cond.methodLink R_Co 29 y_Co_isBelow ∈ lw_g := wd_in (i := 318) (by decide +kernel) (by decide +kernel)
theorem wd_319 : Cond.static y_Co_isBelow ∈ lw_g := wd_in (i := 319) (by decide +kernel) (by decide +kernel)
theorem wd_320 : Cond.code y_Co_isBelow prog_5_method_5_code 6 (Option.some Jvm.ClassFile.FieldType.boolean) ∈ lw_g := wd_in (i := 320) (by decide +kernel) (by decide +kernel)
theorem wd_322 : Cond.methodLink R_Po 51 y_Po_isStricter ∈ lw_g := wd_in (i := 322) (by decide +kernel) (by decide +kernel)
theorem wd_324 : Cond.instanceMethod y_Po_isStricter ∈ lw_g := wd_in (i := 324) (by decide +kernel) (by decide +kernel)
theorem wd_325 : Cond.code y_Po_isStricter prog_8_method_4_code 3 (Option.some Jvm.ClassFile.FieldType.boolean) ∈ lw_g := wd_in (i := 325) (by decide +kernel) (by decide +kernel)
theorem wd_334 : Cond.fieldLink R_Ac 17 R_Ac "KIND_WORDS" "[J" ∈ lw_g := wd_in (i := 334) (by decide +kernel) (by decide +kernel)
theorem d_Ac_become_0 : decode b_Ac_become 0 = .ok (.aload_n 0, 1) := by decide +kernel
theorem d_Ac_become_1 : decode b_Ac_become 1 = .ok (.iload_n 1, 1) := by decide +kernel
theorem d_Ac_become_2 : decode b_Ac_become 2 = .ok (.putfield 7, 3) := by decide +kernel
theorem d_Ac_become_5 : decode b_Ac_become 5 = .ok (.aload_n 0, 1) := by decide +kernel
theorem d_Ac_become_6 : decode b_Ac_become 6 = .ok (.iload_n 2, 1) := by decide +kernel
theorem d_Ac_become_7 : decode b_Ac_become 7 = .ok (.putfield 14, 3) := by decide +kernel
theorem d_Ac_become_10 : decode b_Ac_become 10 = .ok (.return_, 1) := by decide +kernel
theorem d_Ac_asWord_0 : decode b_Ac_asWord 0 = .ok (.iconst 2, 1) := by decide +kernel
theorem d_Ac_asWord_1 : decode b_Ac_asWord 1 = .ok (.aload_n 0, 1) := by decide +kernel
theorem d_Ac_asWord_2 : decode b_Ac_asWord 2 = .ok (.getfield 7, 3) := by decide +kernel
theorem d_Ac_asWord_5 : decode b_Ac_asWord 5 = .ok (.if_icmp .gt 15, 3) := by decide +kernel
theorem d_Ac_asWord_8 : decode b_Ac_asWord 8 = .ok (.aload_n 0, 1) := by decide +kernel
theorem d_Ac_asWord_9 : decode b_Ac_asWord 9 = .ok (.getfield 7, 3) := by decide +kernel
theorem d_Ac_asWord_12 : decode b_Ac_asWord 12 = .ok (.iconst 4, 1) := by decide +kernel
theorem d_Ac_asWord_13 : decode b_Ac_asWord 13 = .ok (.if_icmp .gt 7, 3) := by decide +kernel
theorem d_Ac_asWord_16 : decode b_Ac_asWord 16 = .ok (.iconst 1, 1) := by decide +kernel
theorem d_Ac_asWord_17 : decode b_Ac_asWord 17 = .ok (.goto 4, 3) := by decide +kernel
theorem d_Ac_asWord_20 : decode b_Ac_asWord 20 = .ok (.iconst 0, 1) := by decide +kernel
theorem d_Ac_asWord_21 : decode b_Ac_asWord 21 = .ok (.istore_n 1, 1) := by decide +kernel
theorem d_Ac_asWord_22 : decode b_Ac_asWord 22 = .ok (.getstatic 17, 3) := by decide +kernel
theorem d_Ac_asWord_25 : decode b_Ac_asWord 25 = .ok (.aload_n 0, 1) := by decide +kernel
theorem d_Ac_asWord_26 : decode b_Ac_asWord 26 = .ok (.getfield 7, 3) := by decide +kernel
theorem d_Ac_asWord_29 : decode b_Ac_asWord 29 = .ok (.laload, 1) := by decide +kernel
theorem d_Ac_asWord_30 : decode b_Ac_asWord 30 = .ok (.iload_n 1, 1) := by decide +kernel
theorem d_Ac_asWord_31 : decode b_Ac_asWord 31 = .ok (.ifCond .eq 10, 3) := by decide +kernel
theorem d_Ac_asWord_34 : decode b_Ac_asWord 34 = .ok (.aload_n 0, 1) := by decide +kernel
theorem d_Ac_asWord_35 : decode b_Ac_asWord 35 = .ok (.getfield 14, 3) := by decide +kernel
theorem d_Ac_asWord_38 : decode b_Ac_asWord 38 = .ok (.goto 4, 3) := by decide +kernel
theorem d_Ac_asWord_41 : decode b_Ac_asWord 41 = .ok (.iconst 0, 1) := by decide +kernel
theorem d_Ac_asWord_42 : decode b_Ac_asWord 42 = .ok (.i2l, 1) := by decide +kernel
theorem d_Ac_asWord_43 : decode b_Ac_asWord 43 = .ok (.ladd, 1) := by decide +kernel
theorem d_Ac_asWord_44 : decode b_Ac_asWord 44 = .ok (.lreturn, 1) := by decide +kernel
theorem d_Co_become_0 : decode b_Co_become 0 = .ok (.aload_n 0, 1) := by decide +kernel
theorem d_Co_become_1 : decode b_Co_become 1 = .ok (.iload_n 1, 1) := by decide +kernel
theorem d_Co_become_2 : decode b_Co_become 2 = .ok (.putfield 9, 3) := by decide +kernel
theorem d_Co_become_5 : decode b_Co_become 5 = .ok (.aload_n 0, 1) := by decide +kernel
theorem d_Co_become_6 : decode b_Co_become 6 = .ok (.iload_n 2, 1) := by decide +kernel
theorem d_Co_become_7 : decode b_Co_become 7 = .ok (.putfield 13, 3) := by decide +kernel
theorem d_Co_become_10 : decode b_Co_become 10 = .ok (.aload_n 0, 1) := by decide +kernel
theorem d_Co_become_11 : decode b_Co_become 11 = .ok (.lload_n 3, 1) := by decide +kernel
theorem d_Co_become_12 : decode b_Co_become 12 = .ok (.putfield 16, 3) := by decide +kernel
theorem d_Co_become_15 : decode b_Co_become 15 = .ok (.aload_n 0, 1) := by decide +kernel
theorem d_Co_become_16 : decode b_Co_become 16 = .ok (.lload 5, 2) := by decide +kernel
theorem d_Co_become_18 : decode b_Co_become 18 = .ok (.putfield 20, 3) := by decide +kernel
theorem d_Co_become_21 : decode b_Co_become 21 = .ok (.return_, 1) := by decide +kernel
theorem d_Co_holdsFor_0 : decode b_Co_holdsFor 0 = .ok (.aload_n 1, 1) := by decide +kernel
theorem d_Co_holdsFor_1 : decode b_Co_holdsFor 1 = .ok (.aload_n 0, 1) := by decide +kernel
theorem d_Co_holdsFor_2 : decode b_Co_holdsFor 2 = .ok (.getfield 9, 3) := by decide +kernel
theorem d_Co_holdsFor_5 : decode b_Co_holdsFor 5 = .ok (.invokevirtual 23, 3) := by decide +kernel
theorem d_Co_holdsFor_8 : decode b_Co_holdsFor 8 = .ok (.lstore_n 2, 1) := by decide +kernel
theorem d_Co_holdsFor_9 : decode b_Co_holdsFor 9 = .ok (.aload_n 0, 1) := by decide +kernel
theorem d_Co_holdsFor_10 : decode b_Co_holdsFor 10 = .ok (.getfield 13, 3) := by decide +kernel
theorem d_Co_holdsFor_13 : decode b_Co_holdsFor 13 = .ok (.tableswitch 121 0 5 #[39, 54, 69, 78, 95, 104], 39) := by decide +kernel
theorem d_Co_holdsFor_52 : decode b_Co_holdsFor 52 = .ok (.lload_n 2, 1) := by decide +kernel
theorem d_Co_holdsFor_53 : decode b_Co_holdsFor 53 = .ok (.aload_n 0, 1) := by decide +kernel
theorem d_Co_holdsFor_54 : decode b_Co_holdsFor 54 = .ok (.getfield 16, 3) := by decide +kernel
theorem d_Co_holdsFor_57 : decode b_Co_holdsFor 57 = .ok (.lcmp, 1) := by decide +kernel
theorem d_Co_holdsFor_58 : decode b_Co_holdsFor 58 = .ok (.ifCond .ne 7, 3) := by decide +kernel
theorem d_Co_holdsFor_61 : decode b_Co_holdsFor 61 = .ok (.iconst 1, 1) := by decide +kernel
theorem d_Co_holdsFor_62 : decode b_Co_holdsFor 62 = .ok (.goto 4, 3) := by decide +kernel
theorem d_Co_holdsFor_65 : decode b_Co_holdsFor 65 = .ok (.iconst 0, 1) := by decide +kernel
theorem d_Co_holdsFor_66 : decode b_Co_holdsFor 66 = .ok (.ireturn, 1) := by decide +kernel
theorem d_Co_holdsFor_67 : decode b_Co_holdsFor 67 = .ok (.lload_n 2, 1) := by decide +kernel
theorem d_Co_holdsFor_68 : decode b_Co_holdsFor 68 = .ok (.aload_n 0, 1) := by decide +kernel
theorem d_Co_holdsFor_69 : decode b_Co_holdsFor 69 = .ok (.getfield 16, 3) := by decide +kernel
theorem d_Co_holdsFor_72 : decode b_Co_holdsFor 72 = .ok (.lcmp, 1) := by decide +kernel
theorem d_Co_holdsFor_73 : decode b_Co_holdsFor 73 = .ok (.ifCond .eq 7, 3) := by decide +kernel
theorem d_Co_holdsFor_76 : decode b_Co_holdsFor 76 = .ok (.iconst 1, 1) := by decide +kernel
theorem d_Co_holdsFor_77 : decode b_Co_holdsFor 77 = .ok (.goto 4, 3) := by decide +kernel
theorem d_Co_holdsFor_80 : decode b_Co_holdsFor 80 = .ok (.iconst 0, 1) := by decide +kernel
theorem d_Co_holdsFor_81 : decode b_Co_holdsFor 81 = .ok (.ireturn, 1) := by decide +kernel
theorem d_Co_holdsFor_82 : decode b_Co_holdsFor 82 = .ok (.lload_n 2, 1) := by decide +kernel
theorem d_Co_holdsFor_83 : decode b_Co_holdsFor 83 = .ok (.aload_n 0, 1) := by decide +kernel
theorem d_Co_holdsFor_84 : decode b_Co_holdsFor 84 = .ok (.getfield 16, 3) := by decide +kernel
theorem d_Co_holdsFor_87 : decode b_Co_holdsFor 87 = .ok (.invokestatic 29, 3) := by decide +kernel
theorem d_Co_holdsFor_90 : decode b_Co_holdsFor 90 = .ok (.ireturn, 1) := by decide +kernel
theorem d_Co_holdsFor_91 : decode b_Co_holdsFor 91 = .ok (.aload_n 0, 1) := by decide +kernel
theorem d_Co_holdsFor_92 : decode b_Co_holdsFor 92 = .ok (.getfield 16, 3) := by decide +kernel
theorem d_Co_holdsFor_95 : decode b_Co_holdsFor 95 = .ok (.lload_n 2, 1) := by decide +kernel
theorem d_Co_holdsFor_96 : decode b_Co_holdsFor 96 = .ok (.invokestatic 29, 3) := by decide +kernel
theorem d_Co_holdsFor_99 : decode b_Co_holdsFor 99 = .ok (.ifCond .ne 7, 3) := by decide +kernel
theorem d_Co_holdsFor_102 : decode b_Co_holdsFor 102 = .ok (.iconst 1, 1) := by decide +kernel
theorem d_Co_holdsFor_103 : decode b_Co_holdsFor 103 = .ok (.goto 4, 3) := by decide +kernel
theorem d_Co_holdsFor_106 : decode b_Co_holdsFor 106 = .ok (.iconst 0, 1) := by decide +kernel
theorem d_Co_holdsFor_107 : decode b_Co_holdsFor 107 = .ok (.ireturn, 1) := by decide +kernel
theorem d_Co_holdsFor_108 : decode b_Co_holdsFor 108 = .ok (.aload_n 0, 1) := by decide +kernel
theorem d_Co_holdsFor_109 : decode b_Co_holdsFor 109 = .ok (.getfield 16, 3) := by decide +kernel
theorem d_Co_holdsFor_112 : decode b_Co_holdsFor 112 = .ok (.lload_n 2, 1) := by decide +kernel
theorem d_Co_holdsFor_113 : decode b_Co_holdsFor 113 = .ok (.invokestatic 29, 3) := by decide +kernel
theorem d_Co_holdsFor_116 : decode b_Co_holdsFor 116 = .ok (.ireturn, 1) := by decide +kernel
theorem d_Co_holdsFor_117 : decode b_Co_holdsFor 117 = .ok (.lload_n 2, 1) := by decide +kernel
theorem d_Co_holdsFor_118 : decode b_Co_holdsFor 118 = .ok (.aload_n 0, 1) := by decide +kernel
theorem d_Co_holdsFor_119 : decode b_Co_holdsFor 119 = .ok (.getfield 16, 3) := by decide +kernel
theorem d_Co_holdsFor_122 : decode b_Co_holdsFor 122 = .ok (.invokestatic 29, 3) := by decide +kernel
theorem d_Co_holdsFor_125 : decode b_Co_holdsFor 125 = .ok (.ifCond .ne 7, 3) := by decide +kernel
theorem d_Co_holdsFor_128 : decode b_Co_holdsFor 128 = .ok (.iconst 1, 1) := by decide +kernel
theorem d_Co_holdsFor_129 : decode b_Co_holdsFor 129 = .ok (.goto 4, 3) := by decide +kernel
theorem d_Co_holdsFor_132 : decode b_Co_holdsFor 132 = .ok (.iconst 0, 1) := by decide +kernel
theorem d_Co_holdsFor_133 : decode b_Co_holdsFor 133 = .ok (.ireturn, 1) := by decide +kernel
theorem d_Co_holdsFor_134 : decode b_Co_holdsFor 134 = .ok (.lload_n 2, 1) := by decide +kernel
theorem d_Co_holdsFor_135 : decode b_Co_holdsFor 135 = .ok (.aload_n 0, 1) := by decide +kernel
theorem d_Co_holdsFor_136 : decode b_Co_holdsFor 136 = .ok (.getfield 20, 3) := by decide +kernel
theorem d_Co_holdsFor_139 : decode b_Co_holdsFor 139 = .ok (.land, 1) := by decide +kernel
theorem d_Co_holdsFor_140 : decode b_Co_holdsFor 140 = .ok (.aload_n 0, 1) := by decide +kernel
theorem d_Co_holdsFor_141 : decode b_Co_holdsFor 141 = .ok (.getfield 16, 3) := by decide +kernel
theorem d_Co_holdsFor_144 : decode b_Co_holdsFor 144 = .ok (.lcmp, 1) := by decide +kernel
theorem d_Co_holdsFor_145 : decode b_Co_holdsFor 145 = .ok (.ifCond .ne 7, 3) := by decide +kernel
theorem d_Co_holdsFor_148 : decode b_Co_holdsFor 148 = .ok (.iconst 1, 1) := by decide +kernel
theorem d_Co_holdsFor_149 : decode b_Co_holdsFor 149 = .ok (.goto 4, 3) := by decide +kernel
theorem d_Co_holdsFor_152 : decode b_Co_holdsFor 152 = .ok (.iconst 0, 1) := by decide +kernel
theorem d_Co_holdsFor_153 : decode b_Co_holdsFor 153 = .ok (.ireturn, 1) := by decide +kernel
theorem d_Ru_become_0 : decode b_Ru_become 0 = .ok (.aload_n 0, 1) := by decide +kernel
theorem d_Ru_become_1 : decode b_Ru_become 1 = .ok (.iload_n 1, 1) := by decide +kernel
theorem d_Ru_become_2 : decode b_Ru_become 2 = .ok (.putfield 25, 3) := by decide +kernel
theorem d_Ru_become_5 : decode b_Ru_become 5 = .ok (.aload_n 0, 1) := by decide +kernel
theorem d_Ru_become_6 : decode b_Ru_become 6 = .ok (.iload_n 2, 1) := by decide +kernel
theorem d_Ru_become_7 : decode b_Ru_become 7 = .ok (.putfield 29, 3) := by decide +kernel
theorem d_Ru_become_10 : decode b_Ru_become 10 = .ok (.aload_n 0, 1) := by decide +kernel
theorem d_Ru_become_11 : decode b_Ru_become 11 = .ok (.getfield 12, 3) := by decide +kernel
theorem d_Ru_become_14 : decode b_Ru_become 14 = .ok (.iload_n 3, 1) := by decide +kernel
theorem d_Ru_become_15 : decode b_Ru_become 15 = .ok (.iload 4, 2) := by decide +kernel
theorem d_Ru_become_17 : decode b_Ru_become 17 = .ok (.invokevirtual 32, 3) := by decide +kernel
theorem d_Ru_become_20 : decode b_Ru_become 20 = .ok (.aload_n 0, 1) := by decide +kernel
theorem d_Ru_become_21 : decode b_Ru_become 21 = .ok (.iconst 0, 1) := by decide +kernel
theorem d_Ru_become_22 : decode b_Ru_become 22 = .ok (.putfield 36, 3) := by decide +kernel
theorem d_Ru_become_25 : decode b_Ru_become 25 = .ok (.return_, 1) := by decide +kernel
theorem d_Ru_add_0 : decode b_Ru_add 0 = .ok (.aload_n 0, 1) := by decide +kernel
theorem d_Ru_add_1 : decode b_Ru_add 1 = .ok (.getfield 20, 3) := by decide +kernel
theorem d_Ru_add_4 : decode b_Ru_add 4 = .ok (.aload_n 0, 1) := by decide +kernel
theorem d_Ru_add_5 : decode b_Ru_add 5 = .ok (.getfield 36, 3) := by decide +kernel
theorem d_Ru_add_8 : decode b_Ru_add 8 = .ok (.aaload, 1) := by decide +kernel
theorem d_Ru_add_9 : decode b_Ru_add 9 = .ok (.iload_n 1, 1) := by decide +kernel
theorem d_Ru_add_10 : decode b_Ru_add 10 = .ok (.iload_n 2, 1) := by decide +kernel
theorem d_Ru_add_11 : decode b_Ru_add 11 = .ok (.lload_n 3, 1) := by decide +kernel
theorem d_Ru_add_12 : decode b_Ru_add 12 = .ok (.lload 5, 2) := by decide +kernel
theorem d_Ru_add_14 : decode b_Ru_add 14 = .ok (.invokevirtual 39, 3) := by decide +kernel
theorem d_Ru_add_17 : decode b_Ru_add 17 = .ok (.aload_n 0, 1) := by decide +kernel
theorem d_Ru_add_18 : decode b_Ru_add 18 = .ok (.dup, 1) := by decide +kernel
theorem d_Ru_add_19 : decode b_Ru_add 19 = .ok (.getfield 36, 3) := by decide +kernel
theorem d_Ru_add_22 : decode b_Ru_add 22 = .ok (.iconst 1, 1) := by decide +kernel
theorem d_Ru_add_23 : decode b_Ru_add 23 = .ok (.iadd, 1) := by decide +kernel
theorem d_Ru_add_24 : decode b_Ru_add 24 = .ok (.putfield 36, 3) := by decide +kernel
theorem d_Ru_add_27 : decode b_Ru_add 27 = .ok (.return_, 1) := by decide +kernel
theorem d_Ru_matches_0 : decode b_Ru_matches 0 = .ok (.aload_n 1, 1) := by decide +kernel
theorem d_Ru_matches_1 : decode b_Ru_matches 1 = .ok (.invokevirtual 42, 3) := by decide +kernel
theorem d_Ru_matches_4 : decode b_Ru_matches 4 = .ok (.aload_n 0, 1) := by decide +kernel
theorem d_Ru_matches_5 : decode b_Ru_matches 5 = .ok (.getfield 25, 3) := by decide +kernel
theorem d_Ru_matches_8 : decode b_Ru_matches 8 = .ok (.if_icmp .lt 14, 3) := by decide +kernel
theorem d_Ru_matches_11 : decode b_Ru_matches 11 = .ok (.aload_n 1, 1) := by decide +kernel
theorem d_Ru_matches_12 : decode b_Ru_matches 12 = .ok (.invokevirtual 42, 3) := by decide +kernel
theorem d_Ru_matches_15 : decode b_Ru_matches 15 = .ok (.aload_n 0, 1) := by decide +kernel
theorem d_Ru_matches_16 : decode b_Ru_matches 16 = .ok (.getfield 29, 3) := by decide +kernel
theorem d_Ru_matches_19 : decode b_Ru_matches 19 = .ok (.if_icmp .le 5, 3) := by decide +kernel
theorem d_Ru_matches_22 : decode b_Ru_matches 22 = .ok (.iconst 0, 1) := by decide +kernel
theorem d_Ru_matches_23 : decode b_Ru_matches 23 = .ok (.ireturn, 1) := by decide +kernel
theorem d_Ru_matches_24 : decode b_Ru_matches 24 = .ok (.iconst 0, 1) := by decide +kernel
theorem d_Ru_matches_25 : decode b_Ru_matches 25 = .ok (.istore_n 2, 1) := by decide +kernel
theorem d_Ru_matches_26 : decode b_Ru_matches 26 = .ok (.iload_n 2, 1) := by decide +kernel
theorem d_Ru_matches_27 : decode b_Ru_matches 27 = .ok (.aload_n 0, 1) := by decide +kernel
theorem d_Ru_matches_28 : decode b_Ru_matches 28 = .ok (.getfield 36, 3) := by decide +kernel
theorem d_Ru_matches_31 : decode b_Ru_matches 31 = .ok (.if_icmp .ge 24, 3) := by decide +kernel
theorem d_Ru_matches_34 : decode b_Ru_matches 34 = .ok (.aload_n 0, 1) := by decide +kernel
theorem d_Ru_matches_35 : decode b_Ru_matches 35 = .ok (.getfield 20, 3) := by decide +kernel
theorem d_Ru_matches_38 : decode b_Ru_matches 38 = .ok (.iload_n 2, 1) := by decide +kernel
theorem d_Ru_matches_39 : decode b_Ru_matches 39 = .ok (.aaload, 1) := by decide +kernel
theorem d_Ru_matches_40 : decode b_Ru_matches 40 = .ok (.aload_n 1, 1) := by decide +kernel
theorem d_Ru_matches_41 : decode b_Ru_matches 41 = .ok (.invokevirtual 48, 3) := by decide +kernel
theorem d_Ru_matches_44 : decode b_Ru_matches 44 = .ok (.ifCond .ne 5, 3) := by decide +kernel
theorem d_Ru_matches_47 : decode b_Ru_matches 47 = .ok (.iconst 0, 1) := by decide +kernel
theorem d_Ru_matches_48 : decode b_Ru_matches 48 = .ok (.ireturn, 1) := by decide +kernel
theorem d_Ru_matches_49 : decode b_Ru_matches 49 = .ok (.iinc 2 1, 3) := by decide +kernel
theorem d_Ru_matches_52 : decode b_Ru_matches 52 = .ok (.goto (-26), 3) := by decide +kernel
theorem d_Ru_matches_55 : decode b_Ru_matches 55 = .ok (.iconst 1, 1) := by decide +kernel
theorem d_Ru_matches_56 : decode b_Ru_matches 56 = .ok (.ireturn, 1) := by decide +kernel
theorem d_Po_add_0 : decode b_Po_add 0 = .ok (.aload_n 0, 1) := by decide +kernel
theorem d_Po_add_1 : decode b_Po_add 1 = .ok (.getfield 25, 3) := by decide +kernel
theorem d_Po_add_4 : decode b_Po_add 4 = .ok (.aload_n 0, 1) := by decide +kernel
theorem d_Po_add_5 : decode b_Po_add 5 = .ok (.getfield 34, 3) := by decide +kernel
theorem d_Po_add_8 : decode b_Po_add 8 = .ok (.aaload, 1) := by decide +kernel
theorem d_Po_add_9 : decode b_Po_add 9 = .ok (.iload_n 1, 1) := by decide +kernel
theorem d_Po_add_10 : decode b_Po_add 10 = .ok (.iload_n 2, 1) := by decide +kernel
theorem d_Po_add_11 : decode b_Po_add 11 = .ok (.iload_n 3, 1) := by decide +kernel
theorem d_Po_add_12 : decode b_Po_add 12 = .ok (.iload 4, 2) := by decide +kernel
theorem d_Po_add_14 : decode b_Po_add 14 = .ok (.invokevirtual 37, 3) := by decide +kernel
theorem d_Po_add_17 : decode b_Po_add 17 = .ok (.aload_n 0, 1) := by decide +kernel
theorem d_Po_add_18 : decode b_Po_add 18 = .ok (.dup, 1) := by decide +kernel
theorem d_Po_add_19 : decode b_Po_add 19 = .ok (.getfield 34, 3) := by decide +kernel
theorem d_Po_add_22 : decode b_Po_add 22 = .ok (.iconst 1, 1) := by decide +kernel
theorem d_Po_add_23 : decode b_Po_add 23 = .ok (.iadd, 1) := by decide +kernel
theorem d_Po_add_24 : decode b_Po_add 24 = .ok (.putfield 34, 3) := by decide +kernel
theorem d_Po_add_27 : decode b_Po_add 27 = .ok (.aload_n 0, 1) := by decide +kernel
theorem d_Po_add_28 : decode b_Po_add 28 = .ok (.getfield 34, 3) := by decide +kernel
theorem d_Po_add_31 : decode b_Po_add 31 = .ok (.iconst 1, 1) := by decide +kernel
theorem d_Po_add_32 : decode b_Po_add 32 = .ok (.isub, 1) := by decide +kernel
theorem d_Po_add_33 : decode b_Po_add 33 = .ok (.ireturn, 1) := by decide +kernel
theorem d_Po_isStricter_0 : decode b_Po_isStricter 0 = .ok (.iload_n 2, 1) := by decide +kernel
theorem d_Po_isStricter_1 : decode b_Po_isStricter 1 = .ok (.iconst (-1), 1) := by decide +kernel
theorem d_Po_isStricter_2 : decode b_Po_isStricter 2 = .ok (.if_icmp .eq 30, 3) := by decide +kernel
theorem d_Po_isStricter_5 : decode b_Po_isStricter 5 = .ok (.aload_n 0, 1) := by decide +kernel
theorem d_Po_isStricter_6 : decode b_Po_isStricter 6 = .ok (.getfield 25, 3) := by decide +kernel
theorem d_Po_isStricter_9 : decode b_Po_isStricter 9 = .ok (.iload_n 1, 1) := by decide +kernel
theorem d_Po_isStricter_10 : decode b_Po_isStricter 10 = .ok (.aaload, 1) := by decide +kernel
theorem d_Po_isStricter_11 : decode b_Po_isStricter 11 = .ok (.getfield 55, 3) := by decide +kernel
theorem d_Po_isStricter_14 : decode b_Po_isStricter 14 = .ok (.getfield 58, 3) := by decide +kernel
theorem d_Po_isStricter_17 : decode b_Po_isStricter 17 = .ok (.aload_n 0, 1) := by decide +kernel
theorem d_Po_isStricter_18 : decode b_Po_isStricter 18 = .ok (.getfield 25, 3) := by decide +kernel
theorem d_Po_isStricter_21 : decode b_Po_isStricter 21 = .ok (.iload_n 2, 1) := by decide +kernel
theorem d_Po_isStricter_22 : decode b_Po_isStricter 22 = .ok (.aaload, 1) := by decide +kernel
theorem d_Po_isStricter_23 : decode b_Po_isStricter 23 = .ok (.getfield 55, 3) := by decide +kernel
theorem d_Po_isStricter_26 : decode b_Po_isStricter 26 = .ok (.getfield 58, 3) := by decide +kernel
theorem d_Po_isStricter_29 : decode b_Po_isStricter 29 = .ok (.if_icmp .ge 7, 3) := by decide +kernel
theorem d_Po_isStricter_32 : decode b_Po_isStricter 32 = .ok (.iconst 1, 1) := by decide +kernel
theorem d_Po_isStricter_33 : decode b_Po_isStricter 33 = .ok (.goto 4, 3) := by decide +kernel
theorem d_Po_isStricter_36 : decode b_Po_isStricter 36 = .ok (.iconst 0, 1) := by decide +kernel
theorem d_Po_isStricter_37 : decode b_Po_isStricter 37 = .ok (.ireturn, 1) := by decide +kernel
theorem d_Po_actionOf_0 : decode b_Po_actionOf 0 = .ok (.iload_n 1, 1) := by decide +kernel
theorem d_Po_actionOf_1 : decode b_Po_actionOf 1 = .ok (.bipush (-2), 2) := by decide +kernel
theorem d_Po_actionOf_3 : decode b_Po_actionOf 3 = .ok (.if_icmp .ne 8, 3) := by decide +kernel
theorem d_Po_actionOf_6 : decode b_Po_actionOf 6 = .ok (.aload_n 0, 1) := by decide +kernel
theorem d_Po_actionOf_7 : decode b_Po_actionOf 7 = .ok (.getfield 20, 3) := by decide +kernel
theorem d_Po_actionOf_10 : decode b_Po_actionOf 10 = .ok (.areturn, 1) := by decide +kernel
theorem d_Po_actionOf_11 : decode b_Po_actionOf 11 = .ok (.iload_n 1, 1) := by decide +kernel
theorem d_Po_actionOf_12 : decode b_Po_actionOf 12 = .ok (.iconst (-1), 1) := by decide +kernel
theorem d_Po_actionOf_13 : decode b_Po_actionOf 13 = .ok (.if_icmp .ne 10, 3) := by decide +kernel
theorem d_Po_actionOf_16 : decode b_Po_actionOf 16 = .ok (.aload_n 0, 1) := by decide +kernel
theorem d_Po_actionOf_17 : decode b_Po_actionOf 17 = .ok (.getfield 14, 3) := by decide +kernel
theorem d_Po_actionOf_20 : decode b_Po_actionOf 20 = .ok (.goto 12, 3) := by decide +kernel
theorem d_Po_actionOf_23 : decode b_Po_actionOf 23 = .ok (.aload_n 0, 1) := by decide +kernel
theorem d_Po_actionOf_24 : decode b_Po_actionOf 24 = .ok (.getfield 25, 3) := by decide +kernel
theorem d_Po_actionOf_27 : decode b_Po_actionOf 27 = .ok (.iload_n 1, 1) := by decide +kernel
theorem d_Po_actionOf_28 : decode b_Po_actionOf 28 = .ok (.aaload, 1) := by decide +kernel
theorem d_Po_actionOf_29 : decode b_Po_actionOf 29 = .ok (.getfield 55, 3) := by decide +kernel
theorem d_Po_actionOf_32 : decode b_Po_actionOf 32 = .ok (.areturn, 1) := by decide +kernel
theorem d_Po_chooseFor_0 : decode b_Po_chooseFor 0 = .ok (.aload_n 1, 1) := by decide +kernel
theorem d_Po_chooseFor_1 : decode b_Po_chooseFor 1 = .ok (.aload_n 0, 1) := by decide +kernel
theorem d_Po_chooseFor_2 : decode b_Po_chooseFor 2 = .ok (.getfield 29, 3) := by decide +kernel
theorem d_Po_chooseFor_5 : decode b_Po_chooseFor 5 = .ok (.invokevirtual 41, 3) := by decide +kernel
theorem d_Po_chooseFor_8 : decode b_Po_chooseFor 8 = .ok (.ifCond .eq 6, 3) := by decide +kernel
theorem d_Po_chooseFor_11 : decode b_Po_chooseFor 11 = .ok (.bipush (-2), 2) := by decide +kernel
theorem d_Po_chooseFor_13 : decode b_Po_chooseFor 13 = .ok (.ireturn, 1) := by decide +kernel
theorem d_Po_chooseFor_14 : decode b_Po_chooseFor 14 = .ok (.iconst (-1), 1) := by decide +kernel
theorem d_Po_chooseFor_15 : decode b_Po_chooseFor 15 = .ok (.istore_n 2, 1) := by decide +kernel
theorem d_Po_chooseFor_16 : decode b_Po_chooseFor 16 = .ok (.iconst 0, 1) := by decide +kernel
theorem d_Po_chooseFor_17 : decode b_Po_chooseFor 17 = .ok (.istore_n 3, 1) := by decide +kernel
theorem d_Po_chooseFor_18 : decode b_Po_chooseFor 18 = .ok (.iload_n 3, 1) := by decide +kernel
theorem d_Po_chooseFor_19 : decode b_Po_chooseFor 19 = .ok (.aload_n 0, 1) := by decide +kernel
theorem d_Po_chooseFor_20 : decode b_Po_chooseFor 20 = .ok (.getfield 34, 3) := by decide +kernel
theorem d_Po_chooseFor_23 : decode b_Po_chooseFor 23 = .ok (.if_icmp .ge 33, 3) := by decide +kernel
theorem d_Po_chooseFor_26 : decode b_Po_chooseFor 26 = .ok (.aload_n 0, 1) := by decide +kernel
theorem d_Po_chooseFor_27 : decode b_Po_chooseFor 27 = .ok (.getfield 25, 3) := by decide +kernel
theorem d_Po_chooseFor_30 : decode b_Po_chooseFor 30 = .ok (.iload_n 3, 1) := by decide +kernel
theorem d_Po_chooseFor_31 : decode b_Po_chooseFor 31 = .ok (.aaload, 1) := by decide +kernel
theorem d_Po_chooseFor_32 : decode b_Po_chooseFor 32 = .ok (.aload_n 1, 1) := by decide +kernel
theorem d_Po_chooseFor_33 : decode b_Po_chooseFor 33 = .ok (.invokevirtual 47, 3) := by decide +kernel
theorem d_Po_chooseFor_36 : decode b_Po_chooseFor 36 = .ok (.ifCond .eq 14, 3) := by decide +kernel
theorem d_Po_chooseFor_39 : decode b_Po_chooseFor 39 = .ok (.aload_n 0, 1) := by decide +kernel
theorem d_Po_chooseFor_40 : decode b_Po_chooseFor 40 = .ok (.iload_n 3, 1) := by decide +kernel
theorem d_Po_chooseFor_41 : decode b_Po_chooseFor 41 = .ok (.iload_n 2, 1) := by decide +kernel
theorem d_Po_chooseFor_42 : decode b_Po_chooseFor 42 = .ok (.invokevirtual 51, 3) := by decide +kernel
theorem d_Po_chooseFor_45 : decode b_Po_chooseFor 45 = .ok (.ifCond .eq 5, 3) := by decide +kernel
theorem d_Po_chooseFor_48 : decode b_Po_chooseFor 48 = .ok (.iload_n 3, 1) := by decide +kernel
theorem d_Po_chooseFor_49 : decode b_Po_chooseFor 49 = .ok (.istore_n 2, 1) := by decide +kernel
theorem d_Po_chooseFor_50 : decode b_Po_chooseFor 50 = .ok (.iinc 3 1, 3) := by decide +kernel
theorem d_Po_chooseFor_53 : decode b_Po_chooseFor 53 = .ok (.goto (-35), 3) := by decide +kernel
theorem d_Po_chooseFor_56 : decode b_Po_chooseFor 56 = .ok (.iload_n 2, 1) := by decide +kernel
theorem d_Po_chooseFor_57 : decode b_Po_chooseFor 57 = .ok (.ireturn, 1) := by decide +kernel
def m_Ac_become_d (P : PT) (kd : Int32) (dt : Int32) : PT := (P.1, P.2.1, (kd, dt), P.2.2.2.1, P.2.2.2.2)
set_option maxHeartbeats 4000000 in
set_option maxRecDepth 100000 in
theorem c_Ac_become_d (l : Launch) (D : va_G) (dA : Nat → ClassId) (ad : Nat → Nat) (A : Nat → Prop) (hAd : AdOK 49 ad A) (w : Nat → Int32) (P : PT) (g : GT) (ss : Nat → Int32) (M : MT) (kd : Int32) (dt : Int32) : Met l y_Ac_become (mW y_Ac_become b_Ac_become 3 none) { frames := 0, cells := 0, slots := 0, locals := 0 } (va_Pc [.ref (ad 4), .int kd, .int dt] (fun U => CG D dA ad w P g ss M U)) (va_Qv (fun u : PT => u = m_Ac_become_d P kd dt) (fun u t => CG D dA ad w u g ss M t) A) 0 0 A := by
  refine Met.ofW (cc := b_Ac_become) (maxL := 3) (ret := none) (by decide) rfl ?_
  intro p e s m args below meth c s₁ B hml hv
  obtain ⟨rfl, hP, hK, hN⟩ := hv
  have hx := B.exec
  have hb := B.bytes
  have hr := B.returns
  have hlocks := B.notSynchronized
  have hts := fun (w : Cond) (h : w ∈ lw_g) => atoms_spec (ws := mW y_Ac_become b_Ac_become 3 none) B.pre w (List.mem_cons_of_mem _ h)
  have hown : s.vm.findClass R_Ac = some m.cls := findClass_of_methodNamed B.named
  have hS : va_S A s.heap s.heap [] := va_S.rf
  have hl := lv_entry ([.ref (ad 4), .int kd, .int dt]) (n := 3) (Nat.le_of_ble_eq_true rfl)
  rw [lg_entry_eq]
  generalize (lg_sl ([.ref (ad 4), .int kd, .int dt]) ++ List.replicate (3 - (lg_sl ([.ref (ad 4), .int kd, .int dt])).length) Slot.unset).toArray = ls at hl ⊢
  have hl : lv_has ls 3 [(0, .ref (ad 4)), (1, .int kd), (2, .int dt)] := hl
  refine lv_aload_n hx hb d_Ac_become_0 rfl (lv_at hl 0 rfl) ?_
  refine lv_iload_n hx hb d_Ac_become_1 rfl (lv_at hl 1 rfl) ?_
  refine va_put (D := D) (ci := 0) (v := .int kd) (ty := .int) (C := R_Ac) (T := F_Ac) (N := 2) hx hb hts in_Ac t_Ac k_Ac n_Ac hown hK hP (wC_D hAd) hS 4 rfl rfl 0 (by decide) (hts _ wd_71) (fun _ h9 => h9) rfl (by decide +kernel) rfl rfl (Nat.le_of_ble_eq_true rfl) d_Ac_become_2 (fun H locs hP _ hS => ?_)
  have hP : va_P D cls (wC ad dA w (P.1, P.2.1, (kd, P.2.2.1.2), P.2.2.2.1, P.2.2.2.2) g ss M) H := hP
  refine lv_aload_n hx hb d_Ac_become_5 rfl (lv_at hl 0 rfl) ?_
  refine lv_iload_n hx hb d_Ac_become_6 rfl (lv_at hl 2 rfl) ?_
  refine va_put (D := D) (ci := 0) (v := .int dt) (ty := .int) (C := R_Ac) (T := F_Ac) (N := 2) hx hb hts in_Ac t_Ac k_Ac n_Ac hown hK hP (wC_D hAd) hS 4 rfl rfl 1 (by decide) (hts _ wd_73) (fun _ h9 => h9) rfl (by decide +kernel) rfl rfl (Nat.le_of_ble_eq_true rfl) d_Ac_become_7 (fun H locs hP _ hS => ?_)
  have hP : va_P D cls (wC ad dA w (P.1, P.2.1, (kd, dt), P.2.2.2.1, P.2.2.2.2) g ss M) H := hP
  exact W.vret hx hb hr (fun t ht hW => ⟨⟨_, rfl, (by rw [m_Ac_become_d]), CG_at hP hK hN ht hW⟩, hS.F ht⟩) hS.2.2 d_Ac_become_10
def m_Ac_become_f (P : PT) (kd : Int32) (dt : Int32) : PT := (P.1, P.2.1, P.2.2.1, (kd, dt), P.2.2.2.2)
set_option maxHeartbeats 4000000 in
set_option maxRecDepth 100000 in
theorem c_Ac_become_f (l : Launch) (D : va_G) (dA : Nat → ClassId) (ad : Nat → Nat) (A : Nat → Prop) (hAd : AdOK 49 ad A) (w : Nat → Int32) (P : PT) (g : GT) (ss : Nat → Int32) (M : MT) (kd : Int32) (dt : Int32) : Met l y_Ac_become (mW y_Ac_become b_Ac_become 3 none) { frames := 0, cells := 0, slots := 0, locals := 0 } (va_Pc [.ref (ad 5), .int kd, .int dt] (fun U => CG D dA ad w P g ss M U)) (va_Qv (fun u : PT => u = m_Ac_become_f P kd dt) (fun u t => CG D dA ad w u g ss M t) A) 0 0 A := by
  refine Met.ofW (cc := b_Ac_become) (maxL := 3) (ret := none) (by decide) rfl ?_
  intro p e s m args below meth c s₁ B hml hv
  obtain ⟨rfl, hP, hK, hN⟩ := hv
  have hx := B.exec
  have hb := B.bytes
  have hr := B.returns
  have hlocks := B.notSynchronized
  have hts := fun (w : Cond) (h : w ∈ lw_g) => atoms_spec (ws := mW y_Ac_become b_Ac_become 3 none) B.pre w (List.mem_cons_of_mem _ h)
  have hown : s.vm.findClass R_Ac = some m.cls := findClass_of_methodNamed B.named
  have hS : va_S A s.heap s.heap [] := va_S.rf
  have hl := lv_entry ([.ref (ad 5), .int kd, .int dt]) (n := 3) (Nat.le_of_ble_eq_true rfl)
  rw [lg_entry_eq]
  generalize (lg_sl ([.ref (ad 5), .int kd, .int dt]) ++ List.replicate (3 - (lg_sl ([.ref (ad 5), .int kd, .int dt])).length) Slot.unset).toArray = ls at hl ⊢
  have hl : lv_has ls 3 [(0, .ref (ad 5)), (1, .int kd), (2, .int dt)] := hl
  refine lv_aload_n hx hb d_Ac_become_0 rfl (lv_at hl 0 rfl) ?_
  refine lv_iload_n hx hb d_Ac_become_1 rfl (lv_at hl 1 rfl) ?_
  refine va_put (D := D) (ci := 0) (v := .int kd) (ty := .int) (C := R_Ac) (T := F_Ac) (N := 2) hx hb hts in_Ac t_Ac k_Ac n_Ac hown hK hP (wC_D hAd) hS 5 rfl rfl 0 (by decide) (hts _ wd_71) (fun _ h9 => h9) rfl (by decide +kernel) rfl rfl (Nat.le_of_ble_eq_true rfl) d_Ac_become_2 (fun H locs hP _ hS => ?_)
  have hP : va_P D cls (wC ad dA w (P.1, P.2.1, P.2.2.1, (kd, P.2.2.2.1.2), P.2.2.2.2) g ss M) H := hP
  refine lv_aload_n hx hb d_Ac_become_5 rfl (lv_at hl 0 rfl) ?_
  refine lv_iload_n hx hb d_Ac_become_6 rfl (lv_at hl 2 rfl) ?_
  refine va_put (D := D) (ci := 0) (v := .int dt) (ty := .int) (C := R_Ac) (T := F_Ac) (N := 2) hx hb hts in_Ac t_Ac k_Ac n_Ac hown hK hP (wC_D hAd) hS 5 rfl rfl 1 (by decide) (hts _ wd_73) (fun _ h9 => h9) rfl (by decide +kernel) rfl rfl (Nat.le_of_ble_eq_true rfl) d_Ac_become_7 (fun H locs hP _ hS => ?_)
  have hP : va_P D cls (wC ad dA w (P.1, P.2.1, P.2.2.1, (kd, dt), P.2.2.2.2) g ss M) H := hP
  exact W.vret hx hb hr (fun t ht hW => ⟨⟨_, rfl, (by rw [m_Ac_become_f]), CG_at hP hK hN ht hW⟩, hS.F ht⟩) hS.2.2 d_Ac_become_10
def m_Ac_become_r (P : PT) (i : Nat) (kd : Int32) (dt : Int32) : PT := (P.1, P.2.1, P.2.2.1, P.2.2.2.1, updR P.2.2.2.2 i ((P.2.2.2.2 i).1, (P.2.2.2.2 i).2.1, (P.2.2.2.2 i).2.2.1, kd, dt, (P.2.2.2.2 i).2.2.2.2.2))
set_option maxHeartbeats 4000000 in
set_option maxRecDepth 100000 in
theorem c_Ac_become_r (l : Launch) (D : va_G) (dA : Nat → ClassId) (ad : Nat → Nat) (A : Nat → Prop) (hAd : AdOK 49 ad A) (w : Nat → Int32) (P : PT) (g : GT) (ss : Nat → Int32) (M : MT) (i : Nat) (kd : Int32) (dt : Int32) (hi : i < 6) : Met l y_Ac_become (mW y_Ac_become b_Ac_become 3 none) { frames := 0, cells := 0, slots := 0, locals := 0 } (va_Pc [.ref (ad (14 + 6 * i)), .int kd, .int dt] (fun U => CG D dA ad w P g ss M U)) (va_Qv (fun u : PT => u = m_Ac_become_r P i kd dt) (fun u t => CG D dA ad w u g ss M t) A) 0 0 A := by
  refine Met.ofW (cc := b_Ac_become) (maxL := 3) (ret := none) (by decide) rfl ?_
  intro p e s m args below meth c s₁ B hml hv
  obtain ⟨rfl, hP, hK, hN⟩ := hv
  have hx := B.exec
  have hb := B.bytes
  have hr := B.returns
  have hlocks := B.notSynchronized
  have hts := fun (w : Cond) (h : w ∈ lw_g) => atoms_spec (ws := mW y_Ac_become b_Ac_become 3 none) B.pre w (List.mem_cons_of_mem _ h)
  have hown : s.vm.findClass R_Ac = some m.cls := findClass_of_methodNamed B.named
  have hS : va_S A s.heap s.heap [] := va_S.rf
  have hl := lv_entry ([.ref (ad (14 + 6 * i)), .int kd, .int dt]) (n := 3) (Nat.le_of_ble_eq_true rfl)
  rw [lg_entry_eq]
  generalize (lg_sl ([.ref (ad (14 + 6 * i)), .int kd, .int dt]) ++ List.replicate (3 - (lg_sl ([.ref (ad (14 + 6 * i)), .int kd, .int dt])).length) Slot.unset).toArray = ls at hl ⊢
  have hl : lv_has ls 3 [(0, .ref (ad (14 + 6 * i))), (1, .int kd), (2, .int dt)] := hl
  have hP : va_P D cls (wC ad dA w (P.1, P.2.1, P.2.2.1, P.2.2.2.1, updR P.2.2.2.2 i ((P.2.2.2.2 i).1, (P.2.2.2.2 i).2.1, (P.2.2.2.2 i).2.2.1, (P.2.2.2.2 i).2.2.2.1, (P.2.2.2.2 i).2.2.2.2.1, (P.2.2.2.2 i).2.2.2.2.2)) g ss M) s.heap := wF_in hP
  refine lv_aload_n hx hb d_Ac_become_0 rfl (lv_at hl 0 rfl) ?_
  refine lv_iload_n hx hb d_Ac_become_1 rfl (lv_at hl 1 rfl) ?_
  refine va_put (D := D) (ci := 0) (v := .int kd) (ty := .int) (C := R_Ac) (T := F_Ac) (N := 2) hx hb hts in_Ac t_Ac k_Ac n_Ac hown hK hP (wC_D hAd) hS (13 + 6 * i + 1) (wF_ra (by omega)) rfl 0 (by decide) (hts _ wd_71) (fun _ h9 => h9) rfl (by decide +kernel) rfl rfl (Nat.le_of_ble_eq_true rfl) d_Ac_become_2 (fun H locs hP _ hS => ?_)
  have hP : va_P D cls (wC ad dA w (P.1, P.2.1, P.2.2.1, P.2.2.2.1, updR P.2.2.2.2 i ((P.2.2.2.2 i).1, (P.2.2.2.2 i).2.1, (P.2.2.2.2 i).2.2.1, kd, (P.2.2.2.2 i).2.2.2.2.1, (P.2.2.2.2 i).2.2.2.2.2)) g ss M) H := wF_put (r := ((P.2.2.2.2 i).1, (P.2.2.2.2 i).2.1, (P.2.2.2.2 i).2.2.1, kd, (P.2.2.2.2 i).2.2.2.2.1, (P.2.2.2.2 i).2.2.2.2.2)) (by omega) 1 (by omega) (by rfl) hP
  refine lv_aload_n hx hb d_Ac_become_5 rfl (lv_at hl 0 rfl) ?_
  refine lv_iload_n hx hb d_Ac_become_6 rfl (lv_at hl 2 rfl) ?_
  refine va_put (D := D) (ci := 0) (v := .int dt) (ty := .int) (C := R_Ac) (T := F_Ac) (N := 2) hx hb hts in_Ac t_Ac k_Ac n_Ac hown hK hP (wC_D hAd) hS (13 + 6 * i + 1) (wF_ra (by omega)) rfl 1 (by decide) (hts _ wd_73) (fun _ h9 => h9) rfl (by decide +kernel) rfl rfl (Nat.le_of_ble_eq_true rfl) d_Ac_become_7 (fun H locs hP _ hS => ?_)
  have hP : va_P D cls (wC ad dA w (P.1, P.2.1, P.2.2.1, P.2.2.2.1, updR P.2.2.2.2 i ((P.2.2.2.2 i).1, (P.2.2.2.2 i).2.1, (P.2.2.2.2 i).2.2.1, kd, dt, (P.2.2.2.2 i).2.2.2.2.2)) g ss M) H := wF_put (r := ((P.2.2.2.2 i).1, (P.2.2.2.2 i).2.1, (P.2.2.2.2 i).2.2.1, kd, dt, (P.2.2.2.2 i).2.2.2.2.2)) (by omega) 1 (by omega) (by rfl) hP
  exact W.vret hx hb hr (fun t ht hW => ⟨⟨_, rfl, (by rw [m_Ac_become_r]), CG_at hP hK hN ht hW⟩, hS.F ht⟩) hS.2.2 d_Ac_become_10
theorem ac_foc {a b : Int32} {c d : Int32 × Int32} {R0 : Nat → RT} {i : Nat} {r : RT} {kd dt : Int32} : m_Ac_become_r (a, b, c, d, updR R0 i r) i kd dt = (a, b, c, d, updR R0 i (r.1, r.2.1, r.2.2.1, kd, dt, r.2.2.2.2.2)) := by
  unfold m_Ac_become_r
  dsimp only
  rw [updR_at, updR_two]
def m_Ac_asWord_d (P : PT) : Int64 := if P.2.2.1.1 < (2 : Int32) then (kwf P.2.2.1.1.toNatClampNeg) + ((0 : Int32).toInt64) else if (4 : Int32) < P.2.2.1.1 then (kwf P.2.2.1.1.toNatClampNeg) + ((0 : Int32).toInt64) else (kwf P.2.2.1.1.toNatClampNeg) + P.2.2.1.2.toInt64
set_option maxHeartbeats 4000000 in
set_option maxRecDepth 100000 in
theorem c_Ac_asWord_d (l : Launch) (D : va_G) (dA : Nat → ClassId) (ad : Nat → Nat) (kt : Nat) (w : Nat → Int32) (P : PT) (g : GT) (ss : Nat → Int32) (M : MT) (hk : vp_in P.2.2.1.1 7) : Met l y_Ac_asWord (mW y_Ac_asWord b_Ac_asWord 2 (some .long)) { frames := 0, cells := 0, slots := 0, locals := 0 } (va_Pc [.ref (ad 4)] (fun U => CG D dA ad w P g ss M U ∧ KW kt U)) (vp_Sl (fun r => r = m_Ac_asWord_d P)) 0 0 (fun _ => False) := by
  refine Met.ofW (cc := b_Ac_asWord) (maxL := 2) (ret := (some .long)) (by decide) rfl ?_
  intro p e s m args below meth c s₁ B hml hv
  obtain ⟨rfl, ⟨hP, hK, hN⟩, hkw⟩ := hv
  have hx := B.exec
  have hb := B.bytes
  have hr := B.returns
  have hlocks := B.notSynchronized
  have hts := fun (w : Cond) (h : w ∈ lw_g) => atoms_spec (ws := mW y_Ac_asWord b_Ac_asWord 2 (some .long)) B.pre w (List.mem_cons_of_mem _ h)
  have hown : s.vm.findClass R_Ac = some m.cls := findClass_of_methodNamed B.named
  have hZ := hkw.1
  have hT := hkw.2
  have hl := lv_entry ([.ref (ad 4)]) (n := 2) (Nat.le_of_ble_eq_true rfl)
  rw [lg_entry_eq]
  generalize (lg_sl ([.ref (ad 4)]) ++ List.replicate (2 - (lg_sl ([.ref (ad 4)])).length) Slot.unset).toArray = ls at hl ⊢
  have hl : lv_has ls 2 [(0, .ref (ad 4))] := hl
  refine lv_iconst (v := 2) hx hb d_Ac_asWord_0 (by decide) ?_
  refine lv_aload_n hx hb d_Ac_asWord_1 rfl (lv_at hl 0 rfl) ?_
  refine va_get (D := D) (ci := 0) (v := .int P.2.2.1.1) (C := R_Ac) (T := F_Ac) (N := 2) hx hb hts in_Ac hown hK hP 4 rfl rfl 0 (by decide) (hts _ wd_71) (fun _ h9 => h9) rfl d_Ac_asWord_2 ?_
  refine lv_icmp_gt (tgt := 20) hx hb d_Ac_asWord_5 (by decide) (fun h1 => ?_) (fun h1 => ?_)
  · refine lv_iconst (v := 0) hx hb d_Ac_asWord_20 (by decide) ?_
    refine lv_istore_n hx hb d_Ac_asWord_21 rfl hl (by decide) rfl (fun ls hl => ?_)
    have hl : lv_has ls 2 [(1, .int (0 : Int32)), (0, .ref (ad 4))] := hl
    refine va_gets hx hb hZ va_S.rf hown (hts _ wd_334) (fun _ h9 => h9) d_Ac_asWord_22 ?_
    refine lv_aload_n hx hb d_Ac_asWord_25 rfl (lv_at hl 1 rfl) ?_
    refine va_get (D := D) (ci := 0) (v := .int P.2.2.1.1) (C := R_Ac) (T := F_Ac) (N := 2) hx hb hts in_Ac hown hK hP 4 rfl rfl 0 (by decide) (hts _ wd_71) (fun _ h9 => h9) rfl d_Ac_asWord_26 ?_
    refine va_tl hx hb hT va_S.rf hk (v := .long (kwf P.2.2.1.1.toNatClampNeg)) rfl d_Ac_asWord_29 ?_
    refine lv_iload_n hx hb d_Ac_asWord_30 rfl (lv_at hl 0 rfl) ?_
    refine lv_if_eq (tgt := 41) hx hb d_Ac_asWord_31 (by decide) (fun _ => ?_) (fun h => absurd h (by decide))
    refine lv_iconst (v := 0) hx hb d_Ac_asWord_41 (by decide) ?_
    refine lv_i2l hx hb d_Ac_asWord_42 rfl ?_
    refine lv_ladd hx hb d_Ac_asWord_43 ?_
    exact W.lret hx hb hr (fun t ht hW => ⟨_, rfl, (by rw [m_Ac_asWord_d, if_pos h1]), ht⟩) (fun _ h => by cases h) d_Ac_asWord_44
  refine lv_aload_n hx hb d_Ac_asWord_8 rfl (lv_at hl 0 rfl) ?_
  refine va_get (D := D) (ci := 0) (v := .int P.2.2.1.1) (C := R_Ac) (T := F_Ac) (N := 2) hx hb hts in_Ac hown hK hP 4 rfl rfl 0 (by decide) (hts _ wd_71) (fun _ h9 => h9) rfl d_Ac_asWord_9 ?_
  refine lv_iconst (v := 4) hx hb d_Ac_asWord_12 (by decide) ?_
  refine lv_icmp_gt (tgt := 20) hx hb d_Ac_asWord_13 (by decide) (fun h2 => ?_) (fun h2 => ?_)
  · refine lv_iconst (v := 0) hx hb d_Ac_asWord_20 (by decide) ?_
    refine lv_istore_n hx hb d_Ac_asWord_21 rfl hl (by decide) rfl (fun ls hl => ?_)
    have hl : lv_has ls 2 [(1, .int (0 : Int32)), (0, .ref (ad 4))] := hl
    refine va_gets hx hb hZ va_S.rf hown (hts _ wd_334) (fun _ h9 => h9) d_Ac_asWord_22 ?_
    refine lv_aload_n hx hb d_Ac_asWord_25 rfl (lv_at hl 1 rfl) ?_
    refine va_get (D := D) (ci := 0) (v := .int P.2.2.1.1) (C := R_Ac) (T := F_Ac) (N := 2) hx hb hts in_Ac hown hK hP 4 rfl rfl 0 (by decide) (hts _ wd_71) (fun _ h9 => h9) rfl d_Ac_asWord_26 ?_
    refine va_tl hx hb hT va_S.rf hk (v := .long (kwf P.2.2.1.1.toNatClampNeg)) rfl d_Ac_asWord_29 ?_
    refine lv_iload_n hx hb d_Ac_asWord_30 rfl (lv_at hl 0 rfl) ?_
    refine lv_if_eq (tgt := 41) hx hb d_Ac_asWord_31 (by decide) (fun _ => ?_) (fun h => absurd h (by decide))
    refine lv_iconst (v := 0) hx hb d_Ac_asWord_41 (by decide) ?_
    refine lv_i2l hx hb d_Ac_asWord_42 rfl ?_
    refine lv_ladd hx hb d_Ac_asWord_43 ?_
    exact W.lret hx hb hr (fun t ht hW => ⟨_, rfl, (by rw [m_Ac_asWord_d, if_neg h1, if_pos h2]), ht⟩) (fun _ h => by cases h) d_Ac_asWord_44
  refine lv_iconst (v := 1) hx hb d_Ac_asWord_16 (by decide) ?_
  refine lv_goto (tgt := 21) hx hb d_Ac_asWord_17 (by decide) ?_
  refine lv_istore_n hx hb d_Ac_asWord_21 rfl hl (by decide) rfl (fun ls hl => ?_)
  have hl : lv_has ls 2 [(1, .int (1 : Int32)), (0, .ref (ad 4))] := hl
  refine va_gets hx hb hZ va_S.rf hown (hts _ wd_334) (fun _ h9 => h9) d_Ac_asWord_22 ?_
  refine lv_aload_n hx hb d_Ac_asWord_25 rfl (lv_at hl 1 rfl) ?_
  refine va_get (D := D) (ci := 0) (v := .int P.2.2.1.1) (C := R_Ac) (T := F_Ac) (N := 2) hx hb hts in_Ac hown hK hP 4 rfl rfl 0 (by decide) (hts _ wd_71) (fun _ h9 => h9) rfl d_Ac_asWord_26 ?_
  refine va_tl hx hb hT va_S.rf hk (v := .long (kwf P.2.2.1.1.toNatClampNeg)) rfl d_Ac_asWord_29 ?_
  refine lv_iload_n hx hb d_Ac_asWord_30 rfl (lv_at hl 0 rfl) ?_
  refine lv_if_eq (tgt := 41) hx hb d_Ac_asWord_31 (by decide) (fun h => absurd h (by decide)) (fun _ => ?_)
  refine lv_aload_n hx hb d_Ac_asWord_34 rfl (lv_at hl 1 rfl) ?_
  refine va_get (D := D) (ci := 0) (v := .int P.2.2.1.2) (C := R_Ac) (T := F_Ac) (N := 2) hx hb hts in_Ac hown hK hP 4 rfl rfl 1 (by decide) (hts _ wd_73) (fun _ h9 => h9) rfl d_Ac_asWord_35 ?_
  refine lv_goto (tgt := 42) hx hb d_Ac_asWord_38 (by decide) ?_
  refine lv_i2l hx hb d_Ac_asWord_42 rfl ?_
  refine lv_ladd hx hb d_Ac_asWord_43 ?_
  exact W.lret hx hb hr (fun t ht hW => ⟨_, rfl, (by rw [m_Ac_asWord_d, if_neg h1, if_neg h2]), ht⟩) (fun _ h => by cases h) d_Ac_asWord_44
def m_Ac_asWord_f (P : PT) : Int64 := if P.2.2.2.1.1 < (2 : Int32) then (kwf P.2.2.2.1.1.toNatClampNeg) + ((0 : Int32).toInt64) else if (4 : Int32) < P.2.2.2.1.1 then (kwf P.2.2.2.1.1.toNatClampNeg) + ((0 : Int32).toInt64) else (kwf P.2.2.2.1.1.toNatClampNeg) + P.2.2.2.1.2.toInt64
set_option maxHeartbeats 4000000 in
set_option maxRecDepth 100000 in
theorem c_Ac_asWord_f (l : Launch) (D : va_G) (dA : Nat → ClassId) (ad : Nat → Nat) (kt : Nat) (w : Nat → Int32) (P : PT) (g : GT) (ss : Nat → Int32) (M : MT) (hk : vp_in P.2.2.2.1.1 7) : Met l y_Ac_asWord (mW y_Ac_asWord b_Ac_asWord 2 (some .long)) { frames := 0, cells := 0, slots := 0, locals := 0 } (va_Pc [.ref (ad 5)] (fun U => CG D dA ad w P g ss M U ∧ KW kt U)) (vp_Sl (fun r => r = m_Ac_asWord_f P)) 0 0 (fun _ => False) := by
  refine Met.ofW (cc := b_Ac_asWord) (maxL := 2) (ret := (some .long)) (by decide) rfl ?_
  intro p e s m args below meth c s₁ B hml hv
  obtain ⟨rfl, ⟨hP, hK, hN⟩, hkw⟩ := hv
  have hx := B.exec
  have hb := B.bytes
  have hr := B.returns
  have hlocks := B.notSynchronized
  have hts := fun (w : Cond) (h : w ∈ lw_g) => atoms_spec (ws := mW y_Ac_asWord b_Ac_asWord 2 (some .long)) B.pre w (List.mem_cons_of_mem _ h)
  have hown : s.vm.findClass R_Ac = some m.cls := findClass_of_methodNamed B.named
  have hZ := hkw.1
  have hT := hkw.2
  have hl := lv_entry ([.ref (ad 5)]) (n := 2) (Nat.le_of_ble_eq_true rfl)
  rw [lg_entry_eq]
  generalize (lg_sl ([.ref (ad 5)]) ++ List.replicate (2 - (lg_sl ([.ref (ad 5)])).length) Slot.unset).toArray = ls at hl ⊢
  have hl : lv_has ls 2 [(0, .ref (ad 5))] := hl
  refine lv_iconst (v := 2) hx hb d_Ac_asWord_0 (by decide) ?_
  refine lv_aload_n hx hb d_Ac_asWord_1 rfl (lv_at hl 0 rfl) ?_
  refine va_get (D := D) (ci := 0) (v := .int P.2.2.2.1.1) (C := R_Ac) (T := F_Ac) (N := 2) hx hb hts in_Ac hown hK hP 5 rfl rfl 0 (by decide) (hts _ wd_71) (fun _ h9 => h9) rfl d_Ac_asWord_2 ?_
  refine lv_icmp_gt (tgt := 20) hx hb d_Ac_asWord_5 (by decide) (fun h1 => ?_) (fun h1 => ?_)
  · refine lv_iconst (v := 0) hx hb d_Ac_asWord_20 (by decide) ?_
    refine lv_istore_n hx hb d_Ac_asWord_21 rfl hl (by decide) rfl (fun ls hl => ?_)
    have hl : lv_has ls 2 [(1, .int (0 : Int32)), (0, .ref (ad 5))] := hl
    refine va_gets hx hb hZ va_S.rf hown (hts _ wd_334) (fun _ h9 => h9) d_Ac_asWord_22 ?_
    refine lv_aload_n hx hb d_Ac_asWord_25 rfl (lv_at hl 1 rfl) ?_
    refine va_get (D := D) (ci := 0) (v := .int P.2.2.2.1.1) (C := R_Ac) (T := F_Ac) (N := 2) hx hb hts in_Ac hown hK hP 5 rfl rfl 0 (by decide) (hts _ wd_71) (fun _ h9 => h9) rfl d_Ac_asWord_26 ?_
    refine va_tl hx hb hT va_S.rf hk (v := .long (kwf P.2.2.2.1.1.toNatClampNeg)) rfl d_Ac_asWord_29 ?_
    refine lv_iload_n hx hb d_Ac_asWord_30 rfl (lv_at hl 0 rfl) ?_
    refine lv_if_eq (tgt := 41) hx hb d_Ac_asWord_31 (by decide) (fun _ => ?_) (fun h => absurd h (by decide))
    refine lv_iconst (v := 0) hx hb d_Ac_asWord_41 (by decide) ?_
    refine lv_i2l hx hb d_Ac_asWord_42 rfl ?_
    refine lv_ladd hx hb d_Ac_asWord_43 ?_
    exact W.lret hx hb hr (fun t ht hW => ⟨_, rfl, (by rw [m_Ac_asWord_f, if_pos h1]), ht⟩) (fun _ h => by cases h) d_Ac_asWord_44
  refine lv_aload_n hx hb d_Ac_asWord_8 rfl (lv_at hl 0 rfl) ?_
  refine va_get (D := D) (ci := 0) (v := .int P.2.2.2.1.1) (C := R_Ac) (T := F_Ac) (N := 2) hx hb hts in_Ac hown hK hP 5 rfl rfl 0 (by decide) (hts _ wd_71) (fun _ h9 => h9) rfl d_Ac_asWord_9 ?_
  refine lv_iconst (v := 4) hx hb d_Ac_asWord_12 (by decide) ?_
  refine lv_icmp_gt (tgt := 20) hx hb d_Ac_asWord_13 (by decide) (fun h2 => ?_) (fun h2 => ?_)
  · refine lv_iconst (v := 0) hx hb d_Ac_asWord_20 (by decide) ?_
    refine lv_istore_n hx hb d_Ac_asWord_21 rfl hl (by decide) rfl (fun ls hl => ?_)
    have hl : lv_has ls 2 [(1, .int (0 : Int32)), (0, .ref (ad 5))] := hl
    refine va_gets hx hb hZ va_S.rf hown (hts _ wd_334) (fun _ h9 => h9) d_Ac_asWord_22 ?_
    refine lv_aload_n hx hb d_Ac_asWord_25 rfl (lv_at hl 1 rfl) ?_
    refine va_get (D := D) (ci := 0) (v := .int P.2.2.2.1.1) (C := R_Ac) (T := F_Ac) (N := 2) hx hb hts in_Ac hown hK hP 5 rfl rfl 0 (by decide) (hts _ wd_71) (fun _ h9 => h9) rfl d_Ac_asWord_26 ?_
    refine va_tl hx hb hT va_S.rf hk (v := .long (kwf P.2.2.2.1.1.toNatClampNeg)) rfl d_Ac_asWord_29 ?_
    refine lv_iload_n hx hb d_Ac_asWord_30 rfl (lv_at hl 0 rfl) ?_
    refine lv_if_eq (tgt := 41) hx hb d_Ac_asWord_31 (by decide) (fun _ => ?_) (fun h => absurd h (by decide))
    refine lv_iconst (v := 0) hx hb d_Ac_asWord_41 (by decide) ?_
    refine lv_i2l hx hb d_Ac_asWord_42 rfl ?_
    refine lv_ladd hx hb d_Ac_asWord_43 ?_
    exact W.lret hx hb hr (fun t ht hW => ⟨_, rfl, (by rw [m_Ac_asWord_f, if_neg h1, if_pos h2]), ht⟩) (fun _ h => by cases h) d_Ac_asWord_44
  refine lv_iconst (v := 1) hx hb d_Ac_asWord_16 (by decide) ?_
  refine lv_goto (tgt := 21) hx hb d_Ac_asWord_17 (by decide) ?_
  refine lv_istore_n hx hb d_Ac_asWord_21 rfl hl (by decide) rfl (fun ls hl => ?_)
  have hl : lv_has ls 2 [(1, .int (1 : Int32)), (0, .ref (ad 5))] := hl
  refine va_gets hx hb hZ va_S.rf hown (hts _ wd_334) (fun _ h9 => h9) d_Ac_asWord_22 ?_
  refine lv_aload_n hx hb d_Ac_asWord_25 rfl (lv_at hl 1 rfl) ?_
  refine va_get (D := D) (ci := 0) (v := .int P.2.2.2.1.1) (C := R_Ac) (T := F_Ac) (N := 2) hx hb hts in_Ac hown hK hP 5 rfl rfl 0 (by decide) (hts _ wd_71) (fun _ h9 => h9) rfl d_Ac_asWord_26 ?_
  refine va_tl hx hb hT va_S.rf hk (v := .long (kwf P.2.2.2.1.1.toNatClampNeg)) rfl d_Ac_asWord_29 ?_
  refine lv_iload_n hx hb d_Ac_asWord_30 rfl (lv_at hl 0 rfl) ?_
  refine lv_if_eq (tgt := 41) hx hb d_Ac_asWord_31 (by decide) (fun h => absurd h (by decide)) (fun _ => ?_)
  refine lv_aload_n hx hb d_Ac_asWord_34 rfl (lv_at hl 1 rfl) ?_
  refine va_get (D := D) (ci := 0) (v := .int P.2.2.2.1.2) (C := R_Ac) (T := F_Ac) (N := 2) hx hb hts in_Ac hown hK hP 5 rfl rfl 1 (by decide) (hts _ wd_73) (fun _ h9 => h9) rfl d_Ac_asWord_35 ?_
  refine lv_goto (tgt := 42) hx hb d_Ac_asWord_38 (by decide) ?_
  refine lv_i2l hx hb d_Ac_asWord_42 rfl ?_
  refine lv_ladd hx hb d_Ac_asWord_43 ?_
  exact W.lret hx hb hr (fun t ht hW => ⟨_, rfl, (by rw [m_Ac_asWord_f, if_neg h1, if_neg h2]), ht⟩) (fun _ h => by cases h) d_Ac_asWord_44
def m_Ac_asWord_r (P : PT) (i : Nat) : Int64 := if ((P.2.2.2.2 i).2.2.2.1) < (2 : Int32) then (kwf ((P.2.2.2.2 i).2.2.2.1).toNatClampNeg) + ((0 : Int32).toInt64) else if (4 : Int32) < ((P.2.2.2.2 i).2.2.2.1) then (kwf ((P.2.2.2.2 i).2.2.2.1).toNatClampNeg) + ((0 : Int32).toInt64) else (kwf ((P.2.2.2.2 i).2.2.2.1).toNatClampNeg) + (((P.2.2.2.2 i).2.2.2.2.1).toInt64)
set_option maxHeartbeats 4000000 in
set_option maxRecDepth 100000 in
theorem c_Ac_asWord_r (l : Launch) (D : va_G) (dA : Nat → ClassId) (ad : Nat → Nat) (kt : Nat) (w : Nat → Int32) (P : PT) (g : GT) (ss : Nat → Int32) (M : MT) (i : Nat) (hi : i < 6) (hk : vp_in (P.2.2.2.2 i).2.2.2.1 7) : Met l y_Ac_asWord (mW y_Ac_asWord b_Ac_asWord 2 (some .long)) { frames := 0, cells := 0, slots := 0, locals := 0 } (va_Pc [.ref (ad (14 + 6 * i))] (fun U => CG D dA ad w P g ss M U ∧ KW kt U)) (vp_Sl (fun r => r = m_Ac_asWord_r P i)) 0 0 (fun _ => False) := by
  refine Met.ofW (cc := b_Ac_asWord) (maxL := 2) (ret := (some .long)) (by decide) rfl ?_
  intro p e s m args below meth c s₁ B hml hv
  obtain ⟨rfl, ⟨hP, hK, hN⟩, hkw⟩ := hv
  have hx := B.exec
  have hb := B.bytes
  have hr := B.returns
  have hlocks := B.notSynchronized
  have hts := fun (w : Cond) (h : w ∈ lw_g) => atoms_spec (ws := mW y_Ac_asWord b_Ac_asWord 2 (some .long)) B.pre w (List.mem_cons_of_mem _ h)
  have hown : s.vm.findClass R_Ac = some m.cls := findClass_of_methodNamed B.named
  have hZ := hkw.1
  have hT := hkw.2
  have hl := lv_entry ([.ref (ad (14 + 6 * i))]) (n := 2) (Nat.le_of_ble_eq_true rfl)
  rw [lg_entry_eq]
  generalize (lg_sl ([.ref (ad (14 + 6 * i))]) ++ List.replicate (2 - (lg_sl ([.ref (ad (14 + 6 * i))])).length) Slot.unset).toArray = ls at hl ⊢
  have hl : lv_has ls 2 [(0, .ref (ad (14 + 6 * i)))] := hl
  refine lv_iconst (v := 2) hx hb d_Ac_asWord_0 (by decide) ?_
  refine lv_aload_n hx hb d_Ac_asWord_1 rfl (lv_at hl 0 rfl) ?_
  refine va_get (D := D) (ci := 0) (v := .int ((P.2.2.2.2 i).2.2.2.1)) (C := R_Ac) (T := F_Ac) (N := 2) hx hb hts in_Ac hown hK hP (13 + 6 * i + 1) (wC_ra (by omega)) rfl 0 (by decide) (hts _ wd_71) (fun _ h9 => h9) rfl d_Ac_asWord_2 ?_
  refine lv_icmp_gt (tgt := 20) hx hb d_Ac_asWord_5 (by decide) (fun h1 => ?_) (fun h1 => ?_)
  · refine lv_iconst (v := 0) hx hb d_Ac_asWord_20 (by decide) ?_
    refine lv_istore_n hx hb d_Ac_asWord_21 rfl hl (by decide) rfl (fun ls hl => ?_)
    have hl : lv_has ls 2 [(1, .int (0 : Int32)), (0, .ref (ad (14 + 6 * i)))] := hl
    refine va_gets hx hb hZ va_S.rf hown (hts _ wd_334) (fun _ h9 => h9) d_Ac_asWord_22 ?_
    refine lv_aload_n hx hb d_Ac_asWord_25 rfl (lv_at hl 1 rfl) ?_
    refine va_get (D := D) (ci := 0) (v := .int ((P.2.2.2.2 i).2.2.2.1)) (C := R_Ac) (T := F_Ac) (N := 2) hx hb hts in_Ac hown hK hP (13 + 6 * i + 1) (wC_ra (by omega)) rfl 0 (by decide) (hts _ wd_71) (fun _ h9 => h9) rfl d_Ac_asWord_26 ?_
    refine va_tl hx hb hT va_S.rf hk (v := .long (kwf ((P.2.2.2.2 i).2.2.2.1).toNatClampNeg)) rfl d_Ac_asWord_29 ?_
    refine lv_iload_n hx hb d_Ac_asWord_30 rfl (lv_at hl 0 rfl) ?_
    refine lv_if_eq (tgt := 41) hx hb d_Ac_asWord_31 (by decide) (fun _ => ?_) (fun h => absurd h (by decide))
    refine lv_iconst (v := 0) hx hb d_Ac_asWord_41 (by decide) ?_
    refine lv_i2l hx hb d_Ac_asWord_42 rfl ?_
    refine lv_ladd hx hb d_Ac_asWord_43 ?_
    exact W.lret hx hb hr (fun t ht hW => ⟨_, rfl, (by rw [m_Ac_asWord_r, if_pos h1]), ht⟩) (fun _ h => by cases h) d_Ac_asWord_44
  refine lv_aload_n hx hb d_Ac_asWord_8 rfl (lv_at hl 0 rfl) ?_
  refine va_get (D := D) (ci := 0) (v := .int ((P.2.2.2.2 i).2.2.2.1)) (C := R_Ac) (T := F_Ac) (N := 2) hx hb hts in_Ac hown hK hP (13 + 6 * i + 1) (wC_ra (by omega)) rfl 0 (by decide) (hts _ wd_71) (fun _ h9 => h9) rfl d_Ac_asWord_9 ?_
  refine lv_iconst (v := 4) hx hb d_Ac_asWord_12 (by decide) ?_
  refine lv_icmp_gt (tgt := 20) hx hb d_Ac_asWord_13 (by decide) (fun h2 => ?_) (fun h2 => ?_)
  · refine lv_iconst (v := 0) hx hb d_Ac_asWord_20 (by decide) ?_
    refine lv_istore_n hx hb d_Ac_asWord_21 rfl hl (by decide) rfl (fun ls hl => ?_)
    have hl : lv_has ls 2 [(1, .int (0 : Int32)), (0, .ref (ad (14 + 6 * i)))] := hl
    refine va_gets hx hb hZ va_S.rf hown (hts _ wd_334) (fun _ h9 => h9) d_Ac_asWord_22 ?_
    refine lv_aload_n hx hb d_Ac_asWord_25 rfl (lv_at hl 1 rfl) ?_
    refine va_get (D := D) (ci := 0) (v := .int ((P.2.2.2.2 i).2.2.2.1)) (C := R_Ac) (T := F_Ac) (N := 2) hx hb hts in_Ac hown hK hP (13 + 6 * i + 1) (wC_ra (by omega)) rfl 0 (by decide) (hts _ wd_71) (fun _ h9 => h9) rfl d_Ac_asWord_26 ?_
    refine va_tl hx hb hT va_S.rf hk (v := .long (kwf ((P.2.2.2.2 i).2.2.2.1).toNatClampNeg)) rfl d_Ac_asWord_29 ?_
    refine lv_iload_n hx hb d_Ac_asWord_30 rfl (lv_at hl 0 rfl) ?_
    refine lv_if_eq (tgt := 41) hx hb d_Ac_asWord_31 (by decide) (fun _ => ?_) (fun h => absurd h (by decide))
    refine lv_iconst (v := 0) hx hb d_Ac_asWord_41 (by decide) ?_
    refine lv_i2l hx hb d_Ac_asWord_42 rfl ?_
    refine lv_ladd hx hb d_Ac_asWord_43 ?_
    exact W.lret hx hb hr (fun t ht hW => ⟨_, rfl, (by rw [m_Ac_asWord_r, if_neg h1, if_pos h2]), ht⟩) (fun _ h => by cases h) d_Ac_asWord_44
  refine lv_iconst (v := 1) hx hb d_Ac_asWord_16 (by decide) ?_
  refine lv_goto (tgt := 21) hx hb d_Ac_asWord_17 (by decide) ?_
  refine lv_istore_n hx hb d_Ac_asWord_21 rfl hl (by decide) rfl (fun ls hl => ?_)
  have hl : lv_has ls 2 [(1, .int (1 : Int32)), (0, .ref (ad (14 + 6 * i)))] := hl
  refine va_gets hx hb hZ va_S.rf hown (hts _ wd_334) (fun _ h9 => h9) d_Ac_asWord_22 ?_
  refine lv_aload_n hx hb d_Ac_asWord_25 rfl (lv_at hl 1 rfl) ?_
  refine va_get (D := D) (ci := 0) (v := .int ((P.2.2.2.2 i).2.2.2.1)) (C := R_Ac) (T := F_Ac) (N := 2) hx hb hts in_Ac hown hK hP (13 + 6 * i + 1) (wC_ra (by omega)) rfl 0 (by decide) (hts _ wd_71) (fun _ h9 => h9) rfl d_Ac_asWord_26 ?_
  refine va_tl hx hb hT va_S.rf hk (v := .long (kwf ((P.2.2.2.2 i).2.2.2.1).toNatClampNeg)) rfl d_Ac_asWord_29 ?_
  refine lv_iload_n hx hb d_Ac_asWord_30 rfl (lv_at hl 0 rfl) ?_
  refine lv_if_eq (tgt := 41) hx hb d_Ac_asWord_31 (by decide) (fun h => absurd h (by decide)) (fun _ => ?_)
  refine lv_aload_n hx hb d_Ac_asWord_34 rfl (lv_at hl 1 rfl) ?_
  refine va_get (D := D) (ci := 0) (v := .int ((P.2.2.2.2 i).2.2.2.2.1)) (C := R_Ac) (T := F_Ac) (N := 2) hx hb hts in_Ac hown hK hP (13 + 6 * i + 1) (wC_ra (by omega)) rfl 1 (by decide) (hts _ wd_73) (fun _ h9 => h9) rfl d_Ac_asWord_35 ?_
  refine lv_goto (tgt := 42) hx hb d_Ac_asWord_38 (by decide) ?_
  refine lv_i2l hx hb d_Ac_asWord_42 rfl ?_
  refine lv_ladd hx hb d_Ac_asWord_43 ?_
  exact W.lret hx hb hr (fun t ht hW => ⟨_, rfl, (by rw [m_Ac_asWord_r, if_neg h1, if_neg h2]), ht⟩) (fun _ h => by cases h) d_Ac_asWord_44
def m_Co_become (P : PT) (i : Nat) (j : Nat) (pl : Int32) (op : Int32) (va : Int64) (mk : Int64) : PT := (P.1, P.2.1, P.2.2.1, P.2.2.2.1, updR P.2.2.2.2 i ((P.2.2.2.2 i).1, (P.2.2.2.2 i).2.1, (P.2.2.2.2 i).2.2.1, (P.2.2.2.2 i).2.2.2.1, (P.2.2.2.2 i).2.2.2.2.1, updC ((P.2.2.2.2 i).2.2.2.2.2) j (pl, op, va, mk)))
set_option maxHeartbeats 4000000 in
set_option maxRecDepth 100000 in
theorem c_Co_become (l : Launch) (D : va_G) (dA : Nat → ClassId) (ad : Nat → Nat) (A : Nat → Prop) (hAd : AdOK 49 ad A) (w : Nat → Int32) (P : PT) (g : GT) (ss : Nat → Int32) (M : MT) (i : Nat) (j : Nat) (pl : Int32) (op : Int32) (va : Int64) (mk : Int64) (hi : i < 6) (hj : j < 3) : Met l y_Co_become (mW y_Co_become b_Co_become 7 none) { frames := 0, cells := 0, slots := 0, locals := 0 } (va_Pc [.ref (ad (16 + 6 * i + j)), .int pl, .int op, .long va, .long mk] (fun U => CG D dA ad w P g ss M U)) (va_Qv (fun u : PT => u = m_Co_become P i j pl op va mk) (fun u t => CG D dA ad w u g ss M t) A) 0 0 A := by
  refine Met.ofW (cc := b_Co_become) (maxL := 7) (ret := none) (by decide) rfl ?_
  intro p e s m args below meth c s₁ B hml hv
  obtain ⟨rfl, hP, hK, hN⟩ := hv
  have hx := B.exec
  have hb := B.bytes
  have hr := B.returns
  have hlocks := B.notSynchronized
  have hts := fun (w : Cond) (h : w ∈ lw_g) => atoms_spec (ws := mW y_Co_become b_Co_become 7 none) B.pre w (List.mem_cons_of_mem _ h)
  have hown : s.vm.findClass R_Co = some m.cls := findClass_of_methodNamed B.named
  have hS : va_S A s.heap s.heap [] := va_S.rf
  have hl := lv_entry ([.ref (ad (16 + 6 * i + j)), .int pl, .int op, .long va, .long mk]) (n := 7) (Nat.le_of_ble_eq_true rfl)
  rw [lg_entry_eq]
  generalize (lg_sl ([.ref (ad (16 + 6 * i + j)), .int pl, .int op, .long va, .long mk]) ++ List.replicate (7 - (lg_sl ([.ref (ad (16 + 6 * i + j)), .int pl, .int op, .long va, .long mk])).length) Slot.unset).toArray = ls at hl ⊢
  have hl : lv_has ls 7 [(0, .ref (ad (16 + 6 * i + j))), (1, .int pl), (2, .int op), (3, .long va), (5, .long mk)] := hl
  have hP : va_P D cls (wC ad dA w (P.1, P.2.1, P.2.2.1, P.2.2.2.1, updR P.2.2.2.2 i ((P.2.2.2.2 i).1, (P.2.2.2.2 i).2.1, (P.2.2.2.2 i).2.2.1, (P.2.2.2.2 i).2.2.2.1, (P.2.2.2.2 i).2.2.2.2.1, (P.2.2.2.2 i).2.2.2.2.2)) g ss M) s.heap := wF_in hP
  refine lv_aload_n hx hb d_Co_become_0 rfl (lv_at hl 0 rfl) ?_
  refine lv_iload_n hx hb d_Co_become_1 rfl (lv_at hl 1 rfl) ?_
  refine va_put (D := D) (ci := 3) (v := .int pl) (ty := .int) (C := R_Co) (T := F_Co) (N := 4) hx hb hts in_Co t_Co k_Co n_Co hown hK hP (wC_D hAd) hS (13 + 6 * i + (3 + j)) (wF_co (by omega) (by omega)) rfl 0 (by decide) (hts _ wd_95) (fun _ h9 => h9) rfl (by decide +kernel) rfl rfl (Nat.le_of_ble_eq_true rfl) d_Co_become_2 (fun H locs hP _ hS => ?_)
  have hP : va_P D cls (wC ad dA w (P.1, P.2.1, P.2.2.1, P.2.2.2.1, updR P.2.2.2.2 i ((P.2.2.2.2 i).1, (P.2.2.2.2 i).2.1, (P.2.2.2.2 i).2.2.1, (P.2.2.2.2 i).2.2.2.1, (P.2.2.2.2 i).2.2.2.2.1, updC ((P.2.2.2.2 i).2.2.2.2.2) j (pl, (((P.2.2.2.2 i).2.2.2.2.2) j).2.1, (((P.2.2.2.2 i).2.2.2.2.2) j).2.2.1, (((P.2.2.2.2 i).2.2.2.2.2) j).2.2.2))) g ss M) H := wF_put (r := ((P.2.2.2.2 i).1, (P.2.2.2.2 i).2.1, (P.2.2.2.2 i).2.2.1, (P.2.2.2.2 i).2.2.2.1, (P.2.2.2.2 i).2.2.2.2.1, updC ((P.2.2.2.2 i).2.2.2.2.2) j (pl, (((P.2.2.2.2 i).2.2.2.2.2) j).2.1, (((P.2.2.2.2 i).2.2.2.2.2) j).2.2.1, (((P.2.2.2.2 i).2.2.2.2.2) j).2.2.2))) (by omega) (3 + j) (by omega) (by exact wR_co (by omega) (fun k hk => by simp only [updC, if_neg hk]) (by simp [updC])) hP
  refine lv_aload_n hx hb d_Co_become_5 rfl (lv_at hl 0 rfl) ?_
  refine lv_iload_n hx hb d_Co_become_6 rfl (lv_at hl 2 rfl) ?_
  refine va_put (D := D) (ci := 3) (v := .int op) (ty := .int) (C := R_Co) (T := F_Co) (N := 4) hx hb hts in_Co t_Co k_Co n_Co hown hK hP (wC_D hAd) hS (13 + 6 * i + (3 + j)) (wF_co (by omega) (by omega)) rfl 1 (by decide) (hts _ wd_96) (fun _ h9 => h9) rfl (by decide +kernel) rfl rfl (Nat.le_of_ble_eq_true rfl) d_Co_become_7 (fun H locs hP _ hS => ?_)
  have hP : va_P D cls (wC ad dA w (P.1, P.2.1, P.2.2.1, P.2.2.2.1, updR P.2.2.2.2 i ((P.2.2.2.2 i).1, (P.2.2.2.2 i).2.1, (P.2.2.2.2 i).2.2.1, (P.2.2.2.2 i).2.2.2.1, (P.2.2.2.2 i).2.2.2.2.1, updC ((P.2.2.2.2 i).2.2.2.2.2) j (pl, op, (((P.2.2.2.2 i).2.2.2.2.2) j).2.2.1, (((P.2.2.2.2 i).2.2.2.2.2) j).2.2.2))) g ss M) H := wF_put (r := ((P.2.2.2.2 i).1, (P.2.2.2.2 i).2.1, (P.2.2.2.2 i).2.2.1, (P.2.2.2.2 i).2.2.2.1, (P.2.2.2.2 i).2.2.2.2.1, updC ((P.2.2.2.2 i).2.2.2.2.2) j (pl, op, (((P.2.2.2.2 i).2.2.2.2.2) j).2.2.1, (((P.2.2.2.2 i).2.2.2.2.2) j).2.2.2))) (by omega) (3 + j) (by omega) (by exact wR_co (by omega) (fun k hk => by simp only [updC, if_neg hk]) (by simp [updC])) hP
  refine lv_aload_n hx hb d_Co_become_10 rfl (lv_at hl 0 rfl) ?_
  refine lv_lload_n hx hb d_Co_become_11 rfl (lv_at hl 3 rfl) ?_
  refine va_put (D := D) (ci := 3) (v := .long va) (ty := .long) (C := R_Co) (T := F_Co) (N := 4) hx hb hts in_Co t_Co k_Co n_Co hown hK hP (wC_D hAd) hS (13 + 6 * i + (3 + j)) (wF_co (by omega) (by omega)) rfl 2 (by decide) (hts _ wd_97) (fun _ h9 => h9) rfl (by decide +kernel) rfl rfl (Nat.le_of_ble_eq_true rfl) d_Co_become_12 (fun H locs hP _ hS => ?_)
  have hP : va_P D cls (wC ad dA w (P.1, P.2.1, P.2.2.1, P.2.2.2.1, updR P.2.2.2.2 i ((P.2.2.2.2 i).1, (P.2.2.2.2 i).2.1, (P.2.2.2.2 i).2.2.1, (P.2.2.2.2 i).2.2.2.1, (P.2.2.2.2 i).2.2.2.2.1, updC ((P.2.2.2.2 i).2.2.2.2.2) j (pl, op, va, (((P.2.2.2.2 i).2.2.2.2.2) j).2.2.2))) g ss M) H := wF_put (r := ((P.2.2.2.2 i).1, (P.2.2.2.2 i).2.1, (P.2.2.2.2 i).2.2.1, (P.2.2.2.2 i).2.2.2.1, (P.2.2.2.2 i).2.2.2.2.1, updC ((P.2.2.2.2 i).2.2.2.2.2) j (pl, op, va, (((P.2.2.2.2 i).2.2.2.2.2) j).2.2.2))) (by omega) (3 + j) (by omega) (by exact wR_co (by omega) (fun k hk => by simp only [updC, if_neg hk]) (by simp [updC])) hP
  refine lv_aload_n hx hb d_Co_become_15 rfl (lv_at hl 0 rfl) ?_
  refine lv_lload hx hb d_Co_become_16 (lv_at hl 4 rfl) ?_
  refine va_put (D := D) (ci := 3) (v := .long mk) (ty := .long) (C := R_Co) (T := F_Co) (N := 4) hx hb hts in_Co t_Co k_Co n_Co hown hK hP (wC_D hAd) hS (13 + 6 * i + (3 + j)) (wF_co (by omega) (by omega)) rfl 3 (by decide) (hts _ wd_98) (fun _ h9 => h9) rfl (by decide +kernel) rfl rfl (Nat.le_of_ble_eq_true rfl) d_Co_become_18 (fun H locs hP _ hS => ?_)
  have hP : va_P D cls (wC ad dA w (P.1, P.2.1, P.2.2.1, P.2.2.2.1, updR P.2.2.2.2 i ((P.2.2.2.2 i).1, (P.2.2.2.2 i).2.1, (P.2.2.2.2 i).2.2.1, (P.2.2.2.2 i).2.2.2.1, (P.2.2.2.2 i).2.2.2.2.1, updC ((P.2.2.2.2 i).2.2.2.2.2) j (pl, op, va, mk))) g ss M) H := wF_put (r := ((P.2.2.2.2 i).1, (P.2.2.2.2 i).2.1, (P.2.2.2.2 i).2.2.1, (P.2.2.2.2 i).2.2.2.1, (P.2.2.2.2 i).2.2.2.2.1, updC ((P.2.2.2.2 i).2.2.2.2.2) j (pl, op, va, mk))) (by omega) (3 + j) (by omega) (by exact wR_co (by omega) (fun k hk => by simp only [updC, if_neg hk]) (by simp [updC])) hP
  exact W.vret hx hb hr (fun t ht hW => ⟨⟨_, rfl, (by rw [m_Co_become]), CG_at hP hK hN ht hW⟩, hS.F ht⟩) hS.2.2 d_Co_become_21
theorem co_foc {a b : Int32} {c d : Int32 × Int32} {R0 : Nat → RT} {i j : Nat} {r : RT} {pl op : Int32} {va mk : Int64} : m_Co_become (a, b, c, d, updR R0 i r) i j pl op va mk = (a, b, c, d, updR R0 i (r.1, r.2.1, r.2.2.1, r.2.2.2.1, r.2.2.2.2.1, updC r.2.2.2.2.2 j (pl, op, va, mk))) := by
  unfold m_Co_become
  dsimp only
  rw [updR_at, updR_two]
def m_Co_holdsFor (w : Nat → Int32) (P : PT) (i : Nat) (j : Nat) : Int32 := if (((P.2.2.2.2 i).2.2.2.2.2 j).2.1) = (0 : Int32) then if (lg_cmp (m_Ca_getArgument w (((P.2.2.2.2 i).2.2.2.2.2 j).1)) (((P.2.2.2.2 i).2.2.2.2.2 j).2.2.1)) = (0 : Int32) then (1 : Int32) else (0 : Int32) else if (((P.2.2.2.2 i).2.2.2.2.2 j).2.1) = (1 : Int32) then if (lg_cmp (m_Ca_getArgument w (((P.2.2.2.2 i).2.2.2.2.2 j).1)) (((P.2.2.2.2 i).2.2.2.2.2 j).2.2.1)) = (0 : Int32) then (0 : Int32) else (1 : Int32) else if (((P.2.2.2.2 i).2.2.2.2.2 j).2.1) = (2 : Int32) then m_Co_isBelow (m_Ca_getArgument w (((P.2.2.2.2 i).2.2.2.2.2 j).1)) (((P.2.2.2.2 i).2.2.2.2.2 j).2.2.1) else if (((P.2.2.2.2 i).2.2.2.2.2 j).2.1) = (3 : Int32) then if (m_Co_isBelow (((P.2.2.2.2 i).2.2.2.2.2 j).2.2.1) (m_Ca_getArgument w (((P.2.2.2.2 i).2.2.2.2.2 j).1))) = (0 : Int32) then (1 : Int32) else (0 : Int32) else if (((P.2.2.2.2 i).2.2.2.2.2 j).2.1) = (4 : Int32) then m_Co_isBelow (((P.2.2.2.2 i).2.2.2.2.2 j).2.2.1) (m_Ca_getArgument w (((P.2.2.2.2 i).2.2.2.2.2 j).1)) else if (((P.2.2.2.2 i).2.2.2.2.2 j).2.1) = (5 : Int32) then if (m_Co_isBelow (m_Ca_getArgument w (((P.2.2.2.2 i).2.2.2.2.2 j).1)) (((P.2.2.2.2 i).2.2.2.2.2 j).2.2.1)) = (0 : Int32) then (1 : Int32) else (0 : Int32) else if (lg_cmp ((m_Ca_getArgument w (((P.2.2.2.2 i).2.2.2.2.2 j).1)) &&& (((P.2.2.2.2 i).2.2.2.2.2 j).2.2.2)) (((P.2.2.2.2 i).2.2.2.2.2 j).2.2.1)) = (0 : Int32) then (1 : Int32) else (0 : Int32)
set_option maxHeartbeats 4000000 in
set_option maxRecDepth 100000 in
theorem c_Co_holdsFor (l : Launch) (D : va_G) (dA : Nat → ClassId) (ad : Nat → Nat) (w : Nat → Int32) (P : PT) (g : GT) (ss : Nat → Int32) (M : MT) (i : Nat) (j : Nat) (hi : i < 6) (hj : j < 3) (hp : vp_in ((P.2.2.2.2 i).2.2.2.2.2 j).1 6) : Met l y_Co_holdsFor (mW y_Co_holdsFor b_Co_holdsFor 4 (some .boolean)) { frames := 2, cells := 0, slots := 0, locals := 42 } (va_Pc [.ref (ad (16 + 6 * i + j)), .ref (ad 1)] (fun U => CG D dA ad w P g ss M U)) (vp_Si (fun r => r = m_Co_holdsFor w P i j)) 0 0 (fun _ => False) := by
  refine Met.ofW (cc := b_Co_holdsFor) (maxL := 4) (ret := (some .boolean)) (by decide) rfl ?_
  intro p e s m args below meth c s₁ B hml hv
  obtain ⟨rfl, hP, hK, hN⟩ := hv
  have hx := B.exec
  have hb := B.bytes
  have hr := B.returns
  have hlocks := B.notSynchronized
  have hts := fun (w : Cond) (h : w ∈ lw_g) => atoms_spec (ws := mW y_Co_holdsFor b_Co_holdsFor 4 (some .boolean)) B.pre w (List.mem_cons_of_mem _ h)
  have hown : s.vm.findClass R_Co = some m.cls := findClass_of_methodNamed B.named
  have hl := lv_entry ([.ref (ad (16 + 6 * i + j)), .ref (ad 1)]) (n := 4) (Nat.le_of_ble_eq_true rfl)
  rw [lg_entry_eq]
  generalize (lg_sl ([.ref (ad (16 + 6 * i + j)), .ref (ad 1)]) ++ List.replicate (4 - (lg_sl ([.ref (ad (16 + 6 * i + j)), .ref (ad 1)])).length) Slot.unset).toArray = ls at hl ⊢
  have hl : lv_has ls 4 [(0, .ref (ad (16 + 6 * i + j))), (1, .ref (ad 1))] := hl
  refine lv_aload_n hx hb d_Co_holdsFor_0 rfl (lv_at hl 1 rfl) ?_
  refine lv_aload_n hx hb d_Co_holdsFor_1 rfl (lv_at hl 0 rfl) ?_
  refine va_get (D := D) (ci := 3) (v := .int (((P.2.2.2.2 i).2.2.2.2.2 j).1)) (C := R_Co) (T := F_Co) (N := 4) hx hb hts in_Co hown hK hP (13 + 6 * i + (3 + j)) (wC_co (by omega) (by omega)) rfl 0 (by decide) (hts _ wd_95) (fun _ h9 => h9) rfl d_Co_holdsFor_2 ?_
  refine vp_callSl (va_Run.run (va_runV (As := [.int (((P.2.2.2.2 i).2.2.2.2.2 j).1)]) (rest := []) ⟨hx, hb, hml, hown, hts⟩ (c_Ca_getArgument l D dA ad w P g ss M (((P.2.2.2.2 i).2.2.2.2.2 j).1) hp) (cwV 1 hts (g_V wd_314 wd_315 wd_316 wd_27 wd_317) rfl rfl rfl (by decide +kernel) ⟨Nat.le_of_ble_eq_true rfl, Nat.le_of_ble_eq_true rfl⟩) ⟨CG_fb, (va_recv (ci := 1) (q := (R_Ca, F_Ca, 1)) (q0 := 1) hK hP rfl rfl), fun U hU hW => ⟨rfl, CG_at hP hK hN hU hW⟩⟩ rfl rfl hl.1 rfl (lv_room (Nat.le_of_ble_eq_true rfl)) d_Co_holdsFor_5 ⟨Nat.le_of_ble_eq_true rfl, Nat.le_of_ble_eq_true rfl⟩)) (fun r1 e1 => ?_)
  subst e1
  refine lv_lstore_n hx hb d_Co_holdsFor_8 rfl hl (by decide) rfl (fun ls hl => ?_)
  have hl : lv_has ls 4 [(2, .long (m_Ca_getArgument w (((P.2.2.2.2 i).2.2.2.2.2 j).1))), (0, .ref (ad (16 + 6 * i + j))), (1, .ref (ad 1))] := hl
  refine lv_aload_n hx hb d_Co_holdsFor_9 rfl (lv_at hl 1 rfl) ?_
  refine va_get (D := D) (ci := 3) (v := .int (((P.2.2.2.2 i).2.2.2.2.2 j).2.1)) (C := R_Co) (T := F_Co) (N := 4) hx hb hts in_Co hown hK hP (13 + 6 * i + (3 + j)) (wC_co (by omega) (by omega)) rfl 1 (by decide) (hts _ wd_96) (fun _ h9 => h9) rfl d_Co_holdsFor_10 ?_
  by_cases h1 : ((P.2.2.2.2 i).2.2.2.2.2 j).2.1 = (0 : Int32)
  · refine lv_tableIn (tgt := 52) (off := 39) hx hb d_Co_holdsFor_13 (by rw [h1]; decide) (by rw [h1]; decide) (by rw [h1] <;> rfl) (by decide) ?_
    refine lv_lload_n hx hb d_Co_holdsFor_52 rfl (lv_at hl 0 rfl) ?_
    refine lv_aload_n hx hb d_Co_holdsFor_53 rfl (lv_at hl 1 rfl) ?_
    refine va_get (D := D) (ci := 3) (v := .long (((P.2.2.2.2 i).2.2.2.2.2 j).2.2.1)) (C := R_Co) (T := F_Co) (N := 4) hx hb hts in_Co hown hK hP (13 + 6 * i + (3 + j)) (wC_co (by omega) (by omega)) rfl 2 (by decide) (hts _ wd_97) (fun _ h9 => h9) rfl d_Co_holdsFor_54 ?_
    refine W.lcmp hx hb d_Co_holdsFor_57 ?_
    refine lv_if_ne (tgt := 65) hx hb d_Co_holdsFor_58 (by decide) (fun h2 => ?_) (fun h2 => ?_)
    · refine lv_iconst (v := 0) hx hb d_Co_holdsFor_65 (by decide) ?_
      exact W.zret hx hb hr rfl (fun t ht hW => ⟨_, rfl, (by rw [m_Co_holdsFor, if_pos h1, if_neg h2]), ht⟩) (fun _ h => by cases h) d_Co_holdsFor_66
    refine lv_iconst (v := 1) hx hb d_Co_holdsFor_61 (by decide) ?_
    refine lv_goto (tgt := 66) hx hb d_Co_holdsFor_62 (by decide) ?_
    exact W.zret hx hb hr rfl (fun t ht hW => ⟨_, rfl, (by rw [m_Co_holdsFor, if_pos h1, if_pos h2]), ht⟩) (fun _ h => by cases h) d_Co_holdsFor_66
  by_cases h3 : ((P.2.2.2.2 i).2.2.2.2.2 j).2.1 = (1 : Int32)
  · refine lv_tableIn (tgt := 67) (off := 54) hx hb d_Co_holdsFor_13 (by rw [h3]; decide) (by rw [h3]; decide) (by rw [h3] <;> rfl) (by decide) ?_
    refine lv_lload_n hx hb d_Co_holdsFor_67 rfl (lv_at hl 0 rfl) ?_
    refine lv_aload_n hx hb d_Co_holdsFor_68 rfl (lv_at hl 1 rfl) ?_
    refine va_get (D := D) (ci := 3) (v := .long (((P.2.2.2.2 i).2.2.2.2.2 j).2.2.1)) (C := R_Co) (T := F_Co) (N := 4) hx hb hts in_Co hown hK hP (13 + 6 * i + (3 + j)) (wC_co (by omega) (by omega)) rfl 2 (by decide) (hts _ wd_97) (fun _ h9 => h9) rfl d_Co_holdsFor_69 ?_
    refine W.lcmp hx hb d_Co_holdsFor_72 ?_
    refine lv_if_eq (tgt := 80) hx hb d_Co_holdsFor_73 (by decide) (fun h4 => ?_) (fun h4 => ?_)
    · refine lv_iconst (v := 0) hx hb d_Co_holdsFor_80 (by decide) ?_
      exact W.zret hx hb hr rfl (fun t ht hW => ⟨_, rfl, (by rw [m_Co_holdsFor, if_neg h1, if_pos h3, if_pos h4]), ht⟩) (fun _ h => by cases h) d_Co_holdsFor_81
    refine lv_iconst (v := 1) hx hb d_Co_holdsFor_76 (by decide) ?_
    refine lv_goto (tgt := 81) hx hb d_Co_holdsFor_77 (by decide) ?_
    exact W.zret hx hb hr rfl (fun t ht hW => ⟨_, rfl, (by rw [m_Co_holdsFor, if_neg h1, if_pos h3, if_neg h4]), ht⟩) (fun _ h => by cases h) d_Co_holdsFor_81
  by_cases h5 : ((P.2.2.2.2 i).2.2.2.2.2 j).2.1 = (2 : Int32)
  · refine lv_tableIn (tgt := 82) (off := 69) hx hb d_Co_holdsFor_13 (by rw [h5]; decide) (by rw [h5]; decide) (by rw [h5] <;> rfl) (by decide) ?_
    refine lv_lload_n hx hb d_Co_holdsFor_82 rfl (lv_at hl 0 rfl) ?_
    refine lv_aload_n hx hb d_Co_holdsFor_83 rfl (lv_at hl 1 rfl) ?_
    refine va_get (D := D) (ci := 3) (v := .long (((P.2.2.2.2 i).2.2.2.2.2 j).2.2.1)) (C := R_Co) (T := F_Co) (N := 4) hx hb hts in_Co hown hK hP (13 + 6 * i + (3 + j)) (wC_co (by omega) (by omega)) rfl 2 (by decide) (hts _ wd_97) (fun _ h9 => h9) rfl d_Co_holdsFor_84 ?_
    refine vp_callSi (va_Run.run (va_runS (As := [.long (m_Ca_getArgument w (((P.2.2.2.2 i).2.2.2.2.2 j).1)), .long (((P.2.2.2.2 i).2.2.2.2.2 j).2.2.1)]) (rest := []) ⟨hx, hb, hml, hown, hts⟩ (c_Co_isBelow l (m_Ca_getArgument w (((P.2.2.2.2 i).2.2.2.2.2 j).1)) (((P.2.2.2.2 i).2.2.2.2.2 j).2.2.1)) (va_cwS 2 hts (g_S wd_318 wd_319 wd_31 wd_320) rfl rfl rfl (by decide +kernel) ⟨Nat.le_of_ble_eq_true rfl, Nat.le_of_ble_eq_true rfl⟩) ⟨fun _ _ _ _ q => q, fun _ _ _ => ⟨rfl, trivial⟩⟩ rfl rfl hl.1 rfl (lv_room (Nat.le_of_ble_eq_true rfl)) d_Co_holdsFor_87 ⟨Nat.le_of_ble_eq_true rfl, Nat.le_of_ble_eq_true rfl⟩)) (fun r2 e2 => ?_)
    subst e2
    exact W.zret hx hb hr (z_below _ _) (fun t ht hW => ⟨_, rfl, (by rw [m_Co_holdsFor, if_neg h1, if_neg h3, if_pos h5]), ht⟩) (fun _ h => by cases h) d_Co_holdsFor_90
  by_cases h6 : ((P.2.2.2.2 i).2.2.2.2.2 j).2.1 = (3 : Int32)
  · refine lv_tableIn (tgt := 91) (off := 78) hx hb d_Co_holdsFor_13 (by rw [h6]; decide) (by rw [h6]; decide) (by rw [h6] <;> rfl) (by decide) ?_
    refine lv_aload_n hx hb d_Co_holdsFor_91 rfl (lv_at hl 1 rfl) ?_
    refine va_get (D := D) (ci := 3) (v := .long (((P.2.2.2.2 i).2.2.2.2.2 j).2.2.1)) (C := R_Co) (T := F_Co) (N := 4) hx hb hts in_Co hown hK hP (13 + 6 * i + (3 + j)) (wC_co (by omega) (by omega)) rfl 2 (by decide) (hts _ wd_97) (fun _ h9 => h9) rfl d_Co_holdsFor_92 ?_
    refine lv_lload_n hx hb d_Co_holdsFor_95 rfl (lv_at hl 0 rfl) ?_
    refine vp_callSi (va_Run.run (va_runS (As := [.long (((P.2.2.2.2 i).2.2.2.2.2 j).2.2.1), .long (m_Ca_getArgument w (((P.2.2.2.2 i).2.2.2.2.2 j).1))]) (rest := []) ⟨hx, hb, hml, hown, hts⟩ (c_Co_isBelow l (((P.2.2.2.2 i).2.2.2.2.2 j).2.2.1) (m_Ca_getArgument w (((P.2.2.2.2 i).2.2.2.2.2 j).1))) (va_cwS 2 hts (g_S wd_318 wd_319 wd_31 wd_320) rfl rfl rfl (by decide +kernel) ⟨Nat.le_of_ble_eq_true rfl, Nat.le_of_ble_eq_true rfl⟩) ⟨fun _ _ _ _ q => q, fun _ _ _ => ⟨rfl, trivial⟩⟩ rfl rfl hl.1 rfl (lv_room (Nat.le_of_ble_eq_true rfl)) d_Co_holdsFor_96 ⟨Nat.le_of_ble_eq_true rfl, Nat.le_of_ble_eq_true rfl⟩)) (fun r3 e3 => ?_)
    subst e3
    refine lv_if_ne (tgt := 106) hx hb d_Co_holdsFor_99 (by decide) (fun h7 => ?_) (fun h7 => ?_)
    · refine lv_iconst (v := 0) hx hb d_Co_holdsFor_106 (by decide) ?_
      exact W.zret hx hb hr rfl (fun t ht hW => ⟨_, rfl, (by rw [m_Co_holdsFor, if_neg h1, if_neg h3, if_neg h5, if_pos h6, if_neg h7]), ht⟩) (fun _ h => by cases h) d_Co_holdsFor_107
    refine lv_iconst (v := 1) hx hb d_Co_holdsFor_102 (by decide) ?_
    refine lv_goto (tgt := 107) hx hb d_Co_holdsFor_103 (by decide) ?_
    exact W.zret hx hb hr rfl (fun t ht hW => ⟨_, rfl, (by rw [m_Co_holdsFor, if_neg h1, if_neg h3, if_neg h5, if_pos h6, if_pos h7]), ht⟩) (fun _ h => by cases h) d_Co_holdsFor_107
  by_cases h8 : ((P.2.2.2.2 i).2.2.2.2.2 j).2.1 = (4 : Int32)
  · refine lv_tableIn (tgt := 108) (off := 95) hx hb d_Co_holdsFor_13 (by rw [h8]; decide) (by rw [h8]; decide) (by rw [h8] <;> rfl) (by decide) ?_
    refine lv_aload_n hx hb d_Co_holdsFor_108 rfl (lv_at hl 1 rfl) ?_
    refine va_get (D := D) (ci := 3) (v := .long (((P.2.2.2.2 i).2.2.2.2.2 j).2.2.1)) (C := R_Co) (T := F_Co) (N := 4) hx hb hts in_Co hown hK hP (13 + 6 * i + (3 + j)) (wC_co (by omega) (by omega)) rfl 2 (by decide) (hts _ wd_97) (fun _ h9 => h9) rfl d_Co_holdsFor_109 ?_
    refine lv_lload_n hx hb d_Co_holdsFor_112 rfl (lv_at hl 0 rfl) ?_
    refine vp_callSi (va_Run.run (va_runS (As := [.long (((P.2.2.2.2 i).2.2.2.2.2 j).2.2.1), .long (m_Ca_getArgument w (((P.2.2.2.2 i).2.2.2.2.2 j).1))]) (rest := []) ⟨hx, hb, hml, hown, hts⟩ (c_Co_isBelow l (((P.2.2.2.2 i).2.2.2.2.2 j).2.2.1) (m_Ca_getArgument w (((P.2.2.2.2 i).2.2.2.2.2 j).1))) (va_cwS 2 hts (g_S wd_318 wd_319 wd_31 wd_320) rfl rfl rfl (by decide +kernel) ⟨Nat.le_of_ble_eq_true rfl, Nat.le_of_ble_eq_true rfl⟩) ⟨fun _ _ _ _ q => q, fun _ _ _ => ⟨rfl, trivial⟩⟩ rfl rfl hl.1 rfl (lv_room (Nat.le_of_ble_eq_true rfl)) d_Co_holdsFor_113 ⟨Nat.le_of_ble_eq_true rfl, Nat.le_of_ble_eq_true rfl⟩)) (fun r4 e4 => ?_)
    subst e4
    exact W.zret hx hb hr (z_below _ _) (fun t ht hW => ⟨_, rfl, (by rw [m_Co_holdsFor, if_neg h1, if_neg h3, if_neg h5, if_neg h6, if_pos h8]), ht⟩) (fun _ h => by cases h) d_Co_holdsFor_116
  by_cases h9 : ((P.2.2.2.2 i).2.2.2.2.2 j).2.1 = (5 : Int32)
  · refine lv_tableIn (tgt := 117) (off := 104) hx hb d_Co_holdsFor_13 (by rw [h9]; decide) (by rw [h9]; decide) (by rw [h9] <;> rfl) (by decide) ?_
    refine lv_lload_n hx hb d_Co_holdsFor_117 rfl (lv_at hl 0 rfl) ?_
    refine lv_aload_n hx hb d_Co_holdsFor_118 rfl (lv_at hl 1 rfl) ?_
    refine va_get (D := D) (ci := 3) (v := .long (((P.2.2.2.2 i).2.2.2.2.2 j).2.2.1)) (C := R_Co) (T := F_Co) (N := 4) hx hb hts in_Co hown hK hP (13 + 6 * i + (3 + j)) (wC_co (by omega) (by omega)) rfl 2 (by decide) (hts _ wd_97) (fun _ h9 => h9) rfl d_Co_holdsFor_119 ?_
    refine vp_callSi (va_Run.run (va_runS (As := [.long (m_Ca_getArgument w (((P.2.2.2.2 i).2.2.2.2.2 j).1)), .long (((P.2.2.2.2 i).2.2.2.2.2 j).2.2.1)]) (rest := []) ⟨hx, hb, hml, hown, hts⟩ (c_Co_isBelow l (m_Ca_getArgument w (((P.2.2.2.2 i).2.2.2.2.2 j).1)) (((P.2.2.2.2 i).2.2.2.2.2 j).2.2.1)) (va_cwS 2 hts (g_S wd_318 wd_319 wd_31 wd_320) rfl rfl rfl (by decide +kernel) ⟨Nat.le_of_ble_eq_true rfl, Nat.le_of_ble_eq_true rfl⟩) ⟨fun _ _ _ _ q => q, fun _ _ _ => ⟨rfl, trivial⟩⟩ rfl rfl hl.1 rfl (lv_room (Nat.le_of_ble_eq_true rfl)) d_Co_holdsFor_122 ⟨Nat.le_of_ble_eq_true rfl, Nat.le_of_ble_eq_true rfl⟩)) (fun r5 e5 => ?_)
    subst e5
    refine lv_if_ne (tgt := 132) hx hb d_Co_holdsFor_125 (by decide) (fun h10 => ?_) (fun h10 => ?_)
    · refine lv_iconst (v := 0) hx hb d_Co_holdsFor_132 (by decide) ?_
      exact W.zret hx hb hr rfl (fun t ht hW => ⟨_, rfl, (by rw [m_Co_holdsFor, if_neg h1, if_neg h3, if_neg h5, if_neg h6, if_neg h8, if_pos h9, if_neg h10]), ht⟩) (fun _ h => by cases h) d_Co_holdsFor_133
    refine lv_iconst (v := 1) hx hb d_Co_holdsFor_128 (by decide) ?_
    refine lv_goto (tgt := 133) hx hb d_Co_holdsFor_129 (by decide) ?_
    exact W.zret hx hb hr rfl (fun t ht hW => ⟨_, rfl, (by rw [m_Co_holdsFor, if_neg h1, if_neg h3, if_neg h5, if_neg h6, if_neg h8, if_pos h9, if_pos h10]), ht⟩) (fun _ h => by cases h) d_Co_holdsFor_133
  refine lv_tableOut (tgt := 134) hx hb d_Co_holdsFor_13 (by have z0 := lv_neT (a := 0) h1 (by decide); have z1 := lv_neT (a := 1) h3 (by decide); have z2 := lv_neT (a := 2) h5 (by decide); have z3 := lv_neT (a := 3) h6 (by decide); have z4 := lv_neT (a := 4) h8 (by decide); have z5 := lv_neT (a := 5) h9 (by decide); omega) (by decide) ?_
  refine lv_lload_n hx hb d_Co_holdsFor_134 rfl (lv_at hl 0 rfl) ?_
  refine lv_aload_n hx hb d_Co_holdsFor_135 rfl (lv_at hl 1 rfl) ?_
  refine va_get (D := D) (ci := 3) (v := .long (((P.2.2.2.2 i).2.2.2.2.2 j).2.2.2)) (C := R_Co) (T := F_Co) (N := 4) hx hb hts in_Co hown hK hP (13 + 6 * i + (3 + j)) (wC_co (by omega) (by omega)) rfl 3 (by decide) (hts _ wd_98) (fun _ h9 => h9) rfl d_Co_holdsFor_136 ?_
  refine lv_land hx hb d_Co_holdsFor_139 ?_
  refine lv_aload_n hx hb d_Co_holdsFor_140 rfl (lv_at hl 1 rfl) ?_
  refine va_get (D := D) (ci := 3) (v := .long (((P.2.2.2.2 i).2.2.2.2.2 j).2.2.1)) (C := R_Co) (T := F_Co) (N := 4) hx hb hts in_Co hown hK hP (13 + 6 * i + (3 + j)) (wC_co (by omega) (by omega)) rfl 2 (by decide) (hts _ wd_97) (fun _ h9 => h9) rfl d_Co_holdsFor_141 ?_
  refine W.lcmp hx hb d_Co_holdsFor_144 ?_
  refine lv_if_ne (tgt := 152) hx hb d_Co_holdsFor_145 (by decide) (fun h11 => ?_) (fun h11 => ?_)
  · refine lv_iconst (v := 0) hx hb d_Co_holdsFor_152 (by decide) ?_
    exact W.zret hx hb hr rfl (fun t ht hW => ⟨_, rfl, (by rw [m_Co_holdsFor, if_neg h1, if_neg h3, if_neg h5, if_neg h6, if_neg h8, if_neg h9, if_neg h11]), ht⟩) (fun _ h => by cases h) d_Co_holdsFor_153
  refine lv_iconst (v := 1) hx hb d_Co_holdsFor_148 (by decide) ?_
  refine lv_goto (tgt := 153) hx hb d_Co_holdsFor_149 (by decide) ?_
  exact W.zret hx hb hr rfl (fun t ht hW => ⟨_, rfl, (by rw [m_Co_holdsFor, if_neg h1, if_neg h3, if_neg h5, if_neg h6, if_neg h8, if_neg h9, if_pos h11]), ht⟩) (fun _ h => by cases h) d_Co_holdsFor_153
def m_Ru_become (P : PT) (i : Nat) (fr : Int32) (to : Int32) (kd : Int32) (dt : Int32) : PT := (P.1, P.2.1, P.2.2.1, P.2.2.2.1, updR P.2.2.2.2 i ((0 : Int32), fr, to, kd, dt, (P.2.2.2.2 i).2.2.2.2.2))
set_option maxHeartbeats 4000000 in
set_option maxRecDepth 100000 in
theorem c_Ru_become (l : Launch) (D : va_G) (dA : Nat → ClassId) (ad : Nat → Nat) (A : Nat → Prop) (hAd : AdOK 49 ad A) (w : Nat → Int32) (P : PT) (g : GT) (ss : Nat → Int32) (M : MT) (i : Nat) (fr : Int32) (to : Int32) (kd : Int32) (dt : Int32) (hi : i < 6) : Met l y_Ru_become (mW y_Ru_become b_Ru_become 5 none) { frames := 1, cells := 0, slots := 0, locals := 22 } (va_Pc [.ref (ad (13 + 6 * i)), .int fr, .int to, .int kd, .int dt] (fun U => CG D dA ad w P g ss M U)) (va_Qv (fun u : PT => u = m_Ru_become P i fr to kd dt) (fun u t => CG D dA ad w u g ss M t) A) 0 0 A := by
  refine Met.ofW (cc := b_Ru_become) (maxL := 5) (ret := none) (by decide) rfl ?_
  intro p e s m args below meth c s₁ B hml hv
  obtain ⟨rfl, hP, hK, hN⟩ := hv
  have hx := B.exec
  have hb := B.bytes
  have hr := B.returns
  have hlocks := B.notSynchronized
  have hts := fun (w : Cond) (h : w ∈ lw_g) => atoms_spec (ws := mW y_Ru_become b_Ru_become 5 none) B.pre w (List.mem_cons_of_mem _ h)
  have hown : s.vm.findClass R_Ru = some m.cls := findClass_of_methodNamed B.named
  have hS : va_S A s.heap s.heap [] := va_S.rf
  have hl := lv_entry ([.ref (ad (13 + 6 * i)), .int fr, .int to, .int kd, .int dt]) (n := 5) (Nat.le_of_ble_eq_true rfl)
  rw [lg_entry_eq]
  generalize (lg_sl ([.ref (ad (13 + 6 * i)), .int fr, .int to, .int kd, .int dt]) ++ List.replicate (5 - (lg_sl ([.ref (ad (13 + 6 * i)), .int fr, .int to, .int kd, .int dt])).length) Slot.unset).toArray = ls at hl ⊢
  have hl : lv_has ls 5 [(0, .ref (ad (13 + 6 * i))), (1, .int fr), (2, .int to), (3, .int kd), (4, .int dt)] := hl
  have hP : va_P D cls (wC ad dA w (P.1, P.2.1, P.2.2.1, P.2.2.2.1, updR P.2.2.2.2 i ((P.2.2.2.2 i).1, (P.2.2.2.2 i).2.1, (P.2.2.2.2 i).2.2.1, (P.2.2.2.2 i).2.2.2.1, (P.2.2.2.2 i).2.2.2.2.1, (P.2.2.2.2 i).2.2.2.2.2)) g ss M) s.heap := wF_in hP
  refine lv_aload_n hx hb d_Ru_become_0 rfl (lv_at hl 0 rfl) ?_
  refine lv_iload_n hx hb d_Ru_become_1 rfl (lv_at hl 1 rfl) ?_
  refine va_put (D := D) (ci := 7) (v := .int fr) (ty := .int) (C := R_Ru) (T := F_Ru) (N := 5) hx hb hts in_Ru t_Ru k_Ru n_Ru hown hK hP (wC_D hAd) hS (13 + 6 * i + 0) (wF_ru (by omega)) rfl 2 (by decide) (hts _ wd_112) (fun _ h9 => h9) rfl (by decide +kernel) rfl rfl (Nat.le_of_ble_eq_true rfl) d_Ru_become_2 (fun H locs hP _ hS => ?_)
  have hP : va_P D cls (wC ad dA w (P.1, P.2.1, P.2.2.1, P.2.2.2.1, updR P.2.2.2.2 i ((P.2.2.2.2 i).1, fr, (P.2.2.2.2 i).2.2.1, (P.2.2.2.2 i).2.2.2.1, (P.2.2.2.2 i).2.2.2.2.1, (P.2.2.2.2 i).2.2.2.2.2)) g ss M) H := wF_put (r := ((P.2.2.2.2 i).1, fr, (P.2.2.2.2 i).2.2.1, (P.2.2.2.2 i).2.2.2.1, (P.2.2.2.2 i).2.2.2.2.1, (P.2.2.2.2 i).2.2.2.2.2)) (by omega) 0 (by omega) (by rfl) hP
  refine lv_aload_n hx hb d_Ru_become_5 rfl (lv_at hl 0 rfl) ?_
  refine lv_iload_n hx hb d_Ru_become_6 rfl (lv_at hl 2 rfl) ?_
  refine va_put (D := D) (ci := 7) (v := .int to) (ty := .int) (C := R_Ru) (T := F_Ru) (N := 5) hx hb hts in_Ru t_Ru k_Ru n_Ru hown hK hP (wC_D hAd) hS (13 + 6 * i + 0) (wF_ru (by omega)) rfl 3 (by decide) (hts _ wd_113) (fun _ h9 => h9) rfl (by decide +kernel) rfl rfl (Nat.le_of_ble_eq_true rfl) d_Ru_become_7 (fun H locs hP _ hS => ?_)
  have hP : va_P D cls (wC ad dA w (P.1, P.2.1, P.2.2.1, P.2.2.2.1, updR P.2.2.2.2 i ((P.2.2.2.2 i).1, fr, to, (P.2.2.2.2 i).2.2.2.1, (P.2.2.2.2 i).2.2.2.2.1, (P.2.2.2.2 i).2.2.2.2.2)) g ss M) H := wF_put (r := ((P.2.2.2.2 i).1, fr, to, (P.2.2.2.2 i).2.2.2.1, (P.2.2.2.2 i).2.2.2.2.1, (P.2.2.2.2 i).2.2.2.2.2)) (by omega) 0 (by omega) (by rfl) hP
  refine lv_aload_n hx hb d_Ru_become_10 rfl (lv_at hl 0 rfl) ?_
  refine va_get (D := D) (ci := 7) (v := .ref (ad (14 + 6 * i))) (C := R_Ru) (T := F_Ru) (N := 5) hx hb hts in_Ru hown hK hP (13 + 6 * i + 0) (wF_ru (by omega)) rfl 0 (by decide) (hts _ wd_108) (fun _ h9 => h9) rfl d_Ru_become_11 ?_
  refine lv_iload_n hx hb d_Ru_become_14 rfl (lv_at hl 3 rfl) ?_
  refine lv_iload hx hb d_Ru_become_15 (lv_at hl 4 rfl) ?_
  refine va_callv (va_runV (As := [.int kd, .int dt]) (rest := []) ⟨hx, hb, hml, hown, hts⟩ (c_Ac_become_r l D dA ad A hAd w (P.1, P.2.1, P.2.2.1, P.2.2.2.1, updR P.2.2.2.2 i ((P.2.2.2.2 i).1, fr, to, (P.2.2.2.2 i).2.2.2.1, (P.2.2.2.2 i).2.2.2.2.1, (P.2.2.2.2 i).2.2.2.2.2)) g ss M i kd dt hi) (cwV 2 hts (g_V wd_256 wd_257 wd_258 wd_29 wd_259) rfl rfl rfl (by decide +kernel) ⟨Nat.le_of_ble_eq_true rfl, Nat.le_of_ble_eq_true rfl⟩) ⟨CG_fb, (va_recv (ci := 0) (q := (R_Ac, F_Ac, 2)) (q0 := (13 + 6 * i + 1)) hK hP rfl (wF_ra (by omega))), fun U hU hW => ⟨rfl, CG_at hP hK hN hU hW⟩⟩ rfl rfl hl.1 rfl (lv_room (Nat.le_of_ble_eq_true rfl)) d_Ru_become_17 ⟨Nat.le_of_ble_eq_true rfl, Nat.le_of_ble_eq_true rfl⟩) hS (fun _ _ h => h) (fun _ h => h) (fun u1 t H locs ht hvm hu hB hz hk hS => ?_)
  subst hu
  obtain ⟨hP, -⟩ := hB
  rw [ht] at hP
  have hP : va_P D cls (wC ad dA w (P.1, P.2.1, P.2.2.1, P.2.2.2.1, updR P.2.2.2.2 i ((P.2.2.2.2 i).1, fr, to, kd, dt, (P.2.2.2.2 i).2.2.2.2.2)) g ss M) H := (congrArg (fun z => va_P D cls (wC ad dA w z g ss M) H) ac_foc).mp hP
  refine lv_aload_n hx hb d_Ru_become_20 rfl (lv_at hl 0 rfl) ?_
  refine lv_iconst (v := 0) hx hb d_Ru_become_21 (by decide) ?_
  refine va_put (D := D) (ci := 7) (v := .int (0 : Int32)) (ty := .int) (C := R_Ru) (T := F_Ru) (N := 5) hx hb hts in_Ru t_Ru k_Ru n_Ru hown hK hP (wC_D hAd) hS (13 + 6 * i + 0) (wF_ru (by omega)) rfl 1 (by decide) (hts _ wd_110) (fun _ h9 => h9) rfl (by decide +kernel) rfl rfl (Nat.le_of_ble_eq_true rfl) d_Ru_become_22 (fun H locs hP _ hS => ?_)
  have hP : va_P D cls (wC ad dA w (P.1, P.2.1, P.2.2.1, P.2.2.2.1, updR P.2.2.2.2 i ((0 : Int32), fr, to, kd, dt, (P.2.2.2.2 i).2.2.2.2.2)) g ss M) H := wF_put (r := ((0 : Int32), fr, to, kd, dt, (P.2.2.2.2 i).2.2.2.2.2)) (by omega) 0 (by omega) (by rfl) hP
  exact W.vret hx hb hr (fun t ht hW => ⟨⟨_, rfl, (by rw [m_Ru_become]), CG_at hP hK hN ht hW⟩, hS.F ht⟩) hS.2.2 d_Ru_become_25
def m_Ru_add (P : PT) (i : Nat) (pl : Int32) (op : Int32) (va : Int64) (mk : Int64) : PT := (P.1, P.2.1, P.2.2.1, P.2.2.2.1, updR P.2.2.2.2 i (((P.2.2.2.2 i).1) + (1 : Int32), (P.2.2.2.2 i).2.1, (P.2.2.2.2 i).2.2.1, (P.2.2.2.2 i).2.2.2.1, (P.2.2.2.2 i).2.2.2.2.1, updC ((P.2.2.2.2 i).2.2.2.2.2) (((P.2.2.2.2 i).1).toNatClampNeg) (pl, op, va, mk)))
set_option maxHeartbeats 4000000 in
set_option maxRecDepth 100000 in
theorem c_Ru_add (l : Launch) (D : va_G) (dA : Nat → ClassId) (ad : Nat → Nat) (A : Nat → Prop) (hAd : AdOK 49 ad A) (w : Nat → Int32) (P : PT) (g : GT) (ss : Nat → Int32) (M : MT) (i : Nat) (pl : Int32) (op : Int32) (va : Int64) (mk : Int64) (hi : i < 6) (hv : vp_in (P.2.2.2.2 i).1 3) : Met l y_Ru_add (mW y_Ru_add b_Ru_add 7 none) { frames := 1, cells := 0, slots := 0, locals := 26 } (va_Pc [.ref (ad (13 + 6 * i)), .int pl, .int op, .long va, .long mk] (fun U => CG D dA ad w P g ss M U)) (va_Qv (fun u : PT => u = m_Ru_add P i pl op va mk) (fun u t => CG D dA ad w u g ss M t) A) 0 0 A := by
  refine Met.ofW (cc := b_Ru_add) (maxL := 7) (ret := none) (by decide) rfl ?_
  intro p e s m args below meth c s₁ B hml hv
  obtain ⟨rfl, hP, hK, hN⟩ := hv
  have hx := B.exec
  have hb := B.bytes
  have hr := B.returns
  have hlocks := B.notSynchronized
  have hts := fun (w : Cond) (h : w ∈ lw_g) => atoms_spec (ws := mW y_Ru_add b_Ru_add 7 none) B.pre w (List.mem_cons_of_mem _ h)
  have hown : s.vm.findClass R_Ru = some m.cls := findClass_of_methodNamed B.named
  have hS : va_S A s.heap s.heap [] := va_S.rf
  have hl := lv_entry ([.ref (ad (13 + 6 * i)), .int pl, .int op, .long va, .long mk]) (n := 7) (Nat.le_of_ble_eq_true rfl)
  rw [lg_entry_eq]
  generalize (lg_sl ([.ref (ad (13 + 6 * i)), .int pl, .int op, .long va, .long mk]) ++ List.replicate (7 - (lg_sl ([.ref (ad (13 + 6 * i)), .int pl, .int op, .long va, .long mk])).length) Slot.unset).toArray = ls at hl ⊢
  have hl : lv_has ls 7 [(0, .ref (ad (13 + 6 * i))), (1, .int pl), (2, .int op), (3, .long va), (5, .long mk)] := hl
  have hP : va_P D cls (wC ad dA w (P.1, P.2.1, P.2.2.1, P.2.2.2.1, updR P.2.2.2.2 i ((P.2.2.2.2 i).1, (P.2.2.2.2 i).2.1, (P.2.2.2.2 i).2.2.1, (P.2.2.2.2 i).2.2.2.1, (P.2.2.2.2 i).2.2.2.2.1, (P.2.2.2.2 i).2.2.2.2.2)) g ss M) s.heap := wF_in hP
  refine lv_aload_n hx hb d_Ru_add_0 rfl (lv_at hl 0 rfl) ?_
  refine va_get (D := D) (ci := 7) (v := .ref (ad (15 + 6 * i))) (C := R_Ru) (T := F_Ru) (N := 5) hx hb hts in_Ru hown hK hP (13 + 6 * i + 0) (wF_ru (by omega)) rfl 4 (by decide) (hts _ wd_114) (fun _ h9 => h9) rfl d_Ru_add_1 ?_
  refine lv_aload_n hx hb d_Ru_add_4 rfl (lv_at hl 0 rfl) ?_
  refine va_get (D := D) (ci := 7) (v := .int ((P.2.2.2.2 i).1)) (C := R_Ru) (T := F_Ru) (N := 5) hx hb hts in_Ru hown hK hP (13 + 6 * i + 0) (wF_ru (by omega)) rfl 1 (by decide) (hts _ wd_110) (fun _ h9 => h9) rfl d_Ru_add_5 ?_
  have hq1 : (((P.2.2.2.2 i).1).toNatClampNeg) < 3 := (vp_cl hv)
  refine va_aldq (n := 3) (f := rfs ad 3 (16 + 6 * i) 1) hx hb hK hP (13 + 6 * i + 2) 3 (wF_cs (by omega)) rfl hv d_Ru_add_8 ?_
  refine W.eq (g2 := F0 m 9 ls [.ref (ad (16 + 6 * i + (((P.2.2.2.2 i).1).toNatClampNeg)))]) (by rw [rf_at (vp_cl hv), Nat.one_mul]) ?_
  refine lv_iload_n hx hb d_Ru_add_9 rfl (lv_at hl 1 rfl) ?_
  refine lv_iload_n hx hb d_Ru_add_10 rfl (lv_at hl 2 rfl) ?_
  refine lv_lload_n hx hb d_Ru_add_11 rfl (lv_at hl 3 rfl) ?_
  refine lv_lload hx hb d_Ru_add_12 (lv_at hl 4 rfl) ?_
  refine va_callv (va_runV (As := [.int pl, .int op, .long va, .long mk]) (rest := []) ⟨hx, hb, hml, hown, hts⟩ (c_Co_become l D dA ad A hAd w (P.1, P.2.1, P.2.2.1, P.2.2.2.1, updR P.2.2.2.2 i ((P.2.2.2.2 i).1, (P.2.2.2.2 i).2.1, (P.2.2.2.2 i).2.2.1, (P.2.2.2.2 i).2.2.2.1, (P.2.2.2.2 i).2.2.2.2.1, (P.2.2.2.2 i).2.2.2.2.2)) g ss M i (((P.2.2.2.2 i).1).toNatClampNeg) pl op va mk hi (vp_cl hv)) (cwV 4 hts (g_V wd_271 wd_272 wd_273 wd_31 wd_274) rfl rfl rfl (by decide +kernel) ⟨Nat.le_of_ble_eq_true rfl, Nat.le_of_ble_eq_true rfl⟩) ⟨CG_fb, (va_recv (ci := 3) (q := (R_Co, F_Co, 4)) (q0 := (13 + 6 * i + (3 + (((P.2.2.2.2 i).1).toNatClampNeg)))) hK hP rfl (wF_co (by omega) (by omega))), fun U hU hW => ⟨rfl, CG_at hP hK hN hU hW⟩⟩ rfl rfl hl.1 rfl (lv_room (Nat.le_of_ble_eq_true rfl)) d_Ru_add_14 ⟨Nat.le_of_ble_eq_true rfl, Nat.le_of_ble_eq_true rfl⟩) hS (fun _ _ h => h) (fun _ h => h) (fun u1 t H locs ht hvm hu hB hz hk hS => ?_)
  subst hu
  obtain ⟨hP, -⟩ := hB
  rw [ht] at hP
  have hP : va_P D cls (wC ad dA w (P.1, P.2.1, P.2.2.1, P.2.2.2.1, updR P.2.2.2.2 i ((P.2.2.2.2 i).1, (P.2.2.2.2 i).2.1, (P.2.2.2.2 i).2.2.1, (P.2.2.2.2 i).2.2.2.1, (P.2.2.2.2 i).2.2.2.2.1, updC ((P.2.2.2.2 i).2.2.2.2.2) (((P.2.2.2.2 i).1).toNatClampNeg) (pl, op, va, mk))) g ss M) H := (congrArg (fun z => va_P D cls (wC ad dA w z g ss M) H) co_foc).mp hP
  refine lv_aload_n hx hb d_Ru_add_17 rfl (lv_at hl 0 rfl) ?_
  refine lv_dup hx hb d_Ru_add_18 rfl ?_
  refine va_get (D := D) (ci := 7) (v := .int ((P.2.2.2.2 i).1)) (C := R_Ru) (T := F_Ru) (N := 5) hx hb hts in_Ru hown hK hP (13 + 6 * i + 0) (wF_ru (by omega)) rfl 1 (by decide) (hts _ wd_110) (fun _ h9 => h9) rfl d_Ru_add_19 ?_
  refine lv_iconst (v := 1) hx hb d_Ru_add_22 (by decide) ?_
  refine lv_iadd hx hb d_Ru_add_23 ?_
  refine va_put (D := D) (ci := 7) (v := .int (((P.2.2.2.2 i).1) + (1 : Int32))) (ty := .int) (C := R_Ru) (T := F_Ru) (N := 5) hx hb hts in_Ru t_Ru k_Ru n_Ru hown hK hP (wC_D hAd) hS (13 + 6 * i + 0) (wF_ru (by omega)) rfl 1 (by decide) (hts _ wd_110) (fun _ h9 => h9) rfl (by decide +kernel) rfl rfl (Nat.le_of_ble_eq_true rfl) d_Ru_add_24 (fun H locs hP _ hS => ?_)
  have hP : va_P D cls (wC ad dA w (P.1, P.2.1, P.2.2.1, P.2.2.2.1, updR P.2.2.2.2 i (((P.2.2.2.2 i).1) + (1 : Int32), (P.2.2.2.2 i).2.1, (P.2.2.2.2 i).2.2.1, (P.2.2.2.2 i).2.2.2.1, (P.2.2.2.2 i).2.2.2.2.1, updC ((P.2.2.2.2 i).2.2.2.2.2) (((P.2.2.2.2 i).1).toNatClampNeg) (pl, op, va, mk))) g ss M) H := wF_put (r := (((P.2.2.2.2 i).1) + (1 : Int32), (P.2.2.2.2 i).2.1, (P.2.2.2.2 i).2.2.1, (P.2.2.2.2 i).2.2.2.1, (P.2.2.2.2 i).2.2.2.2.1, updC ((P.2.2.2.2 i).2.2.2.2.2) (((P.2.2.2.2 i).1).toNatClampNeg) (pl, op, va, mk))) (by omega) 0 (by omega) (by rfl) hP
  exact W.vret hx hb hr (fun t ht hW => ⟨⟨_, rfl, (by rw [m_Ru_add]), CG_at hP hK hN ht hW⟩, hS.F ht⟩) hS.2.2 d_Ru_add_27
def m_Ru_matches_l1 (w : Nat → Int32) (P : PT) (i : Nat) : Nat → Nat → Int32
  | 0, _ => 0
  | n1 + 1, j => if ((P.2.2.2.2 i).1) ≤ (nI j) then (1 : Int32) else if (m_Co_holdsFor w P i j) = (0 : Int32) then (0 : Int32) else m_Ru_matches_l1 w P i n1 (j + 1)
def m_Ru_matches (w : Nat → Int32) (P : PT) (i : Nat) : Int32 := if (m_Ca_number w) < ((P.2.2.2.2 i).2.1) then (0 : Int32) else if (m_Ca_number w) ≤ ((P.2.2.2.2 i).2.2.1) then m_Ru_matches_l1 w P i (4) 0 else (0 : Int32)
set_option maxHeartbeats 4000000 in
set_option maxRecDepth 100000 in
theorem c_Ru_matches (l : Launch) (D : va_G) (dA : Nat → ClassId) (ad : Nat → Nat) (w : Nat → Int32) (P : PT) (g : GT) (ss : Nat → Int32) (M : MT) (i : Nat) (hi : i < 6) (hc : iN (P.2.2.2.2 i).1 ≤ 3) (hp : ∀ j, j < 3 → vp_in ((P.2.2.2.2 i).2.2.2.2.2 j).1 6) : Met l y_Ru_matches (mW y_Ru_matches b_Ru_matches 3 (some .boolean)) { frames := 3, cells := 0, slots := 0, locals := 65 } (va_Pc [.ref (ad (13 + 6 * i)), .ref (ad 1)] (fun U => CG D dA ad w P g ss M U)) (vp_Si (fun r => r = m_Ru_matches w P i)) 0 0 (fun _ => False) := by
  refine Met.ofW (cc := b_Ru_matches) (maxL := 3) (ret := (some .boolean)) (by decide) rfl ?_
  intro p e s m args below meth c s₁ B hml hv
  obtain ⟨rfl, hP, hK, hN⟩ := hv
  have hx := B.exec
  have hb := B.bytes
  have hr := B.returns
  have hlocks := B.notSynchronized
  have hts := fun (w : Cond) (h : w ∈ lw_g) => atoms_spec (ws := mW y_Ru_matches b_Ru_matches 3 (some .boolean)) B.pre w (List.mem_cons_of_mem _ h)
  have hown : s.vm.findClass R_Ru = some m.cls := findClass_of_methodNamed B.named
  have hl := lv_entry ([.ref (ad (13 + 6 * i)), .ref (ad 1)]) (n := 3) (Nat.le_of_ble_eq_true rfl)
  rw [lg_entry_eq]
  generalize (lg_sl ([.ref (ad (13 + 6 * i)), .ref (ad 1)]) ++ List.replicate (3 - (lg_sl ([.ref (ad (13 + 6 * i)), .ref (ad 1)])).length) Slot.unset).toArray = ls at hl ⊢
  have hl : lv_has ls 3 [(0, .ref (ad (13 + 6 * i))), (1, .ref (ad 1))] := hl
  refine lv_aload_n hx hb d_Ru_matches_0 rfl (lv_at hl 1 rfl) ?_
  refine vp_callSi (va_Run.run (va_runV (As := []) (rest := []) ⟨hx, hb, hml, hown, hts⟩ (c_Ca_number l D dA ad w P g ss M) (cwV 0 hts (g_V wd_309 wd_297 wd_298 wd_27 wd_299) rfl rfl rfl (by decide +kernel) ⟨Nat.le_of_ble_eq_true rfl, Nat.le_of_ble_eq_true rfl⟩) ⟨CG_fb, (va_recv (ci := 1) (q := (R_Ca, F_Ca, 1)) (q0 := 1) hK hP rfl rfl), fun U hU hW => ⟨rfl, CG_at hP hK hN hU hW⟩⟩ rfl rfl hl.1 rfl (lv_room (Nat.le_of_ble_eq_true rfl)) d_Ru_matches_1 ⟨Nat.le_of_ble_eq_true rfl, Nat.le_of_ble_eq_true rfl⟩)) (fun r1 e1 => ?_)
  subst e1
  refine lv_aload_n hx hb d_Ru_matches_4 rfl (lv_at hl 0 rfl) ?_
  refine va_get (D := D) (ci := 7) (v := .int ((P.2.2.2.2 i).2.1)) (C := R_Ru) (T := F_Ru) (N := 5) hx hb hts in_Ru hown hK hP (13 + 6 * i + 0) (wC_ru (by omega)) rfl 2 (by decide) (hts _ wd_112) (fun _ h9 => h9) rfl d_Ru_matches_5 ?_
  refine lv_icmp_lt (tgt := 22) hx hb d_Ru_matches_8 (by decide) (fun h1 => ?_) (fun h1 => ?_)
  · refine lv_iconst (v := 0) hx hb d_Ru_matches_22 (by decide) ?_
    exact W.zret hx hb hr rfl (fun t ht hW => ⟨_, rfl, (by rw [m_Ru_matches, if_pos h1]), ht⟩) (fun _ h => by cases h) d_Ru_matches_23
  refine lv_aload_n hx hb d_Ru_matches_11 rfl (lv_at hl 1 rfl) ?_
  refine vp_callSi (va_Run.run (va_runV (As := []) (rest := []) ⟨hx, hb, hml, hown, hts⟩ (c_Ca_number l D dA ad w P g ss M) (cwV 0 hts (g_V wd_309 wd_297 wd_298 wd_27 wd_299) rfl rfl rfl (by decide +kernel) ⟨Nat.le_of_ble_eq_true rfl, Nat.le_of_ble_eq_true rfl⟩) ⟨CG_fb, (va_recv (ci := 1) (q := (R_Ca, F_Ca, 1)) (q0 := 1) hK hP rfl rfl), fun U hU hW => ⟨rfl, CG_at hP hK hN hU hW⟩⟩ rfl rfl hl.1 rfl (lv_room (Nat.le_of_ble_eq_true rfl)) d_Ru_matches_12 ⟨Nat.le_of_ble_eq_true rfl, Nat.le_of_ble_eq_true rfl⟩)) (fun r2 e2 => ?_)
  subst e2
  refine lv_aload_n hx hb d_Ru_matches_15 rfl (lv_at hl 0 rfl) ?_
  refine va_get (D := D) (ci := 7) (v := .int ((P.2.2.2.2 i).2.2.1)) (C := R_Ru) (T := F_Ru) (N := 5) hx hb hts in_Ru hown hK hP (13 + 6 * i + 0) (wC_ru (by omega)) rfl 3 (by decide) (hts _ wd_113) (fun _ h9 => h9) rfl d_Ru_matches_16 ?_
  refine lv_icmp_le (tgt := 24) hx hb d_Ru_matches_19 (by decide) (fun h2 => ?_) (fun h2 => ?_)
  · refine lv_iconst (v := 0) hx hb d_Ru_matches_24 (by decide) ?_
    refine lv_istore_n hx hb d_Ru_matches_25 rfl hl (by decide) rfl (fun ls hl => ?_)
    have hl : lv_has ls 3 [(2, .int (0 : Int32)), (0, .ref (ad (13 + 6 * i))), (1, .ref (ad 1))] := hl
    refine W_loopR1 (X := fun (n1 : Nat) (j : Nat) (ls : Array Slot) => 3 - j < n1 ∧ m_Ru_matches w P i = m_Ru_matches_l1 w P i n1 j ∧ lv_has ls 3 [(2, .int (nI j)), (0, .ref (ad (13 + 6 * i))), (1, .ref (ad 1))] ∧ j ≤ 3) (4) 0 ⟨(by decide), (by rw [m_Ru_matches, if_neg h1, if_pos h2]), (lv_sub hl [0, 1, 2] rfl), (by decide)⟩ (fun _ _ h => absurd h.1 (Nat.not_lt_zero _)) (fun n1 ih1 j ls h => ?_)
    obtain ⟨hn1, hm1, hl, hj⟩ := h
    refine lv_iload_n hx hb d_Ru_matches_26 rfl (lv_at hl 0 rfl) ?_
    refine lv_aload_n hx hb d_Ru_matches_27 rfl (lv_at hl 1 rfl) ?_
    refine va_get (D := D) (ci := 7) (v := .int ((P.2.2.2.2 i).1)) (C := R_Ru) (T := F_Ru) (N := 5) hx hb hts in_Ru hown hK hP (13 + 6 * i + 0) (wC_ru (by omega)) rfl 1 (by decide) (hts _ wd_110) (fun _ h9 => h9) rfl d_Ru_matches_28 ?_
    refine lv_icmp_ge (tgt := 55) hx hb d_Ru_matches_31 (by decide) (fun h3 => ?_) (fun h3 => ?_)
    · refine lv_iconst (v := 1) hx hb d_Ru_matches_55 (by decide) ?_
      exact W.zret hx hb hr rfl (fun t ht hW => ⟨_, rfl, (by rw [hm1, m_Ru_matches_l1, if_pos h3]), ht⟩) (fun _ h => by cases h) d_Ru_matches_56
    have hjl : j < 3 := Nat.lt_of_lt_of_le (nj_lt hc (by decide) hj h3) hc
    refine lv_aload_n hx hb d_Ru_matches_34 rfl (lv_at hl 1 rfl) ?_
    refine va_get (D := D) (ci := 7) (v := .ref (ad (15 + 6 * i))) (C := R_Ru) (T := F_Ru) (N := 5) hx hb hts in_Ru hown hK hP (13 + 6 * i + 0) (wC_ru (by omega)) rfl 4 (by decide) (hts _ wd_114) (fun _ h9 => h9) rfl d_Ru_matches_35 ?_
    refine lv_iload_n hx hb d_Ru_matches_38 rfl (lv_at hl 0 rfl) ?_
    have hq1 : j < 3 := (by omega)
    refine va_aldq (n := 3) (f := rfs ad 3 (16 + 6 * i) 1) hx hb hK hP (13 + 6 * i + 2) 3 (wC_cs (by omega)) rfl (vp_in_nI (by omega) (by decide)) d_Ru_matches_39 ?_
    refine W.eq (g2 := F0 m 40 ls [.ref (ad (16 + 6 * i + j))]) (by rw [nI_clamp (show j < 2 ^ 31 by omega), rf_at (by omega), Nat.one_mul]) ?_
    refine lv_aload_n hx hb d_Ru_matches_40 rfl (lv_at hl 2 rfl) ?_
    refine vp_callSi (va_Run.run (va_runV (As := [.ref (ad 1)]) (rest := []) ⟨hx, hb, hml, hown, hts⟩ (c_Co_holdsFor l D dA ad w P g ss M i j hi hjl (hp j hjl)) (cwV 1 hts (g_V wd_310 wd_311 wd_312 wd_31 wd_313) rfl rfl rfl (by decide +kernel) ⟨Nat.le_of_ble_eq_true rfl, Nat.le_of_ble_eq_true rfl⟩) ⟨CG_fb, (va_recv (ci := 3) (q := (R_Co, F_Co, 4)) (q0 := (13 + 6 * i + (3 + j))) hK hP rfl (wC_co (by omega) (by omega))), fun U hU hW => ⟨rfl, CG_at hP hK hN hU hW⟩⟩ rfl rfl hl.1 rfl (lv_room (Nat.le_of_ble_eq_true rfl)) d_Ru_matches_41 ⟨Nat.le_of_ble_eq_true rfl, Nat.le_of_ble_eq_true rfl⟩)) (fun r3 e3 => ?_)
    subst e3
    refine lv_if_ne (tgt := 49) hx hb d_Ru_matches_44 (by decide) (fun h4 => ?_) (fun h4 => ?_)
    · refine lv_iinc (v := (nI j) + 1) hx hb d_Ru_matches_49 hl (k := 0) rfl rfl (by decide) rfl (fun ls hl => ?_)
      have hl : lv_has ls 3 [(2, .int ((nI j) + 1)), (0, .ref (ad (13 + 6 * i))), (1, .ref (ad 1))] := hl
      refine lv_goto (tgt := 26) hx hb d_Ru_matches_52 (by decide) ?_
      exact ih1 (j + 1) _ ⟨(by omega), (by rw [hm1, m_Ru_matches_l1, if_neg h3, if_neg h4]), (by have h9 := lv_sub hl [0, 1, 2] rfl; rw [nI_1] at h9; exact h9), (by omega)⟩
    refine lv_iconst (v := 0) hx hb d_Ru_matches_47 (by decide) ?_
    exact W.zret hx hb hr rfl (fun t ht hW => ⟨_, rfl, (by rw [hm1, m_Ru_matches_l1, if_neg h3, if_pos h4]), ht⟩) (fun _ h => by cases h) d_Ru_matches_48
  refine lv_iconst (v := 0) hx hb d_Ru_matches_22 (by decide) ?_
  exact W.zret hx hb hr rfl (fun t ht hW => ⟨_, rfl, (by rw [m_Ru_matches, if_neg h1, if_neg h2]), ht⟩) (fun _ h => by cases h) d_Ru_matches_23
def m_Po_add (P : PT) (fr : Int32) (to : Int32) (kd : Int32) (dt : Int32) : Int32 × PT := ((((m_Ru_become P (P.2.1.toNatClampNeg) fr to kd dt).2.1) + (1 : Int32)) - (1 : Int32), ((m_Ru_become P (P.2.1.toNatClampNeg) fr to kd dt).1, ((m_Ru_become P (P.2.1.toNatClampNeg) fr to kd dt).2.1) + (1 : Int32), (m_Ru_become P (P.2.1.toNatClampNeg) fr to kd dt).2.2.1, (m_Ru_become P (P.2.1.toNatClampNeg) fr to kd dt).2.2.2.1, (m_Ru_become P (P.2.1.toNatClampNeg) fr to kd dt).2.2.2.2))
set_option maxHeartbeats 4000000 in
set_option maxRecDepth 100000 in
theorem c_Po_add (l : Launch) (D : va_G) (dA : Nat → ClassId) (ad : Nat → Nat) (A : Nat → Prop) (hAd : AdOK 49 ad A) (w : Nat → Int32) (P : PT) (g : GT) (ss : Nat → Int32) (M : MT) (fr : Int32) (to : Int32) (kd : Int32) (dt : Int32) (hv : vp_in P.2.1 6) : Met l y_Po_add (mW y_Po_add b_Po_add 5 (some .int)) { frames := 2, cells := 0, slots := 0, locals := 46 } (va_Pc [.ref (ad 3), .int fr, .int to, .int kd, .int dt] (fun U => CG D dA ad w P g ss M U)) (va_Qi (fun (r : Int32) (u : PT) => r = (m_Po_add P fr to kd dt).1 ∧ u = (m_Po_add P fr to kd dt).2) (fun u t => CG D dA ad w u g ss M t) A) 0 0 A := by
  refine Met.ofW (cc := b_Po_add) (maxL := 5) (ret := (some .int)) (by decide) rfl ?_
  intro p e s m args below meth c s₁ B hml hv
  obtain ⟨rfl, hP, hK, hN⟩ := hv
  have hx := B.exec
  have hb := B.bytes
  have hr := B.returns
  have hlocks := B.notSynchronized
  have hts := fun (w : Cond) (h : w ∈ lw_g) => atoms_spec (ws := mW y_Po_add b_Po_add 5 (some .int)) B.pre w (List.mem_cons_of_mem _ h)
  have hown : s.vm.findClass R_Po = some m.cls := findClass_of_methodNamed B.named
  have hS : va_S A s.heap s.heap [] := va_S.rf
  have hl := lv_entry ([.ref (ad 3), .int fr, .int to, .int kd, .int dt]) (n := 5) (Nat.le_of_ble_eq_true rfl)
  rw [lg_entry_eq]
  generalize (lg_sl ([.ref (ad 3), .int fr, .int to, .int kd, .int dt]) ++ List.replicate (5 - (lg_sl ([.ref (ad 3), .int fr, .int to, .int kd, .int dt])).length) Slot.unset).toArray = ls at hl ⊢
  have hl : lv_has ls 5 [(0, .ref (ad 3)), (1, .int fr), (2, .int to), (3, .int kd), (4, .int dt)] := hl
  refine lv_aload_n hx hb d_Po_add_0 rfl (lv_at hl 0 rfl) ?_
  refine va_get (D := D) (ci := 5) (v := .ref (ad 6)) (C := R_Po) (T := F_Po) (N := 5) hx hb hts in_Po hown hK hP 3 rfl rfl 2 (by decide) (hts _ wd_130) (fun _ h9 => h9) rfl d_Po_add_1 ?_
  refine lv_aload_n hx hb d_Po_add_4 rfl (lv_at hl 0 rfl) ?_
  refine va_get (D := D) (ci := 5) (v := .int P.2.1) (C := R_Po) (T := F_Po) (N := 5) hx hb hts in_Po hown hK hP 3 rfl rfl 3 (by decide) (hts _ wd_132) (fun _ h9 => h9) rfl d_Po_add_5 ?_
  have hq1 : (P.2.1.toNatClampNeg) < 6 := (vp_cl hv)
  refine va_aldq (n := 6) (f := rfs ad 6 13 6) hx hb hK hP 6 2 rfl rfl hv d_Po_add_8 ?_
  refine W.eq (g2 := F0 m 9 ls [.ref (ad (13 + 6 * (P.2.1.toNatClampNeg)))]) (by rw [rf_at (vp_cl hv)]) ?_
  refine lv_iload_n hx hb d_Po_add_9 rfl (lv_at hl 1 rfl) ?_
  refine lv_iload_n hx hb d_Po_add_10 rfl (lv_at hl 2 rfl) ?_
  refine lv_iload_n hx hb d_Po_add_11 rfl (lv_at hl 3 rfl) ?_
  refine lv_iload hx hb d_Po_add_12 (lv_at hl 4 rfl) ?_
  refine va_callv (va_runV (As := [.int fr, .int to, .int kd, .int dt]) (rest := []) ⟨hx, hb, hml, hown, hts⟩ (c_Ru_become l D dA ad A hAd w P g ss M (P.2.1.toNatClampNeg) fr to kd dt (vp_cl hv)) (cwV 4 hts (g_V wd_252 wd_253 wd_254 wd_30 wd_255) rfl rfl rfl (by decide +kernel) ⟨Nat.le_of_ble_eq_true rfl, Nat.le_of_ble_eq_true rfl⟩) ⟨CG_fb, (va_recv (ci := 7) (q := (R_Ru, F_Ru, 5)) (q0 := (13 + 6 * (P.2.1.toNatClampNeg) + 0)) hK hP rfl (wC_ru (by omega))), fun U hU hW => ⟨rfl, CG_at hP hK hN hU hW⟩⟩ rfl rfl hl.1 rfl (lv_room (Nat.le_of_ble_eq_true rfl)) d_Po_add_14 ⟨Nat.le_of_ble_eq_true rfl, Nat.le_of_ble_eq_true rfl⟩) hS (fun _ _ h => h) (fun _ h => h) (fun u1 t H locs ht hvm hu hB hz hk hS => ?_)
  subst hu
  obtain ⟨hP, -⟩ := hB
  rw [ht] at hP
  have hP : va_P D cls (wC ad dA w (m_Ru_become P (P.2.1.toNatClampNeg) fr to kd dt) g ss M) H := hP
  refine lv_aload_n hx hb d_Po_add_17 rfl (lv_at hl 0 rfl) ?_
  refine lv_dup hx hb d_Po_add_18 rfl ?_
  refine va_get (D := D) (ci := 5) (v := .int ((m_Ru_become P (P.2.1.toNatClampNeg) fr to kd dt).2.1)) (C := R_Po) (T := F_Po) (N := 5) hx hb hts in_Po hown hK hP 3 rfl rfl 3 (by decide) (hts _ wd_132) (fun _ h9 => h9) rfl d_Po_add_19 ?_
  refine lv_iconst (v := 1) hx hb d_Po_add_22 (by decide) ?_
  refine lv_iadd hx hb d_Po_add_23 ?_
  refine va_put (D := D) (ci := 5) (v := .int (((m_Ru_become P (P.2.1.toNatClampNeg) fr to kd dt).2.1) + (1 : Int32))) (ty := .int) (C := R_Po) (T := F_Po) (N := 5) hx hb hts in_Po t_Po k_Po n_Po hown hK hP (wC_D hAd) hS 3 rfl rfl 3 (by decide) (hts _ wd_132) (fun _ h9 => h9) rfl (by decide +kernel) rfl rfl (Nat.le_of_ble_eq_true rfl) d_Po_add_24 (fun H locs hP _ hS => ?_)
  have hP : va_P D cls (wC ad dA w ((m_Ru_become P (P.2.1.toNatClampNeg) fr to kd dt).1, ((m_Ru_become P (P.2.1.toNatClampNeg) fr to kd dt).2.1) + (1 : Int32), (m_Ru_become P (P.2.1.toNatClampNeg) fr to kd dt).2.2.1, (m_Ru_become P (P.2.1.toNatClampNeg) fr to kd dt).2.2.2.1, (m_Ru_become P (P.2.1.toNatClampNeg) fr to kd dt).2.2.2.2) g ss M) H := hP
  refine lv_aload_n hx hb d_Po_add_27 rfl (lv_at hl 0 rfl) ?_
  refine va_get (D := D) (ci := 5) (v := .int (((m_Ru_become P (P.2.1.toNatClampNeg) fr to kd dt).2.1) + (1 : Int32))) (C := R_Po) (T := F_Po) (N := 5) hx hb hts in_Po hown hK hP 3 rfl rfl 3 (by decide) (hts _ wd_132) (fun _ h9 => h9) rfl d_Po_add_28 ?_
  refine lv_iconst (v := 1) hx hb d_Po_add_31 (by decide) ?_
  refine lv_isub hx hb d_Po_add_32 ?_
  exact W.iret hx hb hr (fun t ht hW => ⟨⟨_, _, rfl, ⟨(by rw [m_Po_add]), (by rw [m_Po_add])⟩, CG_at hP hK hN ht hW⟩, hS.F ht⟩) hS.2.2 d_Po_add_33
def m_Po_isStricter (P : PT) (i : Nat) (ch : Int32) : Int32 := if ch = (-1 : Int32) then (1 : Int32) else if ((P.2.2.2.2 (ch.toNatClampNeg)).2.2.2.1) ≤ ((P.2.2.2.2 i).2.2.2.1) then (0 : Int32) else (1 : Int32)
set_option maxHeartbeats 4000000 in
set_option maxRecDepth 100000 in
theorem c_Po_isStricter (l : Launch) (D : va_G) (dA : Nat → ClassId) (ad : Nat → Nat) (w : Nat → Int32) (P : PT) (g : GT) (ss : Nat → Int32) (M : MT) (i : Nat) (ch : Int32) (hi : i < 6) (hch : ¬ ch = (-1 : Int32) → vp_in ch 6) : Met l y_Po_isStricter (mW y_Po_isStricter b_Po_isStricter 3 (some .boolean)) { frames := 0, cells := 0, slots := 0, locals := 0 } (va_Pc [.ref (ad 3), .int (nI i), .int ch] (fun U => CG D dA ad w P g ss M U)) (vp_Si (fun r => r = m_Po_isStricter P i ch)) 0 0 (fun _ => False) := by
  refine Met.ofW (cc := b_Po_isStricter) (maxL := 3) (ret := (some .boolean)) (by decide) rfl ?_
  intro p e s m args below meth c s₁ B hml hv
  obtain ⟨rfl, hP, hK, hN⟩ := hv
  have hx := B.exec
  have hb := B.bytes
  have hr := B.returns
  have hlocks := B.notSynchronized
  have hts := fun (w : Cond) (h : w ∈ lw_g) => atoms_spec (ws := mW y_Po_isStricter b_Po_isStricter 3 (some .boolean)) B.pre w (List.mem_cons_of_mem _ h)
  have hown : s.vm.findClass R_Po = some m.cls := findClass_of_methodNamed B.named
  have hl := lv_entry ([.ref (ad 3), .int (nI i), .int ch]) (n := 3) (Nat.le_of_ble_eq_true rfl)
  rw [lg_entry_eq]
  generalize (lg_sl ([.ref (ad 3), .int (nI i), .int ch]) ++ List.replicate (3 - (lg_sl ([.ref (ad 3), .int (nI i), .int ch])).length) Slot.unset).toArray = ls at hl ⊢
  have hl : lv_has ls 3 [(0, .ref (ad 3)), (1, .int (nI i)), (2, .int ch)] := hl
  refine lv_iload_n hx hb d_Po_isStricter_0 rfl (lv_at hl 2 rfl) ?_
  refine lv_iconst (v := -1) hx hb d_Po_isStricter_1 (by decide) ?_
  refine lv_icmp_eq (tgt := 32) hx hb d_Po_isStricter_2 (by decide) (fun h1 => ?_) (fun h1 => ?_)
  · refine lv_iconst (v := 1) hx hb d_Po_isStricter_32 (by decide) ?_
    refine lv_goto (tgt := 37) hx hb d_Po_isStricter_33 (by decide) ?_
    exact W.zret hx hb hr rfl (fun t ht hW => ⟨_, rfl, (by rw [m_Po_isStricter, if_pos h1]), ht⟩) (fun _ h => by cases h) d_Po_isStricter_37
  refine lv_aload_n hx hb d_Po_isStricter_5 rfl (lv_at hl 0 rfl) ?_
  refine va_get (D := D) (ci := 5) (v := .ref (ad 6)) (C := R_Po) (T := F_Po) (N := 5) hx hb hts in_Po hown hK hP 3 rfl rfl 2 (by decide) (hts _ wd_130) (fun _ h9 => h9) rfl d_Po_isStricter_6 ?_
  refine lv_iload_n hx hb d_Po_isStricter_9 rfl (lv_at hl 1 rfl) ?_
  have hq1 : i < 6 := (by omega)
  refine va_aldq (n := 6) (f := rfs ad 6 13 6) hx hb hK hP 6 2 rfl rfl (vp_in_nI (by omega) (by decide)) d_Po_isStricter_10 ?_
  refine W.eq (g2 := F0 m 11 ls [.ref (ad (13 + 6 * i))]) (by rw [nI_clamp (show i < 2 ^ 31 by omega), rf_at (by omega)]) ?_
  refine va_get (D := D) (ci := 7) (v := .ref (ad (14 + 6 * i))) (C := R_Ru) (T := F_Ru) (N := 5) hx hb hts in_Ru hown hK hP (13 + 6 * i + 0) (wC_ru (by omega)) rfl 0 (by decide) (hts _ wd_109) (fun _ h9 => h9) rfl d_Po_isStricter_11 ?_
  refine va_get (D := D) (ci := 0) (v := .int ((P.2.2.2.2 i).2.2.2.1)) (C := R_Ac) (T := F_Ac) (N := 2) hx hb hts in_Ac hown hK hP (13 + 6 * i + 1) (wC_ra (by omega)) rfl 0 (by decide) (hts _ wd_72) (fun _ h9 => h9) rfl d_Po_isStricter_14 ?_
  refine lv_aload_n hx hb d_Po_isStricter_17 rfl (lv_at hl 0 rfl) ?_
  refine va_get (D := D) (ci := 5) (v := .ref (ad 6)) (C := R_Po) (T := F_Po) (N := 5) hx hb hts in_Po hown hK hP 3 rfl rfl 2 (by decide) (hts _ wd_130) (fun _ h9 => h9) rfl d_Po_isStricter_18 ?_
  refine lv_iload_n hx hb d_Po_isStricter_21 rfl (lv_at hl 2 rfl) ?_
  have hq2 : (ch.toNatClampNeg) < 6 := (vp_cl (hch (by assumption)))
  refine va_aldq (n := 6) (f := rfs ad 6 13 6) hx hb hK hP 6 2 rfl rfl (hch (by assumption)) d_Po_isStricter_22 ?_
  refine W.eq (g2 := F0 m 23 ls [.ref (ad (13 + 6 * (ch.toNatClampNeg))), .int ((P.2.2.2.2 i).2.2.2.1)]) (by rw [rf_at (vp_cl (hch (by assumption)))]) ?_
  refine va_get (D := D) (ci := 7) (v := .ref (ad (14 + 6 * (ch.toNatClampNeg)))) (C := R_Ru) (T := F_Ru) (N := 5) hx hb hts in_Ru hown hK hP (13 + 6 * (ch.toNatClampNeg) + 0) (wC_ru (by omega)) rfl 0 (by decide) (hts _ wd_109) (fun _ h9 => h9) rfl d_Po_isStricter_23 ?_
  refine va_get (D := D) (ci := 0) (v := .int ((P.2.2.2.2 (ch.toNatClampNeg)).2.2.2.1)) (C := R_Ac) (T := F_Ac) (N := 2) hx hb hts in_Ac hown hK hP (13 + 6 * (ch.toNatClampNeg) + 1) (wC_ra (by omega)) rfl 0 (by decide) (hts _ wd_72) (fun _ h9 => h9) rfl d_Po_isStricter_26 ?_
  refine lv_icmp_ge (tgt := 36) hx hb d_Po_isStricter_29 (by decide) (fun h2 => ?_) (fun h2 => ?_)
  · refine lv_iconst (v := 0) hx hb d_Po_isStricter_36 (by decide) ?_
    exact W.zret hx hb hr rfl (fun t ht hW => ⟨_, rfl, (by rw [m_Po_isStricter, if_neg h1, if_pos h2]), ht⟩) (fun _ h => by cases h) d_Po_isStricter_37
  refine lv_iconst (v := 1) hx hb d_Po_isStricter_32 (by decide) ?_
  refine lv_goto (tgt := 37) hx hb d_Po_isStricter_33 (by decide) ?_
  exact W.zret hx hb hr rfl (fun t ht hW => ⟨_, rfl, (by rw [m_Po_isStricter, if_neg h1, if_neg h2]), ht⟩) (fun _ h => by cases h) d_Po_isStricter_37
def m_Po_actionOf (P : PT) (ch : Int32) : Nat := if ch = (-2 : Int32) then 5 else if ch = (-1 : Int32) then 4 else (14 + 6 * (ch.toNatClampNeg))
set_option maxHeartbeats 4000000 in
set_option maxRecDepth 100000 in
theorem c_Po_actionOf (l : Launch) (D : va_G) (dA : Nat → ClassId) (ad : Nat → Nat) (w : Nat → Int32) (P : PT) (g : GT) (ss : Nat → Int32) (M : MT) (ch : Int32) (hch : ¬ ch = (-2 : Int32) → ¬ ch = (-1 : Int32) → vp_in ch 6) : Met l y_Po_actionOf (mW y_Po_actionOf b_Po_actionOf 2 (some (.object "CallFilter$Action"))) { frames := 0, cells := 0, slots := 0, locals := 0 } (va_Pc [.ref (ad 3), .int ch] (fun U => CG D dA ad w P g ss M U)) (vp_Sr (fun r => r = ad (m_Po_actionOf P ch))) 0 0 (fun _ => False) := by
  refine Met.ofW (cc := b_Po_actionOf) (maxL := 2) (ret := (some (.object "CallFilter$Action"))) (by decide) rfl ?_
  intro p e s m args below meth c s₁ B hml hv
  obtain ⟨rfl, hP, hK, hN⟩ := hv
  have hx := B.exec
  have hb := B.bytes
  have hr := B.returns
  have hlocks := B.notSynchronized
  have hts := fun (w : Cond) (h : w ∈ lw_g) => atoms_spec (ws := mW y_Po_actionOf b_Po_actionOf 2 (some (.object "CallFilter$Action"))) B.pre w (List.mem_cons_of_mem _ h)
  have hown : s.vm.findClass R_Po = some m.cls := findClass_of_methodNamed B.named
  have hl := lv_entry ([.ref (ad 3), .int ch]) (n := 2) (Nat.le_of_ble_eq_true rfl)
  rw [lg_entry_eq]
  generalize (lg_sl ([.ref (ad 3), .int ch]) ++ List.replicate (2 - (lg_sl ([.ref (ad 3), .int ch])).length) Slot.unset).toArray = ls at hl ⊢
  have hl : lv_has ls 2 [(0, .ref (ad 3)), (1, .int ch)] := hl
  refine lv_iload_n hx hb d_Po_actionOf_0 rfl (lv_at hl 1 rfl) ?_
  refine lv_bipush (v := -2) hx hb d_Po_actionOf_1 (by decide) ?_
  refine lv_icmp_ne (tgt := 11) hx hb d_Po_actionOf_3 (by decide) (fun h1 => ?_) (fun h1 => ?_)
  · refine lv_iload_n hx hb d_Po_actionOf_11 rfl (lv_at hl 1 rfl) ?_
    refine lv_iconst (v := -1) hx hb d_Po_actionOf_12 (by decide) ?_
    refine lv_icmp_ne (tgt := 23) hx hb d_Po_actionOf_13 (by decide) (fun h2 => ?_) (fun h2 => ?_)
    · refine lv_aload_n hx hb d_Po_actionOf_23 rfl (lv_at hl 0 rfl) ?_
      refine va_get (D := D) (ci := 5) (v := .ref (ad 6)) (C := R_Po) (T := F_Po) (N := 5) hx hb hts in_Po hown hK hP 3 rfl rfl 2 (by decide) (hts _ wd_130) (fun _ h9 => h9) rfl d_Po_actionOf_24 ?_
      refine lv_iload_n hx hb d_Po_actionOf_27 rfl (lv_at hl 1 rfl) ?_
      have hq1 : (ch.toNatClampNeg) < 6 := (vp_cl (hch (by assumption) (by assumption)))
      refine va_aldq (n := 6) (f := rfs ad 6 13 6) hx hb hK hP 6 2 rfl rfl (hch (by assumption) (by assumption)) d_Po_actionOf_28 ?_
      refine W.eq (g2 := F0 m 29 ls [.ref (ad (13 + 6 * (ch.toNatClampNeg)))]) (by rw [rf_at (vp_cl (hch (by assumption) (by assumption)))]) ?_
      refine va_get (D := D) (ci := 7) (v := .ref (ad (14 + 6 * (ch.toNatClampNeg)))) (C := R_Ru) (T := F_Ru) (N := 5) hx hb hts in_Ru hown hK hP (13 + 6 * (ch.toNatClampNeg) + 0) (wC_ru (by omega)) rfl 0 (by decide) (hts _ wd_109) (fun _ h9 => h9) rfl d_Po_actionOf_29 ?_
      exact W.aret hx hb hr (Or.inl ⟨_, rfl⟩) (Or.inr ⟨_, rfl⟩) (fun t ht hW => ⟨_, rfl, (by rw [m_Po_actionOf, if_neg h1, if_neg h2]), ht⟩) (fun _ h => by cases h) d_Po_actionOf_32
    refine lv_aload_n hx hb d_Po_actionOf_16 rfl (lv_at hl 0 rfl) ?_
    refine va_get (D := D) (ci := 5) (v := .ref (ad 4)) (C := R_Po) (T := F_Po) (N := 5) hx hb hts in_Po hown hK hP 3 rfl rfl 0 (by decide) (hts _ wd_126) (fun _ h9 => h9) rfl d_Po_actionOf_17 ?_
    refine lv_goto (tgt := 32) hx hb d_Po_actionOf_20 (by decide) ?_
    exact W.aret hx hb hr (Or.inl ⟨_, rfl⟩) (Or.inr ⟨_, rfl⟩) (fun t ht hW => ⟨_, rfl, (by rw [m_Po_actionOf, if_neg h1, if_pos h2]), ht⟩) (fun _ h => by cases h) d_Po_actionOf_32
  refine lv_aload_n hx hb d_Po_actionOf_6 rfl (lv_at hl 0 rfl) ?_
  refine va_get (D := D) (ci := 5) (v := .ref (ad 5)) (C := R_Po) (T := F_Po) (N := 5) hx hb hts in_Po hown hK hP 3 rfl rfl 1 (by decide) (hts _ wd_128) (fun _ h9 => h9) rfl d_Po_actionOf_7 ?_
  exact W.aret hx hb hr (Or.inl ⟨_, rfl⟩) (Or.inr ⟨_, rfl⟩) (fun t ht hW => ⟨_, rfl, (by rw [m_Po_actionOf, if_pos h1]), ht⟩) (fun _ h => by cases h) d_Po_actionOf_10
def m_Po_chooseFor_l1 (w : Nat → Int32) (P : PT) : Nat → Int32 → Nat → Int32
  | 0, _, _ => 0
  | n1 + 1, ch, i => if P.2.1 ≤ (nI i) then ch else if (m_Ru_matches w P i) = (0 : Int32) then m_Po_chooseFor_l1 w P n1 ch (i + 1) else if (m_Po_isStricter P i ch) = (0 : Int32) then m_Po_chooseFor_l1 w P n1 ch (i + 1) else m_Po_chooseFor_l1 w P n1 (nI i) (i + 1)
def m_Po_chooseFor (w : Nat → Int32) (P : PT) : Int32 := if (m_Ca_isForeignTo w P.1) = (0 : Int32) then m_Po_chooseFor_l1 w P (7) (-1 : Int32) 0 else (-2 : Int32)
set_option maxHeartbeats 4000000 in
set_option maxRecDepth 100000 in
theorem c_Po_chooseFor (l : Launch) (D : va_G) (dA : Nat → ClassId) (ad : Nat → Nat) (w : Nat → Int32) (P : PT) (g : GT) (ss : Nat → Int32) (M : MT) (hn : iN P.2.1 ≤ 6) (hc : ∀ i, i < 6 → iN (P.2.2.2.2 i).1 ≤ 3) (hp : ∀ i, i < 6 → ∀ j, j < 3 → vp_in ((P.2.2.2.2 i).2.2.2.2.2 j).1 6) : Met l y_Po_chooseFor (mW y_Po_chooseFor b_Po_chooseFor 4 (some .int)) { frames := 4, cells := 0, slots := 0, locals := 87 } (va_Pc [.ref (ad 3), .ref (ad 1)] (fun U => CG D dA ad w P g ss M U)) (vp_Si (fun r => r = m_Po_chooseFor w P)) 0 0 (fun _ => False) := by
  refine Met.ofW (cc := b_Po_chooseFor) (maxL := 4) (ret := (some .int)) (by decide) rfl ?_
  intro p e s m args below meth c s₁ B hml hv
  obtain ⟨rfl, hP, hK, hN⟩ := hv
  have hx := B.exec
  have hb := B.bytes
  have hr := B.returns
  have hlocks := B.notSynchronized
  have hts := fun (w : Cond) (h : w ∈ lw_g) => atoms_spec (ws := mW y_Po_chooseFor b_Po_chooseFor 4 (some .int)) B.pre w (List.mem_cons_of_mem _ h)
  have hown : s.vm.findClass R_Po = some m.cls := findClass_of_methodNamed B.named
  have hl := lv_entry ([.ref (ad 3), .ref (ad 1)]) (n := 4) (Nat.le_of_ble_eq_true rfl)
  rw [lg_entry_eq]
  generalize (lg_sl ([.ref (ad 3), .ref (ad 1)]) ++ List.replicate (4 - (lg_sl ([.ref (ad 3), .ref (ad 1)])).length) Slot.unset).toArray = ls at hl ⊢
  have hl : lv_has ls 4 [(0, .ref (ad 3)), (1, .ref (ad 1))] := hl
  refine lv_aload_n hx hb d_Po_chooseFor_0 rfl (lv_at hl 1 rfl) ?_
  refine lv_aload_n hx hb d_Po_chooseFor_1 rfl (lv_at hl 0 rfl) ?_
  refine va_get (D := D) (ci := 5) (v := .int P.1) (C := R_Po) (T := F_Po) (N := 5) hx hb hts in_Po hown hK hP 3 rfl rfl 4 (by decide) (hts _ wd_134) (fun _ h9 => h9) rfl d_Po_chooseFor_2 ?_
  refine vp_callSi (va_Run.run (va_runV (As := [.int P.1]) (rest := []) ⟨hx, hb, hml, hown, hts⟩ (c_Ca_isForeignTo l D dA ad w P g ss M P.1) (cwV 1 hts (g_V wd_292 wd_293 wd_294 wd_27 wd_295) rfl rfl rfl (by decide +kernel) ⟨Nat.le_of_ble_eq_true rfl, Nat.le_of_ble_eq_true rfl⟩) ⟨CG_fb, (va_recv (ci := 1) (q := (R_Ca, F_Ca, 1)) (q0 := 1) hK hP rfl rfl), fun U hU hW => ⟨rfl, CG_at hP hK hN hU hW⟩⟩ rfl rfl hl.1 rfl (lv_room (Nat.le_of_ble_eq_true rfl)) d_Po_chooseFor_5 ⟨Nat.le_of_ble_eq_true rfl, Nat.le_of_ble_eq_true rfl⟩)) (fun r1 e1 => ?_)
  subst e1
  refine lv_if_eq (tgt := 14) hx hb d_Po_chooseFor_8 (by decide) (fun h1 => ?_) (fun h1 => ?_)
  · refine lv_iconst (v := -1) hx hb d_Po_chooseFor_14 (by decide) ?_
    refine lv_istore_n hx hb d_Po_chooseFor_15 rfl hl (by decide) rfl (fun ls hl => ?_)
    have hl : lv_has ls 4 [(2, .int (-1 : Int32)), (0, .ref (ad 3)), (1, .ref (ad 1))] := hl
    refine lv_iconst (v := 0) hx hb d_Po_chooseFor_16 (by decide) ?_
    refine lv_istore_n hx hb d_Po_chooseFor_17 rfl hl (by decide) rfl (fun ls hl => ?_)
    have hl : lv_has ls 4 [(3, .int (0 : Int32)), (2, .int (-1 : Int32)), (0, .ref (ad 3)), (1, .ref (ad 1))] := hl
    refine W_loopR2 (X := fun (n1 : Nat) (ch : Int32) (i : Nat) (ls : Array Slot) => 6 - i < n1 ∧ m_Po_chooseFor w P = m_Po_chooseFor_l1 w P n1 ch i ∧ lv_has ls 4 [(3, .int (nI i)), (2, .int ch), (0, .ref (ad 3)), (1, .ref (ad 1))] ∧ i ≤ 6 ∧ (¬ ch = (-1 : Int32) → vp_in ch 6)) (7) (-1 : Int32) 0 ⟨(by decide), (by rw [m_Po_chooseFor, if_pos h1]), (lv_sub hl [0, 1, 2, 3] rfl), (by decide), (fun h => absurd rfl h)⟩ (fun _ _ _ h => absurd h.1 (Nat.not_lt_zero _)) (fun n1 ih1 ch i ls h => ?_)
    obtain ⟨hn1, hm1, hl, hi, hch⟩ := h
    refine lv_iload_n hx hb d_Po_chooseFor_18 rfl (lv_at hl 0 rfl) ?_
    refine lv_aload_n hx hb d_Po_chooseFor_19 rfl (lv_at hl 2 rfl) ?_
    refine va_get (D := D) (ci := 5) (v := .int P.2.1) (C := R_Po) (T := F_Po) (N := 5) hx hb hts in_Po hown hK hP 3 rfl rfl 3 (by decide) (hts _ wd_132) (fun _ h9 => h9) rfl d_Po_chooseFor_20 ?_
    refine lv_icmp_ge (tgt := 56) hx hb d_Po_chooseFor_23 (by decide) (fun h2 => ?_) (fun h2 => ?_)
    · refine lv_iload_n hx hb d_Po_chooseFor_56 rfl (lv_at hl 1 rfl) ?_
      exact W.iret hx hb hr (fun t ht hW => ⟨_, rfl, (by rw [hm1, m_Po_chooseFor_l1, if_pos h2]), ht⟩) (fun _ h => by cases h) d_Po_chooseFor_57
    have hil : i < 6 := Nat.lt_of_lt_of_le (nj_lt hn (by decide) hi h2) hn
    refine lv_aload_n hx hb d_Po_chooseFor_26 rfl (lv_at hl 2 rfl) ?_
    refine va_get (D := D) (ci := 5) (v := .ref (ad 6)) (C := R_Po) (T := F_Po) (N := 5) hx hb hts in_Po hown hK hP 3 rfl rfl 2 (by decide) (hts _ wd_130) (fun _ h9 => h9) rfl d_Po_chooseFor_27 ?_
    refine lv_iload_n hx hb d_Po_chooseFor_30 rfl (lv_at hl 0 rfl) ?_
    have hq1 : i < 6 := (by omega)
    refine va_aldq (n := 6) (f := rfs ad 6 13 6) hx hb hK hP 6 2 rfl rfl (vp_in_nI (by omega) (by decide)) d_Po_chooseFor_31 ?_
    refine W.eq (g2 := F0 m 32 ls [.ref (ad (13 + 6 * i))]) (by rw [nI_clamp (show i < 2 ^ 31 by omega), rf_at (by omega)]) ?_
    refine lv_aload_n hx hb d_Po_chooseFor_32 rfl (lv_at hl 3 rfl) ?_
    refine vp_callSi (va_Run.run (va_runV (As := [.ref (ad 1)]) (rest := []) ⟨hx, hb, hml, hown, hts⟩ (c_Ru_matches l D dA ad w P g ss M i hil (hc i hil) (hp i hil)) (cwV 1 hts (g_V wd_305 wd_306 wd_307 wd_30 wd_308) rfl rfl rfl (by decide +kernel) ⟨Nat.le_of_ble_eq_true rfl, Nat.le_of_ble_eq_true rfl⟩) ⟨CG_fb, (va_recv (ci := 7) (q := (R_Ru, F_Ru, 5)) (q0 := (13 + 6 * i + 0)) hK hP rfl (wC_ru (by omega))), fun U hU hW => ⟨rfl, CG_at hP hK hN hU hW⟩⟩ rfl rfl hl.1 rfl (lv_room (Nat.le_of_ble_eq_true rfl)) d_Po_chooseFor_33 ⟨Nat.le_of_ble_eq_true rfl, Nat.le_of_ble_eq_true rfl⟩)) (fun r2 e2 => ?_)
    subst e2
    refine lv_if_eq (tgt := 50) hx hb d_Po_chooseFor_36 (by decide) (fun h3 => ?_) (fun h3 => ?_)
    · refine lv_iinc (v := (nI i) + 1) hx hb d_Po_chooseFor_50 hl (k := 0) rfl rfl (by decide) rfl (fun ls hl => ?_)
      have hl : lv_has ls 4 [(3, .int ((nI i) + 1)), (2, .int ch), (0, .ref (ad 3)), (1, .ref (ad 1))] := hl
      refine lv_goto (tgt := 18) hx hb d_Po_chooseFor_53 (by decide) ?_
      exact ih1 ch (i + 1) _ ⟨(by omega), (by rw [hm1, m_Po_chooseFor_l1, if_neg h2, if_pos h3]), (by have h9 := lv_sub hl [0, 1, 2, 3] rfl; rw [nI_1] at h9; exact h9), (by omega), hch⟩
    refine lv_aload_n hx hb d_Po_chooseFor_39 rfl (lv_at hl 2 rfl) ?_
    refine lv_iload_n hx hb d_Po_chooseFor_40 rfl (lv_at hl 0 rfl) ?_
    refine lv_iload_n hx hb d_Po_chooseFor_41 rfl (lv_at hl 1 rfl) ?_
    refine vp_callSi (va_Run.run (va_runV (As := [.int (nI i), .int ch]) (rest := []) ⟨hx, hb, hml, hown, hts⟩ (c_Po_isStricter l D dA ad w P g ss M i ch hil hch) (cwV 2 hts (g_V wd_322 wd_324 wd_0 wd_28 wd_325) rfl rfl rfl (by decide +kernel) ⟨Nat.le_of_ble_eq_true rfl, Nat.le_of_ble_eq_true rfl⟩) ⟨CG_fb, (va_recv (ci := 5) (q := (R_Po, F_Po, 5)) (q0 := 3) hK hP rfl rfl), fun U hU hW => ⟨rfl, CG_at hP hK hN hU hW⟩⟩ rfl rfl hl.1 rfl (lv_room (Nat.le_of_ble_eq_true rfl)) d_Po_chooseFor_42 ⟨Nat.le_of_ble_eq_true rfl, Nat.le_of_ble_eq_true rfl⟩)) (fun r3 e3 => ?_)
    subst e3
    refine lv_if_eq (tgt := 50) hx hb d_Po_chooseFor_45 (by decide) (fun h4 => ?_) (fun h4 => ?_)
    · refine lv_iinc (v := (nI i) + 1) hx hb d_Po_chooseFor_50 hl (k := 0) rfl rfl (by decide) rfl (fun ls hl => ?_)
      have hl : lv_has ls 4 [(3, .int ((nI i) + 1)), (2, .int ch), (0, .ref (ad 3)), (1, .ref (ad 1))] := hl
      refine lv_goto (tgt := 18) hx hb d_Po_chooseFor_53 (by decide) ?_
      exact ih1 ch (i + 1) _ ⟨(by omega), (by rw [hm1, m_Po_chooseFor_l1, if_neg h2, if_neg h3, if_pos h4]), (by have h9 := lv_sub hl [0, 1, 2, 3] rfl; rw [nI_1] at h9; exact h9), (by omega), hch⟩
    refine lv_iload_n hx hb d_Po_chooseFor_48 rfl (lv_at hl 0 rfl) ?_
    refine lv_istore_n hx hb d_Po_chooseFor_49 rfl hl (by decide) rfl (fun ls hl => ?_)
    have hl : lv_has ls 4 [(2, .int (nI i)), (3, .int (nI i)), (0, .ref (ad 3)), (1, .ref (ad 1))] := hl
    refine lv_iinc (v := (nI i) + 1) hx hb d_Po_chooseFor_50 hl (k := 1) rfl rfl (by decide) rfl (fun ls hl => ?_)
    have hl : lv_has ls 4 [(3, .int ((nI i) + 1)), (2, .int (nI i)), (0, .ref (ad 3)), (1, .ref (ad 1))] := hl
    refine lv_goto (tgt := 18) hx hb d_Po_chooseFor_53 (by decide) ?_
    exact ih1 (nI i) (i + 1) _ ⟨(by omega), (by rw [hm1, m_Po_chooseFor_l1, if_neg h2, if_neg h3, if_neg h4]), (by have h9 := lv_sub hl [0, 1, 2, 3] rfl; rw [nI_1] at h9; exact h9), (by omega), (fun _ => vp_in_nI hil (by decide))⟩
  refine lv_bipush (v := -2) hx hb d_Po_chooseFor_11 (by decide) ?_
  exact W.iret hx hb hr (fun t ht hW => ⟨_, rfl, (by rw [m_Po_chooseFor, if_neg h1]), ht⟩) (fun _ h => by cases h) d_Po_chooseFor_13
end
section
theorem chl_rng {w : Nat → Int32} {P : PT} (hn : iN P.2.1 ≤ 6) : ∀ (n : Nat) (ch : Int32) (i : Nat), 6 - i < n → i ≤ 6 → (¬ ch = (-1 : Int32) → vp_in ch 6) → ¬ m_Po_chooseFor_l1 w P n ch i = (-1 : Int32) → vp_in (m_Po_chooseFor_l1 w P n ch i) 6 := by
  intro n
  induction n with
  | zero => intro ch i h; exact absurd h (Nat.not_lt_zero _)
  | succ n ih =>
    intro ch i h hi hc
    rw [m_Po_chooseFor_l1]
    by_cases h1 : P.2.1 ≤ nI i
    · rw [if_pos h1]
      exact hc
    · rw [if_neg h1]
      have hil : i < 6 := Nat.lt_of_lt_of_le (nj_lt hn (by decide) hi h1) hn
      by_cases h2 : m_Ru_matches w P i = (0 : Int32)
      · rw [if_pos h2]
        exact ih ch (i + 1) (by omega) (by omega) hc
      · rw [if_neg h2]
        by_cases h3 : m_Po_isStricter P i ch = (0 : Int32)
        · rw [if_pos h3]
          exact ih ch (i + 1) (by omega) (by omega) hc
        · rw [if_neg h3]
          exact ih (nI i) (i + 1) (by omega) (by omega) (fun _ => vp_in_nI hil (by decide))
theorem choose_rng {w : Nat → Int32} {P : PT} (hn : iN P.2.1 ≤ 6) (_hc : ∀ i, i < 6 → iN (P.2.2.2.2 i).1 ≤ 3) (h1 : ¬ m_Po_chooseFor w P = (-2 : Int32)) (h2 : ¬ m_Po_chooseFor w P = (-1 : Int32)) : vp_in (m_Po_chooseFor w P) 6 := by
  unfold m_Po_chooseFor at h1 h2 ⊢
  by_cases h : m_Ca_isForeignTo w P.1 = (0 : Int32)
  · rw [if_pos h] at h1 h2 ⊢
    exact chl_rng hn 7 (-1) 0 (by decide) (by decide) (fun q => absurd rfl q) h2
  · rw [if_neg h] at h1
    exact absurd rfl h1
theorem wd_111 : Cond.fieldLink R_F 82 R_Ru "count" "I" ∈ lw_g := wd_in (i := 111) (by decide +kernel) (by decide +kernel)
theorem wd_127 : Cond.fieldLink R_F 92 R_Po "defaultAction" "LCallFilter$Action;" ∈ lw_g := wd_in (i := 127) (by decide +kernel) (by decide +kernel)
theorem wd_129 : Cond.fieldLink R_F 88 R_Po "foreignAction" "LCallFilter$Action;" ∈ lw_g := wd_in (i := 129) (by decide +kernel) (by decide +kernel)
theorem wd_131 : Cond.fieldLink R_F 78 R_Po "rules" "[LCallFilter$Rule;" ∈ lw_g := wd_in (i := 131) (by decide +kernel) (by decide +kernel)
theorem wd_243 : Cond.constant R_F 58 1073741824 ∈ lw_g := wd_in (i := 243) (by decide +kernel) (by decide +kernel)
theorem wd_244 : Cond.methodLink R_F 59 y_Ac_isPossible ∈ lw_g := wd_in (i := 244) (by decide +kernel) (by decide +kernel)
theorem wd_245 : Cond.static y_Ac_isPossible ∈ lw_g := wd_in (i := 245) (by decide +kernel) (by decide +kernel)
theorem wd_246 : Cond.code y_Ac_isPossible prog_2_method_2_code 2 (Option.some Jvm.ClassFile.FieldType.boolean) ∈ lw_g := wd_in (i := 246) (by decide +kernel) (by decide +kernel)
theorem wd_248 : Cond.methodLink R_F 69 y_Po_add ∈ lw_g := wd_in (i := 248) (by decide +kernel) (by decide +kernel)
theorem wd_249 : Cond.instanceMethod y_Po_add ∈ lw_g := wd_in (i := 249) (by decide +kernel) (by decide +kernel)
theorem wd_250 : Cond.selects R_Po y_Po_add y_Po_add ∈ lw_g := wd_in (i := 250) (by decide +kernel) (by decide +kernel)
theorem wd_251 : Cond.code y_Po_add prog_8_method_2_code 5 (Option.some Jvm.ClassFile.FieldType.int) ∈ lw_g := wd_in (i := 251) (by decide +kernel) (by decide +kernel)
theorem wd_264 : Cond.methodLink R_F 73 y_Co_isOperator ∈ lw_g := wd_in (i := 264) (by decide +kernel) (by decide +kernel)
theorem wd_265 : Cond.static y_Co_isOperator ∈ lw_g := wd_in (i := 265) (by decide +kernel) (by decide +kernel)
theorem wd_266 : Cond.code y_Co_isOperator prog_5_method_2_code 1 (Option.some Jvm.ClassFile.FieldType.boolean) ∈ lw_g := wd_in (i := 266) (by decide +kernel) (by decide +kernel)
theorem wd_267 : Cond.methodLink R_F 85 y_Ru_add ∈ lw_g := wd_in (i := 267) (by decide +kernel) (by decide +kernel)
theorem wd_268 : Cond.instanceMethod y_Ru_add ∈ lw_g := wd_in (i := 268) (by decide +kernel) (by decide +kernel)
theorem wd_269 : Cond.selects R_Ru y_Ru_add y_Ru_add ∈ lw_g := wd_in (i := 269) (by decide +kernel) (by decide +kernel)
theorem wd_270 : Cond.code y_Ru_add prog_10_method_3_code 7 (Option.none : Option Jvm.ClassFile.FieldType) ∈ lw_g := wd_in (i := 270) (by decide +kernel) (by decide +kernel)
theorem wd_279 : Cond.methodLink R_F 95 y_Ac_become ∈ lw_g := wd_in (i := 279) (by decide +kernel) (by decide +kernel)
theorem wd_288 : Cond.methodLink R_F 99 y_Po_chooseFor ∈ lw_g := wd_in (i := 288) (by decide +kernel) (by decide +kernel)
theorem wd_289 : Cond.instanceMethod y_Po_chooseFor ∈ lw_g := wd_in (i := 289) (by decide +kernel) (by decide +kernel)
theorem wd_290 : Cond.selects R_Po y_Po_chooseFor y_Po_chooseFor ∈ lw_g := wd_in (i := 290) (by decide +kernel) (by decide +kernel)
theorem wd_291 : Cond.code y_Po_chooseFor prog_8_method_3_code 4 (Option.some Jvm.ClassFile.FieldType.int) ∈ lw_g := wd_in (i := 291) (by decide +kernel) (by decide +kernel)
theorem wd_326 : Cond.methodLink R_F 103 y_Po_actionOf ∈ lw_g := wd_in (i := 326) (by decide +kernel) (by decide +kernel)
theorem wd_327 : Cond.instanceMethod y_Po_actionOf ∈ lw_g := wd_in (i := 327) (by decide +kernel) (by decide +kernel)
theorem wd_328 : Cond.selects R_Po y_Po_actionOf y_Po_actionOf ∈ lw_g := wd_in (i := 328) (by decide +kernel) (by decide +kernel)
theorem wd_329 : Cond.code y_Po_actionOf prog_8_method_5_code 2 (Option.some (Jvm.ClassFile.FieldType.object "CallFilter$Action")) ∈ lw_g := wd_in (i := 329) (by decide +kernel) (by decide +kernel)
theorem wd_330 : Cond.methodLink R_F 107 y_Ac_asWord ∈ lw_g := wd_in (i := 330) (by decide +kernel) (by decide +kernel)
theorem wd_331 : Cond.instanceMethod y_Ac_asWord ∈ lw_g := wd_in (i := 331) (by decide +kernel) (by decide +kernel)
theorem wd_332 : Cond.selects R_Ac y_Ac_asWord y_Ac_asWord ∈ lw_g := wd_in (i := 332) (by decide +kernel) (by decide +kernel)
theorem wd_333 : Cond.code y_Ac_asWord prog_2_method_4_code 2 (Option.some Jvm.ClassFile.FieldType.long) ∈ lw_g := wd_in (i := 333) (by decide +kernel) (by decide +kernel)
theorem d_F_rule_0 : decode b_F_rule 0 = .ok (.iconst 0, 1) := by decide +kernel
theorem d_F_rule_1 : decode b_F_rule 1 = .ok (.iload_n 1, 1) := by decide +kernel
theorem d_F_rule_2 : decode b_F_rule 2 = .ok (.if_icmp .gt 18, 3) := by decide +kernel
theorem d_F_rule_5 : decode b_F_rule 5 = .ok (.iload_n 1, 1) := by decide +kernel
theorem d_F_rule_6 : decode b_F_rule 6 = .ok (.iload_n 2, 1) := by decide +kernel
theorem d_F_rule_7 : decode b_F_rule 7 = .ok (.if_icmp .gt 13, 3) := by decide +kernel
theorem d_F_rule_10 : decode b_F_rule 10 = .ok (.iload_n 2, 1) := by decide +kernel
theorem d_F_rule_11 : decode b_F_rule 11 = .ok (.ldc 58, 2) := by decide +kernel
theorem d_F_rule_13 : decode b_F_rule 13 = .ok (.if_icmp .ge 7, 3) := by decide +kernel
theorem d_F_rule_16 : decode b_F_rule 16 = .ok (.iconst 1, 1) := by decide +kernel
theorem d_F_rule_17 : decode b_F_rule 17 = .ok (.goto 4, 3) := by decide +kernel
theorem d_F_rule_20 : decode b_F_rule 20 = .ok (.iconst 0, 1) := by decide +kernel
theorem d_F_rule_21 : decode b_F_rule 21 = .ok (.istore 5, 2) := by decide +kernel
theorem d_F_rule_23 : decode b_F_rule 23 = .ok (.iload 5, 2) := by decide +kernel
theorem d_F_rule_25 : decode b_F_rule 25 = .ok (.ifCond .eq 24, 3) := by decide +kernel
theorem d_F_rule_28 : decode b_F_rule 28 = .ok (.iload_n 3, 1) := by decide +kernel
theorem d_F_rule_29 : decode b_F_rule 29 = .ok (.iload 4, 2) := by decide +kernel
theorem d_F_rule_31 : decode b_F_rule 31 = .ok (.invokestatic 59, 3) := by decide +kernel
theorem d_F_rule_34 : decode b_F_rule 34 = .ok (.ifCond .eq 15, 3) := by decide +kernel
theorem d_F_rule_37 : decode b_F_rule 37 = .ok (.aload_n 0, 1) := by decide +kernel
theorem d_F_rule_38 : decode b_F_rule 38 = .ok (.getfield 21, 3) := by decide +kernel
theorem d_F_rule_41 : decode b_F_rule 41 = .ok (.getfield 65, 3) := by decide +kernel
theorem d_F_rule_44 : decode b_F_rule 44 = .ok (.bipush 6, 2) := by decide +kernel
theorem d_F_rule_46 : decode b_F_rule 46 = .ok (.if_icmp .lt 5, 3) := by decide +kernel
theorem d_F_rule_49 : decode b_F_rule 49 = .ok (.iconst (-1), 1) := by decide +kernel
theorem d_F_rule_50 : decode b_F_rule 50 = .ok (.ireturn, 1) := by decide +kernel
theorem d_F_rule_51 : decode b_F_rule 51 = .ok (.aload_n 0, 1) := by decide +kernel
theorem d_F_rule_52 : decode b_F_rule 52 = .ok (.getfield 21, 3) := by decide +kernel
theorem d_F_rule_55 : decode b_F_rule 55 = .ok (.iload_n 1, 1) := by decide +kernel
theorem d_F_rule_56 : decode b_F_rule 56 = .ok (.iload_n 2, 1) := by decide +kernel
theorem d_F_rule_57 : decode b_F_rule 57 = .ok (.iload_n 3, 1) := by decide +kernel
theorem d_F_rule_58 : decode b_F_rule 58 = .ok (.iload 4, 2) := by decide +kernel
theorem d_F_rule_60 : decode b_F_rule 60 = .ok (.invokevirtual 69, 3) := by decide +kernel
theorem d_F_rule_63 : decode b_F_rule 63 = .ok (.ireturn, 1) := by decide +kernel
theorem d_F_condition_0 : decode b_F_condition 0 = .ok (.iload_n 1, 1) := by decide +kernel
theorem d_F_condition_1 : decode b_F_condition 1 = .ok (.invokestatic 50, 3) := by decide +kernel
theorem d_F_condition_4 : decode b_F_condition 4 = .ok (.ifCond .eq 20, 3) := by decide +kernel
theorem d_F_condition_7 : decode b_F_condition 7 = .ok (.iload_n 2, 1) := by decide +kernel
theorem d_F_condition_8 : decode b_F_condition 8 = .ok (.invokestatic 73, 3) := by decide +kernel
theorem d_F_condition_11 : decode b_F_condition 11 = .ok (.ifCond .eq 13, 3) := by decide +kernel
theorem d_F_condition_14 : decode b_F_condition 14 = .ok (.aload_n 0, 1) := by decide +kernel
theorem d_F_condition_15 : decode b_F_condition 15 = .ok (.getfield 21, 3) := by decide +kernel
theorem d_F_condition_18 : decode b_F_condition 18 = .ok (.getfield 65, 3) := by decide +kernel
theorem d_F_condition_21 : decode b_F_condition 21 = .ok (.ifCond .ne 5, 3) := by decide +kernel
theorem d_F_condition_24 : decode b_F_condition 24 = .ok (.iconst 0, 1) := by decide +kernel
theorem d_F_condition_25 : decode b_F_condition 25 = .ok (.ireturn, 1) := by decide +kernel
theorem d_F_condition_26 : decode b_F_condition 26 = .ok (.aload_n 0, 1) := by decide +kernel
theorem d_F_condition_27 : decode b_F_condition 27 = .ok (.getfield 21, 3) := by decide +kernel
theorem d_F_condition_30 : decode b_F_condition 30 = .ok (.getfield 78, 3) := by decide +kernel
theorem d_F_condition_33 : decode b_F_condition 33 = .ok (.aload_n 0, 1) := by decide +kernel
theorem d_F_condition_34 : decode b_F_condition 34 = .ok (.getfield 21, 3) := by decide +kernel
theorem d_F_condition_37 : decode b_F_condition 37 = .ok (.getfield 65, 3) := by decide +kernel
theorem d_F_condition_40 : decode b_F_condition 40 = .ok (.iconst 1, 1) := by decide +kernel
theorem d_F_condition_41 : decode b_F_condition 41 = .ok (.isub, 1) := by decide +kernel
theorem d_F_condition_42 : decode b_F_condition 42 = .ok (.aaload, 1) := by decide +kernel
theorem d_F_condition_43 : decode b_F_condition 43 = .ok (.astore 7, 2) := by decide +kernel
theorem d_F_condition_45 : decode b_F_condition 45 = .ok (.aload 7, 2) := by decide +kernel
theorem d_F_condition_47 : decode b_F_condition 47 = .ok (.getfield 82, 3) := by decide +kernel
theorem d_F_condition_50 : decode b_F_condition 50 = .ok (.iconst 3, 1) := by decide +kernel
theorem d_F_condition_51 : decode b_F_condition 51 = .ok (.if_icmp .lt 5, 3) := by decide +kernel
theorem d_F_condition_54 : decode b_F_condition 54 = .ok (.iconst 0, 1) := by decide +kernel
theorem d_F_condition_55 : decode b_F_condition 55 = .ok (.ireturn, 1) := by decide +kernel
theorem d_F_condition_56 : decode b_F_condition 56 = .ok (.aload 7, 2) := by decide +kernel
theorem d_F_condition_58 : decode b_F_condition 58 = .ok (.iload_n 1, 1) := by decide +kernel
theorem d_F_condition_59 : decode b_F_condition 59 = .ok (.iload_n 2, 1) := by decide +kernel
theorem d_F_condition_60 : decode b_F_condition 60 = .ok (.lload_n 3, 1) := by decide +kernel
theorem d_F_condition_61 : decode b_F_condition 61 = .ok (.lload 5, 2) := by decide +kernel
theorem d_F_condition_63 : decode b_F_condition 63 = .ok (.invokevirtual 85, 3) := by decide +kernel
theorem d_F_condition_66 : decode b_F_condition 66 = .ok (.iconst 1, 1) := by decide +kernel
theorem d_F_condition_67 : decode b_F_condition 67 = .ok (.ireturn, 1) := by decide +kernel
theorem d_F_otherwise_0 : decode b_F_otherwise 0 = .ok (.iload_n 2, 1) := by decide +kernel
theorem d_F_otherwise_1 : decode b_F_otherwise 1 = .ok (.iload_n 3, 1) := by decide +kernel
theorem d_F_otherwise_2 : decode b_F_otherwise 2 = .ok (.invokestatic 59, 3) := by decide +kernel
theorem d_F_otherwise_5 : decode b_F_otherwise 5 = .ok (.ifCond .ne 5, 3) := by decide +kernel
theorem d_F_otherwise_8 : decode b_F_otherwise 8 = .ok (.iconst 0, 1) := by decide +kernel
theorem d_F_otherwise_9 : decode b_F_otherwise 9 = .ok (.ireturn, 1) := by decide +kernel
theorem d_F_otherwise_10 : decode b_F_otherwise 10 = .ok (.iload_n 1, 1) := by decide +kernel
theorem d_F_otherwise_11 : decode b_F_otherwise 11 = .ok (.ifCond .eq 13, 3) := by decide +kernel
theorem d_F_otherwise_14 : decode b_F_otherwise 14 = .ok (.aload_n 0, 1) := by decide +kernel
theorem d_F_otherwise_15 : decode b_F_otherwise 15 = .ok (.getfield 21, 3) := by decide +kernel
theorem d_F_otherwise_18 : decode b_F_otherwise 18 = .ok (.getfield 88, 3) := by decide +kernel
theorem d_F_otherwise_21 : decode b_F_otherwise 21 = .ok (.goto 10, 3) := by decide +kernel
theorem d_F_otherwise_24 : decode b_F_otherwise 24 = .ok (.aload_n 0, 1) := by decide +kernel
theorem d_F_otherwise_25 : decode b_F_otherwise 25 = .ok (.getfield 21, 3) := by decide +kernel
theorem d_F_otherwise_28 : decode b_F_otherwise 28 = .ok (.getfield 92, 3) := by decide +kernel
theorem d_F_otherwise_31 : decode b_F_otherwise 31 = .ok (.astore 4, 2) := by decide +kernel
theorem d_F_otherwise_33 : decode b_F_otherwise 33 = .ok (.aload 4, 2) := by decide +kernel
theorem d_F_otherwise_35 : decode b_F_otherwise 35 = .ok (.iload_n 2, 1) := by decide +kernel
theorem d_F_otherwise_36 : decode b_F_otherwise 36 = .ok (.iload_n 3, 1) := by decide +kernel
theorem d_F_otherwise_37 : decode b_F_otherwise 37 = .ok (.invokevirtual 95, 3) := by decide +kernel
theorem d_F_otherwise_40 : decode b_F_otherwise 40 = .ok (.iconst 1, 1) := by decide +kernel
theorem d_F_otherwise_41 : decode b_F_otherwise 41 = .ok (.ireturn, 1) := by decide +kernel
theorem d_F_ruling_0 : decode b_F_ruling 0 = .ok (.aload_n 0, 1) := by decide +kernel
theorem d_F_ruling_1 : decode b_F_ruling 1 = .ok (.getfield 21, 3) := by decide +kernel
theorem d_F_ruling_4 : decode b_F_ruling 4 = .ok (.aload_n 0, 1) := by decide +kernel
theorem d_F_ruling_5 : decode b_F_ruling 5 = .ok (.getfield 10, 3) := by decide +kernel
theorem d_F_ruling_8 : decode b_F_ruling 8 = .ok (.invokevirtual 99, 3) := by decide +kernel
theorem d_F_ruling_11 : decode b_F_ruling 11 = .ok (.ireturn, 1) := by decide +kernel
theorem d_F_decide_0 : decode b_F_decide 0 = .ok (.aload_n 0, 1) := by decide +kernel
theorem d_F_decide_1 : decode b_F_decide 1 = .ok (.getfield 21, 3) := by decide +kernel
theorem d_F_decide_4 : decode b_F_decide 4 = .ok (.aload_n 0, 1) := by decide +kernel
theorem d_F_decide_5 : decode b_F_decide 5 = .ok (.getfield 21, 3) := by decide +kernel
theorem d_F_decide_8 : decode b_F_decide 8 = .ok (.aload_n 0, 1) := by decide +kernel
theorem d_F_decide_9 : decode b_F_decide 9 = .ok (.getfield 10, 3) := by decide +kernel
theorem d_F_decide_12 : decode b_F_decide 12 = .ok (.invokevirtual 99, 3) := by decide +kernel
theorem d_F_decide_15 : decode b_F_decide 15 = .ok (.invokevirtual 103, 3) := by decide +kernel
theorem d_F_decide_18 : decode b_F_decide 18 = .ok (.invokevirtual 107, 3) := by decide +kernel
theorem d_F_decide_21 : decode b_F_decide 21 = .ok (.lreturn, 1) := by decide +kernel
def m_F_rule (P : PT) (fr : Int32) (to : Int32) (kd : Int32) (dt : Int32) : Int32 × PT := if fr < (0 : Int32) then ((-1 : Int32), P) else if to < fr then ((-1 : Int32), P) else if (1073741824 : Int32) ≤ to then ((-1 : Int32), P) else if (m_Ac_isPossible kd dt) = (0 : Int32) then ((-1 : Int32), P) else if P.2.1 < (6 : Int32) then ((m_Po_add P fr to kd dt).1, ((m_Po_add P fr to kd dt).2)) else ((-1 : Int32), P)
set_option maxHeartbeats 4000000 in
set_option maxRecDepth 100000 in
theorem c_F_rule (l : Launch) (D : va_G) (dA : Nat → ClassId) (ad : Nat → Nat) (A : Nat → Prop) (hAd : AdOK 49 ad A) (w : Nat → Int32) (P : PT) (g : GT) (ss : Nat → Int32) (M : MT) (fr : Int32) (to : Int32) (kd : Int32) (dt : Int32) (hn : iN P.2.1 ≤ 6) : Met l y_F_rule (mW y_F_rule b_F_rule 6 (some .int)) { frames := 3, cells := 0, slots := 0, locals := 70 } (va_Pc [.ref (ad 0), .int fr, .int to, .int kd, .int dt] (fun U => CG D dA ad w P g ss M U)) (va_Qi (fun (r : Int32) (u : PT) => r = (m_F_rule P fr to kd dt).1 ∧ u = (m_F_rule P fr to kd dt).2) (fun u t => CG D dA ad w u g ss M t) A) 0 0 A := by
  refine Met.ofW (cc := b_F_rule) (maxL := 6) (ret := (some .int)) (by decide) rfl ?_
  intro p e s m args below meth c s₁ B hml hv
  obtain ⟨rfl, hP, hK, hN⟩ := hv
  have hx := B.exec
  have hb := B.bytes
  have hr := B.returns
  have hlocks := B.notSynchronized
  have hts := fun (w : Cond) (h : w ∈ lw_g) => atoms_spec (ws := mW y_F_rule b_F_rule 6 (some .int)) B.pre w (List.mem_cons_of_mem _ h)
  have hown : s.vm.findClass R_F = some m.cls := findClass_of_methodNamed B.named
  have hS : va_S A s.heap s.heap [] := va_S.rf
  have hl := lv_entry ([.ref (ad 0), .int fr, .int to, .int kd, .int dt]) (n := 6) (Nat.le_of_ble_eq_true rfl)
  rw [lg_entry_eq]
  generalize (lg_sl ([.ref (ad 0), .int fr, .int to, .int kd, .int dt]) ++ List.replicate (6 - (lg_sl ([.ref (ad 0), .int fr, .int to, .int kd, .int dt])).length) Slot.unset).toArray = ls at hl ⊢
  have hl : lv_has ls 6 [(0, .ref (ad 0)), (1, .int fr), (2, .int to), (3, .int kd), (4, .int dt)] := hl
  refine lv_iconst (v := 0) hx hb d_F_rule_0 (by decide) ?_
  refine lv_iload_n hx hb d_F_rule_1 rfl (lv_at hl 1 rfl) ?_
  refine lv_icmp_gt (tgt := 20) hx hb d_F_rule_2 (by decide) (fun h1 => ?_) (fun h1 => ?_)
  · refine lv_iconst (v := 0) hx hb d_F_rule_20 (by decide) ?_
    refine lv_istore hx hb d_F_rule_21 hl (by decide) rfl (fun ls hl => ?_)
    have hl : lv_has ls 6 [(5, .int (0 : Int32)), (0, .ref (ad 0)), (1, .int fr), (2, .int to), (3, .int kd), (4, .int dt)] := hl
    refine lv_iload hx hb d_F_rule_23 (lv_at hl 0 rfl) ?_
    refine lv_if_eq (tgt := 49) hx hb d_F_rule_25 (by decide) (fun _ => ?_) (fun h => absurd h (by decide))
    refine lv_iconst (v := -1) hx hb d_F_rule_49 (by decide) ?_
    exact W.iret hx hb hr (fun t ht hW => ⟨⟨_, _, rfl, ⟨(by rw [m_F_rule, if_pos h1]), (by rw [m_F_rule, if_pos h1])⟩, CG_at hP hK hN ht hW⟩, hS.F ht⟩) hS.2.2 d_F_rule_50
  refine lv_iload_n hx hb d_F_rule_5 rfl (lv_at hl 1 rfl) ?_
  refine lv_iload_n hx hb d_F_rule_6 rfl (lv_at hl 2 rfl) ?_
  refine lv_icmp_gt (tgt := 20) hx hb d_F_rule_7 (by decide) (fun h2 => ?_) (fun h2 => ?_)
  · refine lv_iconst (v := 0) hx hb d_F_rule_20 (by decide) ?_
    refine lv_istore hx hb d_F_rule_21 hl (by decide) rfl (fun ls hl => ?_)
    have hl : lv_has ls 6 [(5, .int (0 : Int32)), (0, .ref (ad 0)), (1, .int fr), (2, .int to), (3, .int kd), (4, .int dt)] := hl
    refine lv_iload hx hb d_F_rule_23 (lv_at hl 0 rfl) ?_
    refine lv_if_eq (tgt := 49) hx hb d_F_rule_25 (by decide) (fun _ => ?_) (fun h => absurd h (by decide))
    refine lv_iconst (v := -1) hx hb d_F_rule_49 (by decide) ?_
    exact W.iret hx hb hr (fun t ht hW => ⟨⟨_, _, rfl, ⟨(by rw [m_F_rule, if_neg h1, if_pos h2]), (by rw [m_F_rule, if_neg h1, if_pos h2])⟩, CG_at hP hK hN ht hW⟩, hS.F ht⟩) hS.2.2 d_F_rule_50
  refine lv_iload_n hx hb d_F_rule_10 rfl (lv_at hl 2 rfl) ?_
  refine lv_ldc (v := 1073741824) hx hb hown (hts _ wd_243) d_F_rule_11 ?_
  refine lv_icmp_ge (tgt := 20) hx hb d_F_rule_13 (by decide) (fun h3 => ?_) (fun h3 => ?_)
  · refine lv_iconst (v := 0) hx hb d_F_rule_20 (by decide) ?_
    refine lv_istore hx hb d_F_rule_21 hl (by decide) rfl (fun ls hl => ?_)
    have hl : lv_has ls 6 [(5, .int (0 : Int32)), (0, .ref (ad 0)), (1, .int fr), (2, .int to), (3, .int kd), (4, .int dt)] := hl
    refine lv_iload hx hb d_F_rule_23 (lv_at hl 0 rfl) ?_
    refine lv_if_eq (tgt := 49) hx hb d_F_rule_25 (by decide) (fun _ => ?_) (fun h => absurd h (by decide))
    refine lv_iconst (v := -1) hx hb d_F_rule_49 (by decide) ?_
    exact W.iret hx hb hr (fun t ht hW => ⟨⟨_, _, rfl, ⟨(by rw [m_F_rule, if_neg h1, if_neg h2, if_pos h3]), (by rw [m_F_rule, if_neg h1, if_neg h2, if_pos h3])⟩, CG_at hP hK hN ht hW⟩, hS.F ht⟩) hS.2.2 d_F_rule_50
  refine lv_iconst (v := 1) hx hb d_F_rule_16 (by decide) ?_
  refine lv_goto (tgt := 21) hx hb d_F_rule_17 (by decide) ?_
  refine lv_istore hx hb d_F_rule_21 hl (by decide) rfl (fun ls hl => ?_)
  have hl : lv_has ls 6 [(5, .int (1 : Int32)), (0, .ref (ad 0)), (1, .int fr), (2, .int to), (3, .int kd), (4, .int dt)] := hl
  refine lv_iload hx hb d_F_rule_23 (lv_at hl 0 rfl) ?_
  refine lv_if_eq (tgt := 49) hx hb d_F_rule_25 (by decide) (fun h => absurd h (by decide)) (fun _ => ?_)
  refine lv_iload_n hx hb d_F_rule_28 rfl (lv_at hl 4 rfl) ?_
  refine lv_iload hx hb d_F_rule_29 (lv_at hl 5 rfl) ?_
  refine vp_callSi (va_Run.run (va_runS (As := [.int kd, .int dt]) (rest := []) ⟨hx, hb, hml, hown, hts⟩ (c_Ac_isPossible l kd dt) (va_cwS 2 hts (g_S wd_244 wd_245 wd_29 wd_246) rfl rfl rfl (by decide +kernel) ⟨Nat.le_of_ble_eq_true rfl, Nat.le_of_ble_eq_true rfl⟩) ⟨fun _ _ _ _ q => q, fun _ _ _ => ⟨rfl, trivial⟩⟩ rfl rfl hl.1 rfl (lv_room (Nat.le_of_ble_eq_true rfl)) d_F_rule_31 ⟨Nat.le_of_ble_eq_true rfl, Nat.le_of_ble_eq_true rfl⟩)) (fun r1 e1 => ?_)
  subst e1
  refine lv_if_eq (tgt := 49) hx hb d_F_rule_34 (by decide) (fun h4 => ?_) (fun h4 => ?_)
  · refine lv_iconst (v := -1) hx hb d_F_rule_49 (by decide) ?_
    exact W.iret hx hb hr (fun t ht hW => ⟨⟨_, _, rfl, ⟨(by rw [m_F_rule, if_neg h1, if_neg h2, if_neg h3, if_pos h4]), (by rw [m_F_rule, if_neg h1, if_neg h2, if_neg h3, if_pos h4])⟩, CG_at hP hK hN ht hW⟩, hS.F ht⟩) hS.2.2 d_F_rule_50
  refine lv_aload_n hx hb d_F_rule_37 rfl (lv_at hl 1 rfl) ?_
  refine va_get (D := D) (ci := 8) (v := .ref (ad 3)) (C := R_F) (T := F_F) (N := 5) hx hb hts in_F hown hK hP 0 rfl rfl 1 (by decide) (hts _ wd_209) (fun _ h9 => h9) rfl d_F_rule_38 ?_
  refine va_get (D := D) (ci := 5) (v := .int P.2.1) (C := R_Po) (T := F_Po) (N := 5) hx hb hts in_Po hown hK hP 3 rfl rfl 3 (by decide) (hts _ wd_133) (fun _ h9 => h9) rfl d_F_rule_41 ?_
  refine lv_bipush (v := 6) hx hb d_F_rule_44 (by decide) ?_
  refine lv_icmp_lt (tgt := 51) hx hb d_F_rule_46 (by decide) (fun h5 => ?_) (fun h5 => ?_)
  · refine lv_aload_n hx hb d_F_rule_51 rfl (lv_at hl 1 rfl) ?_
    refine va_get (D := D) (ci := 8) (v := .ref (ad 3)) (C := R_F) (T := F_F) (N := 5) hx hb hts in_F hown hK hP 0 rfl rfl 1 (by decide) (hts _ wd_209) (fun _ h9 => h9) rfl d_F_rule_52 ?_
    refine lv_iload_n hx hb d_F_rule_55 rfl (lv_at hl 2 rfl) ?_
    refine lv_iload_n hx hb d_F_rule_56 rfl (lv_at hl 3 rfl) ?_
    refine lv_iload_n hx hb d_F_rule_57 rfl (lv_at hl 4 rfl) ?_
    refine lv_iload hx hb d_F_rule_58 (lv_at hl 5 rfl) ?_
    refine va_calli (va_runV (As := [.int fr, .int to, .int kd, .int dt]) (rest := []) ⟨hx, hb, hml, hown, hts⟩ (c_Po_add l D dA ad A hAd w P g ss M fr to kd dt (ix_rules hn (by assumption))) (cwV 4 hts (g_V wd_248 wd_249 wd_250 wd_28 wd_251) rfl rfl rfl (by decide +kernel) ⟨Nat.le_of_ble_eq_true rfl, Nat.le_of_ble_eq_true rfl⟩) ⟨CG_fb, (va_recv (ci := 5) (q := (R_Po, F_Po, 5)) (q0 := 3) hK hP rfl rfl), fun U hU hW => ⟨rfl, CG_at hP hK hN hU hW⟩⟩ rfl rfl hl.1 rfl (lv_room (Nat.le_of_ble_eq_true rfl)) d_F_rule_60 ⟨Nat.le_of_ble_eq_true rfl, Nat.le_of_ble_eq_true rfl⟩) hS (fun _ _ h => h) (fun _ h => h) (fun r2 u1 t H locs ht hvm hu hB hz hk hS => ?_)
    obtain ⟨rfl, rfl⟩ := hu
    obtain ⟨hP, -⟩ := hB
    rw [ht] at hP
    have hP : va_P D cls (wC ad dA w ((m_Po_add P fr to kd dt).2) g ss M) H := hP
    exact W.iret hx hb hr (fun t ht hW => ⟨⟨_, _, rfl, ⟨(by rw [m_F_rule, if_neg h1, if_neg h2, if_neg h3, if_neg h4, if_pos h5]), (by rw [m_F_rule, if_neg h1, if_neg h2, if_neg h3, if_neg h4, if_pos h5])⟩, CG_at hP hK hN ht hW⟩, hS.F ht⟩) hS.2.2 d_F_rule_63
  refine lv_iconst (v := -1) hx hb d_F_rule_49 (by decide) ?_
  exact W.iret hx hb hr (fun t ht hW => ⟨⟨_, _, rfl, ⟨(by rw [m_F_rule, if_neg h1, if_neg h2, if_neg h3, if_neg h4, if_neg h5]), (by rw [m_F_rule, if_neg h1, if_neg h2, if_neg h3, if_neg h4, if_neg h5])⟩, CG_at hP hK hN ht hW⟩, hS.F ht⟩) hS.2.2 d_F_rule_50
def m_F_condition (P : PT) (i : Int32) (op : Int32) (va : Int64) (mk : Int64) : Int32 × PT := if (m_Ca_hasArgument i) = (0 : Int32) then ((0 : Int32), P) else if (m_Co_isOperator op) = (0 : Int32) then ((0 : Int32), P) else if P.2.1 = (0 : Int32) then ((0 : Int32), P) else if ((P.2.2.2.2 ((P.2.1 - (1 : Int32)).toNatClampNeg)).1) < (3 : Int32) then ((1 : Int32), (m_Ru_add P ((P.2.1 - (1 : Int32)).toNatClampNeg) i op va mk)) else ((0 : Int32), P)
set_option maxHeartbeats 4000000 in
set_option maxRecDepth 100000 in
theorem c_F_condition (l : Launch) (D : va_G) (dA : Nat → ClassId) (ad : Nat → Nat) (A : Nat → Prop) (hAd : AdOK 49 ad A) (w : Nat → Int32) (P : PT) (g : GT) (ss : Nat → Int32) (M : MT) (i : Int32) (op : Int32) (va : Int64) (mk : Int64) (hn : iN P.2.1 ≤ 6) (hc : ∀ i, i < 6 → iN (P.2.2.2.2 i).1 ≤ 3) : Met l y_F_condition (mW y_F_condition b_F_condition 8 (some .boolean)) { frames := 2, cells := 0, slots := 0, locals := 52 } (va_Pc [.ref (ad 0), .int i, .int op, .long va, .long mk] (fun U => CG D dA ad w P g ss M U)) (va_Qi (fun (r : Int32) (u : PT) => r = (m_F_condition P i op va mk).1 ∧ u = (m_F_condition P i op va mk).2) (fun u t => CG D dA ad w u g ss M t) A) 0 0 A := by
  refine Met.ofW (cc := b_F_condition) (maxL := 8) (ret := (some .boolean)) (by decide) rfl ?_
  intro p e s m args below meth c s₁ B hml hv
  obtain ⟨rfl, hP, hK, hN⟩ := hv
  have hx := B.exec
  have hb := B.bytes
  have hr := B.returns
  have hlocks := B.notSynchronized
  have hts := fun (w : Cond) (h : w ∈ lw_g) => atoms_spec (ws := mW y_F_condition b_F_condition 8 (some .boolean)) B.pre w (List.mem_cons_of_mem _ h)
  have hown : s.vm.findClass R_F = some m.cls := findClass_of_methodNamed B.named
  have hS : va_S A s.heap s.heap [] := va_S.rf
  have hl := lv_entry ([.ref (ad 0), .int i, .int op, .long va, .long mk]) (n := 8) (Nat.le_of_ble_eq_true rfl)
  rw [lg_entry_eq]
  generalize (lg_sl ([.ref (ad 0), .int i, .int op, .long va, .long mk]) ++ List.replicate (8 - (lg_sl ([.ref (ad 0), .int i, .int op, .long va, .long mk])).length) Slot.unset).toArray = ls at hl ⊢
  have hl : lv_has ls 8 [(0, .ref (ad 0)), (1, .int i), (2, .int op), (3, .long va), (5, .long mk)] := hl
  refine lv_iload_n hx hb d_F_condition_0 rfl (lv_at hl 1 rfl) ?_
  refine vp_callSi (va_Run.run (va_runS (As := [.int i]) (rest := []) ⟨hx, hb, hml, hown, hts⟩ (c_Ca_hasArgument l i) (va_cwS 1 hts (g_S wd_232 wd_233 wd_27 wd_234) rfl rfl rfl (by decide +kernel) ⟨Nat.le_of_ble_eq_true rfl, Nat.le_of_ble_eq_true rfl⟩) ⟨fun _ _ _ _ q => q, fun _ _ _ => ⟨rfl, trivial⟩⟩ rfl rfl hl.1 rfl (lv_room (Nat.le_of_ble_eq_true rfl)) d_F_condition_1 ⟨Nat.le_of_ble_eq_true rfl, Nat.le_of_ble_eq_true rfl⟩)) (fun r1 e1 => ?_)
  subst e1
  refine lv_if_eq (tgt := 24) hx hb d_F_condition_4 (by decide) (fun h1 => ?_) (fun h1 => ?_)
  · refine lv_iconst (v := 0) hx hb d_F_condition_24 (by decide) ?_
    exact W.zret hx hb hr rfl (fun t ht hW => ⟨⟨_, _, rfl, ⟨(by rw [m_F_condition, if_pos h1]), (by rw [m_F_condition, if_pos h1])⟩, CG_at hP hK hN ht hW⟩, hS.F ht⟩) hS.2.2 d_F_condition_25
  refine lv_iload_n hx hb d_F_condition_7 rfl (lv_at hl 2 rfl) ?_
  refine vp_callSi (va_Run.run (va_runS (As := [.int op]) (rest := []) ⟨hx, hb, hml, hown, hts⟩ (c_Co_isOperator l op) (va_cwS 1 hts (g_S wd_264 wd_265 wd_31 wd_266) rfl rfl rfl (by decide +kernel) ⟨Nat.le_of_ble_eq_true rfl, Nat.le_of_ble_eq_true rfl⟩) ⟨fun _ _ _ _ q => q, fun _ _ _ => ⟨rfl, trivial⟩⟩ rfl rfl hl.1 rfl (lv_room (Nat.le_of_ble_eq_true rfl)) d_F_condition_8 ⟨Nat.le_of_ble_eq_true rfl, Nat.le_of_ble_eq_true rfl⟩)) (fun r2 e2 => ?_)
  subst e2
  refine lv_if_eq (tgt := 24) hx hb d_F_condition_11 (by decide) (fun h2 => ?_) (fun h2 => ?_)
  · refine lv_iconst (v := 0) hx hb d_F_condition_24 (by decide) ?_
    exact W.zret hx hb hr rfl (fun t ht hW => ⟨⟨_, _, rfl, ⟨(by rw [m_F_condition, if_neg h1, if_pos h2]), (by rw [m_F_condition, if_neg h1, if_pos h2])⟩, CG_at hP hK hN ht hW⟩, hS.F ht⟩) hS.2.2 d_F_condition_25
  refine lv_aload_n hx hb d_F_condition_14 rfl (lv_at hl 0 rfl) ?_
  refine va_get (D := D) (ci := 8) (v := .ref (ad 3)) (C := R_F) (T := F_F) (N := 5) hx hb hts in_F hown hK hP 0 rfl rfl 1 (by decide) (hts _ wd_209) (fun _ h9 => h9) rfl d_F_condition_15 ?_
  refine va_get (D := D) (ci := 5) (v := .int P.2.1) (C := R_Po) (T := F_Po) (N := 5) hx hb hts in_Po hown hK hP 3 rfl rfl 3 (by decide) (hts _ wd_133) (fun _ h9 => h9) rfl d_F_condition_18 ?_
  refine lv_if_ne (tgt := 26) hx hb d_F_condition_21 (by decide) (fun h3 => ?_) (fun h3 => ?_)
  · refine lv_aload_n hx hb d_F_condition_26 rfl (lv_at hl 0 rfl) ?_
    refine va_get (D := D) (ci := 8) (v := .ref (ad 3)) (C := R_F) (T := F_F) (N := 5) hx hb hts in_F hown hK hP 0 rfl rfl 1 (by decide) (hts _ wd_209) (fun _ h9 => h9) rfl d_F_condition_27 ?_
    refine va_get (D := D) (ci := 5) (v := .ref (ad 6)) (C := R_Po) (T := F_Po) (N := 5) hx hb hts in_Po hown hK hP 3 rfl rfl 2 (by decide) (hts _ wd_131) (fun _ h9 => h9) rfl d_F_condition_30 ?_
    refine lv_aload_n hx hb d_F_condition_33 rfl (lv_at hl 0 rfl) ?_
    refine va_get (D := D) (ci := 8) (v := .ref (ad 3)) (C := R_F) (T := F_F) (N := 5) hx hb hts in_F hown hK hP 0 rfl rfl 1 (by decide) (hts _ wd_209) (fun _ h9 => h9) rfl d_F_condition_34 ?_
    refine va_get (D := D) (ci := 5) (v := .int P.2.1) (C := R_Po) (T := F_Po) (N := 5) hx hb hts in_Po hown hK hP 3 rfl rfl 3 (by decide) (hts _ wd_133) (fun _ h9 => h9) rfl d_F_condition_37 ?_
    refine lv_iconst (v := 1) hx hb d_F_condition_40 (by decide) ?_
    refine lv_isub hx hb d_F_condition_41 ?_
    have hq1 : ((P.2.1 - (1 : Int32)).toNatClampNeg) < 6 := (vp_cl (ix_last hn (by assumption)))
    refine va_aldq (n := 6) (f := rfs ad 6 13 6) hx hb hK hP 6 2 rfl rfl (ix_last hn (by assumption)) d_F_condition_42 ?_
    refine W.eq (g2 := F0 m 43 ls [.ref (ad (13 + 6 * ((P.2.1 - (1 : Int32)).toNatClampNeg)))]) (by rw [rf_at (vp_cl (ix_last hn (by assumption)))]) ?_
    refine lv_astore hx hb d_F_condition_43 hl (by decide) rfl (fun ls hl => ?_)
    have hl : lv_has ls 8 [(7, .ref (ad (13 + 6 * ((P.2.1 - (1 : Int32)).toNatClampNeg)))), (0, .ref (ad 0)), (1, .int i), (2, .int op), (3, .long va), (5, .long mk)] := hl
    refine lv_aload hx hb d_F_condition_45 (lv_at hl 0 rfl) ?_
    refine va_get (D := D) (ci := 7) (v := .int ((P.2.2.2.2 ((P.2.1 - (1 : Int32)).toNatClampNeg)).1)) (C := R_Ru) (T := F_Ru) (N := 5) hx hb hts in_Ru hown hK hP (13 + 6 * ((P.2.1 - (1 : Int32)).toNatClampNeg) + 0) (wC_ru (by omega)) rfl 1 (by decide) (hts _ wd_111) (fun _ h9 => h9) rfl d_F_condition_47 ?_
    refine lv_iconst (v := 3) hx hb d_F_condition_50 (by decide) ?_
    refine lv_icmp_lt (tgt := 56) hx hb d_F_condition_51 (by decide) (fun h4 => ?_) (fun h4 => ?_)
    · refine lv_aload hx hb d_F_condition_56 (lv_at hl 0 rfl) ?_
      refine lv_iload_n hx hb d_F_condition_58 rfl (lv_at hl 2 rfl) ?_
      refine lv_iload_n hx hb d_F_condition_59 rfl (lv_at hl 3 rfl) ?_
      refine lv_lload_n hx hb d_F_condition_60 rfl (lv_at hl 4 rfl) ?_
      refine lv_lload hx hb d_F_condition_61 (lv_at hl 5 rfl) ?_
      refine va_callv (va_runV (As := [.int i, .int op, .long va, .long mk]) (rest := []) ⟨hx, hb, hml, hown, hts⟩ (c_Ru_add l D dA ad A hAd w P g ss M ((P.2.1 - (1 : Int32)).toNatClampNeg) i op va mk (by assumption) (ix_conds (hc _ (by assumption)) (by assumption))) (cwV 4 hts (g_V wd_267 wd_268 wd_269 wd_30 wd_270) rfl rfl rfl (by decide +kernel) ⟨Nat.le_of_ble_eq_true rfl, Nat.le_of_ble_eq_true rfl⟩) ⟨CG_fb, (va_recv (ci := 7) (q := (R_Ru, F_Ru, 5)) (q0 := (13 + 6 * ((P.2.1 - (1 : Int32)).toNatClampNeg) + 0)) hK hP rfl (wC_ru (by omega))), fun U hU hW => ⟨rfl, CG_at hP hK hN hU hW⟩⟩ rfl rfl hl.1 rfl (lv_room (Nat.le_of_ble_eq_true rfl)) d_F_condition_63 ⟨Nat.le_of_ble_eq_true rfl, Nat.le_of_ble_eq_true rfl⟩) hS (fun _ _ h => h) (fun _ h => h) (fun u1 t H locs ht hvm hu hB hz hk hS => ?_)
      subst hu
      obtain ⟨hP, -⟩ := hB
      rw [ht] at hP
      have hP : va_P D cls (wC ad dA w (m_Ru_add P ((P.2.1 - (1 : Int32)).toNatClampNeg) i op va mk) g ss M) H := hP
      refine lv_iconst (v := 1) hx hb d_F_condition_66 (by decide) ?_
      exact W.zret hx hb hr rfl (fun t ht hW => ⟨⟨_, _, rfl, ⟨(by rw [m_F_condition, if_neg h1, if_neg h2, if_neg h3, if_pos h4]), (by rw [m_F_condition, if_neg h1, if_neg h2, if_neg h3, if_pos h4])⟩, CG_at hP hK hN ht hW⟩, hS.F ht⟩) hS.2.2 d_F_condition_67
    refine lv_iconst (v := 0) hx hb d_F_condition_54 (by decide) ?_
    exact W.zret hx hb hr rfl (fun t ht hW => ⟨⟨_, _, rfl, ⟨(by rw [m_F_condition, if_neg h1, if_neg h2, if_neg h3, if_neg h4]), (by rw [m_F_condition, if_neg h1, if_neg h2, if_neg h3, if_neg h4])⟩, CG_at hP hK hN ht hW⟩, hS.F ht⟩) hS.2.2 d_F_condition_55
  refine lv_iconst (v := 0) hx hb d_F_condition_24 (by decide) ?_
  exact W.zret hx hb hr rfl (fun t ht hW => ⟨⟨_, _, rfl, ⟨(by rw [m_F_condition, if_neg h1, if_neg h2, if_pos h3]), (by rw [m_F_condition, if_neg h1, if_neg h2, if_pos h3])⟩, CG_at hP hK hN ht hW⟩, hS.F ht⟩) hS.2.2 d_F_condition_25
def m_F_otherwise (P : PT) (fg : Int32) (kd : Int32) (dt : Int32) : Int32 × PT := if (m_Ac_isPossible kd dt) = (0 : Int32) then ((0 : Int32), P) else if fg = (0 : Int32) then ((1 : Int32), (m_Ac_become_d P kd dt)) else ((1 : Int32), (m_Ac_become_f P kd dt))
set_option maxHeartbeats 4000000 in
set_option maxRecDepth 100000 in
theorem c_F_otherwise (l : Launch) (D : va_G) (dA : Nat → ClassId) (ad : Nat → Nat) (A : Nat → Prop) (hAd : AdOK 49 ad A) (w : Nat → Int32) (P : PT) (g : GT) (ss : Nat → Int32) (M : MT) (fg : Int32) (kd : Int32) (dt : Int32) : Met l y_F_otherwise (mW y_F_otherwise b_F_otherwise 5 (some .boolean)) { frames := 1, cells := 0, slots := 0, locals := 22 } (va_Pc [.ref (ad 0), .int fg, .int kd, .int dt] (fun U => CG D dA ad w P g ss M U)) (va_Qi (fun (r : Int32) (u : PT) => r = (m_F_otherwise P fg kd dt).1 ∧ u = (m_F_otherwise P fg kd dt).2) (fun u t => CG D dA ad w u g ss M t) A) 0 0 A := by
  refine Met.ofW (cc := b_F_otherwise) (maxL := 5) (ret := (some .boolean)) (by decide) rfl ?_
  intro p e s m args below meth c s₁ B hml hv
  obtain ⟨rfl, hP, hK, hN⟩ := hv
  have hx := B.exec
  have hb := B.bytes
  have hr := B.returns
  have hlocks := B.notSynchronized
  have hts := fun (w : Cond) (h : w ∈ lw_g) => atoms_spec (ws := mW y_F_otherwise b_F_otherwise 5 (some .boolean)) B.pre w (List.mem_cons_of_mem _ h)
  have hown : s.vm.findClass R_F = some m.cls := findClass_of_methodNamed B.named
  have hS : va_S A s.heap s.heap [] := va_S.rf
  have hl := lv_entry ([.ref (ad 0), .int fg, .int kd, .int dt]) (n := 5) (Nat.le_of_ble_eq_true rfl)
  rw [lg_entry_eq]
  generalize (lg_sl ([.ref (ad 0), .int fg, .int kd, .int dt]) ++ List.replicate (5 - (lg_sl ([.ref (ad 0), .int fg, .int kd, .int dt])).length) Slot.unset).toArray = ls at hl ⊢
  have hl : lv_has ls 5 [(0, .ref (ad 0)), (1, .int fg), (2, .int kd), (3, .int dt)] := hl
  refine lv_iload_n hx hb d_F_otherwise_0 rfl (lv_at hl 2 rfl) ?_
  refine lv_iload_n hx hb d_F_otherwise_1 rfl (lv_at hl 3 rfl) ?_
  refine vp_callSi (va_Run.run (va_runS (As := [.int kd, .int dt]) (rest := []) ⟨hx, hb, hml, hown, hts⟩ (c_Ac_isPossible l kd dt) (va_cwS 2 hts (g_S wd_244 wd_245 wd_29 wd_246) rfl rfl rfl (by decide +kernel) ⟨Nat.le_of_ble_eq_true rfl, Nat.le_of_ble_eq_true rfl⟩) ⟨fun _ _ _ _ q => q, fun _ _ _ => ⟨rfl, trivial⟩⟩ rfl rfl hl.1 rfl (lv_room (Nat.le_of_ble_eq_true rfl)) d_F_otherwise_2 ⟨Nat.le_of_ble_eq_true rfl, Nat.le_of_ble_eq_true rfl⟩)) (fun r1 e1 => ?_)
  subst e1
  refine lv_if_ne (tgt := 10) hx hb d_F_otherwise_5 (by decide) (fun h1 => ?_) (fun h1 => ?_)
  · refine lv_iload_n hx hb d_F_otherwise_10 rfl (lv_at hl 1 rfl) ?_
    refine lv_if_eq (tgt := 24) hx hb d_F_otherwise_11 (by decide) (fun h2 => ?_) (fun h2 => ?_)
    · refine lv_aload_n hx hb d_F_otherwise_24 rfl (lv_at hl 0 rfl) ?_
      refine va_get (D := D) (ci := 8) (v := .ref (ad 3)) (C := R_F) (T := F_F) (N := 5) hx hb hts in_F hown hK hP 0 rfl rfl 1 (by decide) (hts _ wd_209) (fun _ h9 => h9) rfl d_F_otherwise_25 ?_
      refine va_get (D := D) (ci := 5) (v := .ref (ad 4)) (C := R_Po) (T := F_Po) (N := 5) hx hb hts in_Po hown hK hP 3 rfl rfl 0 (by decide) (hts _ wd_127) (fun _ h9 => h9) rfl d_F_otherwise_28 ?_
      refine lv_astore hx hb d_F_otherwise_31 hl (by decide) rfl (fun ls hl => ?_)
      have hl : lv_has ls 5 [(4, .ref (ad 4)), (0, .ref (ad 0)), (1, .int fg), (2, .int kd), (3, .int dt)] := hl
      refine lv_aload hx hb d_F_otherwise_33 (lv_at hl 0 rfl) ?_
      refine lv_iload_n hx hb d_F_otherwise_35 rfl (lv_at hl 3 rfl) ?_
      refine lv_iload_n hx hb d_F_otherwise_36 rfl (lv_at hl 4 rfl) ?_
      refine va_callv (va_runV (As := [.int kd, .int dt]) (rest := []) ⟨hx, hb, hml, hown, hts⟩ (c_Ac_become_d l D dA ad A hAd w P g ss M kd dt) (cwV 2 hts (g_V wd_279 wd_257 wd_258 wd_29 wd_259) rfl rfl rfl (by decide +kernel) ⟨Nat.le_of_ble_eq_true rfl, Nat.le_of_ble_eq_true rfl⟩) ⟨CG_fb, (va_recv (ci := 0) (q := (R_Ac, F_Ac, 2)) (q0 := 4) hK hP rfl rfl), fun U hU hW => ⟨rfl, CG_at hP hK hN hU hW⟩⟩ rfl rfl hl.1 rfl (lv_room (Nat.le_of_ble_eq_true rfl)) d_F_otherwise_37 ⟨Nat.le_of_ble_eq_true rfl, Nat.le_of_ble_eq_true rfl⟩) hS (fun _ _ h => h) (fun _ h => h) (fun u1 t H locs ht hvm hu hB hz hk hS => ?_)
      subst hu
      obtain ⟨hP, -⟩ := hB
      rw [ht] at hP
      have hP : va_P D cls (wC ad dA w (m_Ac_become_d P kd dt) g ss M) H := hP
      refine lv_iconst (v := 1) hx hb d_F_otherwise_40 (by decide) ?_
      exact W.zret hx hb hr rfl (fun t ht hW => ⟨⟨_, _, rfl, ⟨(by rw [m_F_otherwise, if_neg h1, if_pos h2]), (by rw [m_F_otherwise, if_neg h1, if_pos h2])⟩, CG_at hP hK hN ht hW⟩, hS.F ht⟩) hS.2.2 d_F_otherwise_41
    refine lv_aload_n hx hb d_F_otherwise_14 rfl (lv_at hl 0 rfl) ?_
    refine va_get (D := D) (ci := 8) (v := .ref (ad 3)) (C := R_F) (T := F_F) (N := 5) hx hb hts in_F hown hK hP 0 rfl rfl 1 (by decide) (hts _ wd_209) (fun _ h9 => h9) rfl d_F_otherwise_15 ?_
    refine va_get (D := D) (ci := 5) (v := .ref (ad 5)) (C := R_Po) (T := F_Po) (N := 5) hx hb hts in_Po hown hK hP 3 rfl rfl 1 (by decide) (hts _ wd_129) (fun _ h9 => h9) rfl d_F_otherwise_18 ?_
    refine lv_goto (tgt := 31) hx hb d_F_otherwise_21 (by decide) ?_
    refine lv_astore hx hb d_F_otherwise_31 hl (by decide) rfl (fun ls hl => ?_)
    have hl : lv_has ls 5 [(4, .ref (ad 5)), (0, .ref (ad 0)), (1, .int fg), (2, .int kd), (3, .int dt)] := hl
    refine lv_aload hx hb d_F_otherwise_33 (lv_at hl 0 rfl) ?_
    refine lv_iload_n hx hb d_F_otherwise_35 rfl (lv_at hl 3 rfl) ?_
    refine lv_iload_n hx hb d_F_otherwise_36 rfl (lv_at hl 4 rfl) ?_
    refine va_callv (va_runV (As := [.int kd, .int dt]) (rest := []) ⟨hx, hb, hml, hown, hts⟩ (c_Ac_become_f l D dA ad A hAd w P g ss M kd dt) (cwV 2 hts (g_V wd_279 wd_257 wd_258 wd_29 wd_259) rfl rfl rfl (by decide +kernel) ⟨Nat.le_of_ble_eq_true rfl, Nat.le_of_ble_eq_true rfl⟩) ⟨CG_fb, (va_recv (ci := 0) (q := (R_Ac, F_Ac, 2)) (q0 := 5) hK hP rfl rfl), fun U hU hW => ⟨rfl, CG_at hP hK hN hU hW⟩⟩ rfl rfl hl.1 rfl (lv_room (Nat.le_of_ble_eq_true rfl)) d_F_otherwise_37 ⟨Nat.le_of_ble_eq_true rfl, Nat.le_of_ble_eq_true rfl⟩) hS (fun _ _ h => h) (fun _ h => h) (fun u2 t H locs ht hvm hu hB hz hk hS => ?_)
    subst hu
    obtain ⟨hP, -⟩ := hB
    rw [ht] at hP
    have hP : va_P D cls (wC ad dA w (m_Ac_become_f P kd dt) g ss M) H := hP
    refine lv_iconst (v := 1) hx hb d_F_otherwise_40 (by decide) ?_
    exact W.zret hx hb hr rfl (fun t ht hW => ⟨⟨_, _, rfl, ⟨(by rw [m_F_otherwise, if_neg h1, if_neg h2]), (by rw [m_F_otherwise, if_neg h1, if_neg h2])⟩, CG_at hP hK hN ht hW⟩, hS.F ht⟩) hS.2.2 d_F_otherwise_41
  refine lv_iconst (v := 0) hx hb d_F_otherwise_8 (by decide) ?_
  exact W.zret hx hb hr rfl (fun t ht hW => ⟨⟨_, _, rfl, ⟨(by rw [m_F_otherwise, if_pos h1]), (by rw [m_F_otherwise, if_pos h1])⟩, CG_at hP hK hN ht hW⟩, hS.F ht⟩) hS.2.2 d_F_otherwise_9
def m_F_ruling (w : Nat → Int32) (P : PT) : Int32 := m_Po_chooseFor w P
set_option maxHeartbeats 4000000 in
set_option maxRecDepth 100000 in
theorem c_F_ruling (l : Launch) (D : va_G) (dA : Nat → ClassId) (ad : Nat → Nat) (w : Nat → Int32) (P : PT) (g : GT) (ss : Nat → Int32) (M : MT) (hn : iN P.2.1 ≤ 6) (hc : ∀ i, i < 6 → iN (P.2.2.2.2 i).1 ≤ 3) (hp : ∀ i, i < 6 → ∀ j, j < 3 → vp_in ((P.2.2.2.2 i).2.2.2.2.2 j).1 6) : Met l y_F_ruling (mW y_F_ruling b_F_ruling 1 (some .int)) { frames := 5, cells := 0, slots := 0, locals := 110 } (va_Pc [.ref (ad 0)] (fun U => CG D dA ad w P g ss M U)) (vp_Si (fun r => r = m_F_ruling w P)) 0 0 (fun _ => False) := by
  refine Met.ofW (cc := b_F_ruling) (maxL := 1) (ret := (some .int)) (by decide) rfl ?_
  intro p e s m args below meth c s₁ B hml hv
  obtain ⟨rfl, hP, hK, hN⟩ := hv
  have hx := B.exec
  have hb := B.bytes
  have hr := B.returns
  have hlocks := B.notSynchronized
  have hts := fun (w : Cond) (h : w ∈ lw_g) => atoms_spec (ws := mW y_F_ruling b_F_ruling 1 (some .int)) B.pre w (List.mem_cons_of_mem _ h)
  have hown : s.vm.findClass R_F = some m.cls := findClass_of_methodNamed B.named
  have hl := lv_entry ([.ref (ad 0)]) (n := 1) (Nat.le_of_ble_eq_true rfl)
  rw [lg_entry_eq]
  generalize (lg_sl ([.ref (ad 0)]) ++ List.replicate (1 - (lg_sl ([.ref (ad 0)])).length) Slot.unset).toArray = ls at hl ⊢
  have hl : lv_has ls 1 [(0, .ref (ad 0))] := hl
  refine lv_aload_n hx hb d_F_ruling_0 rfl (lv_at hl 0 rfl) ?_
  refine va_get (D := D) (ci := 8) (v := .ref (ad 3)) (C := R_F) (T := F_F) (N := 5) hx hb hts in_F hown hK hP 0 rfl rfl 1 (by decide) (hts _ wd_209) (fun _ h9 => h9) rfl d_F_ruling_1 ?_
  refine lv_aload_n hx hb d_F_ruling_4 rfl (lv_at hl 0 rfl) ?_
  refine va_get (D := D) (ci := 8) (v := .ref (ad 1)) (C := R_F) (T := F_F) (N := 5) hx hb hts in_F hown hK hP 0 rfl rfl 0 (by decide) (hts _ wd_208) (fun _ h9 => h9) rfl d_F_ruling_5 ?_
  refine vp_callSi (va_Run.run (va_runV (As := [.ref (ad 1)]) (rest := []) ⟨hx, hb, hml, hown, hts⟩ (c_Po_chooseFor l D dA ad w P g ss M hn hc hp) (cwV 1 hts (g_V wd_288 wd_289 wd_290 wd_28 wd_291) rfl rfl rfl (by decide +kernel) ⟨Nat.le_of_ble_eq_true rfl, Nat.le_of_ble_eq_true rfl⟩) ⟨CG_fb, (va_recv (ci := 5) (q := (R_Po, F_Po, 5)) (q0 := 3) hK hP rfl rfl), fun U hU hW => ⟨rfl, CG_at hP hK hN hU hW⟩⟩ rfl rfl hl.1 rfl (lv_room (Nat.le_of_ble_eq_true rfl)) d_F_ruling_8 ⟨Nat.le_of_ble_eq_true rfl, Nat.le_of_ble_eq_true rfl⟩)) (fun r1 e1 => ?_)
  subst e1
  exact W.iret hx hb hr (fun t ht hW => ⟨_, rfl, (by rw [m_F_ruling]), ht⟩) (fun _ h => by cases h) d_F_ruling_11
def m_F_decide (w : Nat → Int32) (P : PT) : Int64 := if (m_Po_chooseFor w P) = (-2 : Int32) then m_Ac_asWord_f P else if (m_Po_chooseFor w P) = (-1 : Int32) then m_Ac_asWord_d P else m_Ac_asWord_r P ((m_Po_chooseFor w P).toNatClampNeg)
set_option maxHeartbeats 4000000 in
set_option maxRecDepth 100000 in
theorem c_F_decide (l : Launch) (D : va_G) (dA : Nat → ClassId) (ad : Nat → Nat) (kt : Nat) (w : Nat → Int32) (P : PT) (g : GT) (ss : Nat → Int32) (M : MT) (hn : iN P.2.1 ≤ 6) (hc : ∀ i, i < 6 → iN (P.2.2.2.2 i).1 ≤ 3) (hp : ∀ i, i < 6 → ∀ j, j < 3 → vp_in ((P.2.2.2.2 i).2.2.2.2.2 j).1 6) (hkd : vp_in P.2.2.1.1 7) (hkf : vp_in P.2.2.2.1.1 7) (hkr : ∀ i, i < 6 → vp_in (P.2.2.2.2 i).2.2.2.1 7) : Met l y_F_decide (mW y_F_decide b_F_decide 1 (some .long)) { frames := 5, cells := 0, slots := 0, locals := 110 } (va_Pc [.ref (ad 0)] (fun U => CG D dA ad w P g ss M U ∧ KW kt U)) (vp_Sl (fun r => r = m_F_decide w P)) 0 0 (fun _ => False) := by
  refine Met.ofW (cc := b_F_decide) (maxL := 1) (ret := (some .long)) (by decide) rfl ?_
  intro p e s m args below meth c s₁ B hml hv
  obtain ⟨rfl, ⟨hP, hK, hN⟩, hkw⟩ := hv
  have hx := B.exec
  have hb := B.bytes
  have hr := B.returns
  have hlocks := B.notSynchronized
  have hts := fun (w : Cond) (h : w ∈ lw_g) => atoms_spec (ws := mW y_F_decide b_F_decide 1 (some .long)) B.pre w (List.mem_cons_of_mem _ h)
  have hown : s.vm.findClass R_F = some m.cls := findClass_of_methodNamed B.named
  have hZ := hkw.1
  have hT := hkw.2
  have hl := lv_entry ([.ref (ad 0)]) (n := 1) (Nat.le_of_ble_eq_true rfl)
  rw [lg_entry_eq]
  generalize (lg_sl ([.ref (ad 0)]) ++ List.replicate (1 - (lg_sl ([.ref (ad 0)])).length) Slot.unset).toArray = ls at hl ⊢
  have hl : lv_has ls 1 [(0, .ref (ad 0))] := hl
  refine lv_aload_n hx hb d_F_decide_0 rfl (lv_at hl 0 rfl) ?_
  refine va_get (D := D) (ci := 8) (v := .ref (ad 3)) (C := R_F) (T := F_F) (N := 5) hx hb hts in_F hown hK hP 0 rfl rfl 1 (by decide) (hts _ wd_209) (fun _ h9 => h9) rfl d_F_decide_1 ?_
  refine lv_aload_n hx hb d_F_decide_4 rfl (lv_at hl 0 rfl) ?_
  refine va_get (D := D) (ci := 8) (v := .ref (ad 3)) (C := R_F) (T := F_F) (N := 5) hx hb hts in_F hown hK hP 0 rfl rfl 1 (by decide) (hts _ wd_209) (fun _ h9 => h9) rfl d_F_decide_5 ?_
  refine lv_aload_n hx hb d_F_decide_8 rfl (lv_at hl 0 rfl) ?_
  refine va_get (D := D) (ci := 8) (v := .ref (ad 1)) (C := R_F) (T := F_F) (N := 5) hx hb hts in_F hown hK hP 0 rfl rfl 0 (by decide) (hts _ wd_208) (fun _ h9 => h9) rfl d_F_decide_9 ?_
  refine vp_callSi (va_Run.run (va_runV (As := [.ref (ad 1)]) (rest := [.ref (ad 3)]) ⟨hx, hb, hml, hown, hts⟩ (c_Po_chooseFor l D dA ad w P g ss M hn hc hp) (cwV 1 hts (g_V wd_288 wd_289 wd_290 wd_28 wd_291) rfl rfl rfl (by decide +kernel) ⟨Nat.le_of_ble_eq_true rfl, Nat.le_of_ble_eq_true rfl⟩) ⟨CG_fb, (va_recv (ci := 5) (q := (R_Po, F_Po, 5)) (q0 := 3) hK hP rfl rfl), fun U hU hW => ⟨rfl, CG_at hP hK hN hU hW⟩⟩ rfl rfl hl.1 rfl (lv_room (Nat.le_of_ble_eq_true rfl)) d_F_decide_12 ⟨Nat.le_of_ble_eq_true rfl, Nat.le_of_ble_eq_true rfl⟩)) (fun r1 e1 => ?_)
  subst e1
  refine vp_callSr (va_Run.run (va_runV (As := [.int (m_Po_chooseFor w P)]) (rest := []) ⟨hx, hb, hml, hown, hts⟩ (c_Po_actionOf l D dA ad w P g ss M (m_Po_chooseFor w P) (choose_rng hn hc)) (cwV 1 hts (g_V wd_326 wd_327 wd_328 wd_28 wd_329) rfl rfl rfl (by decide +kernel) ⟨Nat.le_of_ble_eq_true rfl, Nat.le_of_ble_eq_true rfl⟩) ⟨CG_fb, (va_recv (ci := 5) (q := (R_Po, F_Po, 5)) (q0 := 3) hK hP rfl rfl), fun U hU hW => ⟨rfl, CG_at hP hK hN hU hW⟩⟩ rfl rfl hl.1 rfl (lv_room (Nat.le_of_ble_eq_true rfl)) d_F_decide_15 ⟨Nat.le_of_ble_eq_true rfl, Nat.le_of_ble_eq_true rfl⟩)) (fun r2 e2 => ?_)
  subst e2
  by_cases hA1 : m_Po_chooseFor w P = (-2 : Int32)
  · refine W.eq (g2 := F0 m 18 ls [.ref (ad 5)]) (by rw [m_Po_actionOf, if_pos hA1]) ?_
    refine vp_callSl (va_Run.run (va_runV (As := []) (rest := []) ⟨hx, hb, hml, hown, hts⟩ (c_Ac_asWord_f l D dA ad kt w P g ss M hkf) (cwV 0 hts (g_V wd_330 wd_331 wd_332 wd_29 wd_333) rfl rfl rfl (by decide +kernel) ⟨Nat.le_of_ble_eq_true rfl, Nat.le_of_ble_eq_true rfl⟩) ⟨CGk_fb, (va_recv (ci := 0) (q := (R_Ac, F_Ac, 2)) (q0 := 5) hK hP rfl rfl), fun U hU hW => ⟨rfl, CG_at hP hK hN hU hW, KW_at hkw hU hW⟩⟩ rfl rfl hl.1 rfl (lv_room (Nat.le_of_ble_eq_true rfl)) d_F_decide_18 ⟨Nat.le_of_ble_eq_true rfl, Nat.le_of_ble_eq_true rfl⟩)) (fun r3 e3 => ?_)
    subst e3
    exact W.lret hx hb hr (fun t ht hW => ⟨_, rfl, (by rw [m_F_decide, if_pos hA1]), ht⟩) (fun _ h => by cases h) d_F_decide_21
  by_cases hB1 : m_Po_chooseFor w P = (-1 : Int32)
  · refine W.eq (g2 := F0 m 18 ls [.ref (ad 4)]) (by rw [m_Po_actionOf, if_neg hA1, if_pos hB1]) ?_
    refine vp_callSl (va_Run.run (va_runV (As := []) (rest := []) ⟨hx, hb, hml, hown, hts⟩ (c_Ac_asWord_d l D dA ad kt w P g ss M hkd) (cwV 0 hts (g_V wd_330 wd_331 wd_332 wd_29 wd_333) rfl rfl rfl (by decide +kernel) ⟨Nat.le_of_ble_eq_true rfl, Nat.le_of_ble_eq_true rfl⟩) ⟨CGk_fb, (va_recv (ci := 0) (q := (R_Ac, F_Ac, 2)) (q0 := 4) hK hP rfl rfl), fun U hU hW => ⟨rfl, CG_at hP hK hN hU hW, KW_at hkw hU hW⟩⟩ rfl rfl hl.1 rfl (lv_room (Nat.le_of_ble_eq_true rfl)) d_F_decide_18 ⟨Nat.le_of_ble_eq_true rfl, Nat.le_of_ble_eq_true rfl⟩)) (fun r4 e4 => ?_)
    subst e4
    exact W.lret hx hb hr (fun t ht hW => ⟨_, rfl, (by rw [m_F_decide, if_neg hA1, if_pos hB1]), ht⟩) (fun _ h => by cases h) d_F_decide_21
  have hv1 : ((m_Po_chooseFor w P).toNatClampNeg) < 6 := vp_cl (choose_rng hn hc hA1 hB1)
  refine W.eq (g2 := F0 m 18 ls [.ref (ad (14 + 6 * ((m_Po_chooseFor w P).toNatClampNeg)))]) (by rw [m_Po_actionOf, if_neg hA1, if_neg hB1]) ?_
  refine vp_callSl (va_Run.run (va_runV (As := []) (rest := []) ⟨hx, hb, hml, hown, hts⟩ (c_Ac_asWord_r l D dA ad kt w P g ss M ((m_Po_chooseFor w P).toNatClampNeg) (by assumption) (hkr _ (by assumption))) (cwV 0 hts (g_V wd_330 wd_331 wd_332 wd_29 wd_333) rfl rfl rfl (by decide +kernel) ⟨Nat.le_of_ble_eq_true rfl, Nat.le_of_ble_eq_true rfl⟩) ⟨CGk_fb, (va_recv (ci := 0) (q := (R_Ac, F_Ac, 2)) (q0 := (13 + 6 * ((m_Po_chooseFor w P).toNatClampNeg) + 1)) hK hP rfl (wC_ra (by omega))), fun U hU hW => ⟨rfl, CG_at hP hK hN hU hW, KW_at hkw hU hW⟩⟩ rfl rfl hl.1 rfl (lv_room (Nat.le_of_ble_eq_true rfl)) d_F_decide_18 ⟨Nat.le_of_ble_eq_true rfl, Nat.le_of_ble_eq_true rfl⟩)) (fun r5 e5 => ?_)
  subst e5
  exact W.lret hx hb hr (fun t ht hW => ⟨_, rfl, (by rw [m_F_decide, if_neg hA1, if_neg hB1]), ht⟩) (fun _ h => by cases h) d_F_decide_21
end
section
/-! What a faultless instruction gives -/
theorem iN_clamp {x : Int32} (h : iN x < 2147483648) : x.toNatClampNeg = iN x := by
  have e := nI_iN x
  generalize iN x = k at h e
  subst e
  exact nI_clamp (by omega)
theorem in_iN {x : Int32} {n : Nat} (hn : n < 2147483648) (h : iN x < n) : vp_in x n := by
  rw [vp_in_iff, iN_int]
  omega
theorem iN_in {x : Int32} {n : Nat} (hn : n < 2147483648) (h : vp_in x n) : iN x < n := by
  rw [vp_in_iff, iN_int] at h
  have := iN_lt x
  omega
theorem iN_nIs {n : Nat} (h : n < 4294967296) : iN (nI n) = n := by
  rw [iN_nI]
  omega
theorem iN_pred {x : Int32} (h : ¬ x = (0 : Int32)) : iN (x - (1 : Int32)) = iN x - 1 := by
  have h0 : ¬ iN x = 0 := fun q => h (iN_inj q)
  have := iN_lt x
  rw [iN_sub, show iN (1 : Int32) = 1 from rfl]
  omega
theorem of_ok {g : GT} {i : Int32} (h : m_Ch_ownFault g i = 0) : ¬ m_In_isKnown (m_In_codeOf (g.2 i.toNatClampNeg)) = (0 : Int32) ∧ ¬ m_Ch_isOperandFit (m_In_codeOf (g.2 i.toNatClampNeg)) (m_In_operandOf (g.2 i.toNatClampNeg)) = (0 : Int32) ∧ m_Ch_longestSkip (m_In_codeOf (g.2 i.toNatClampNeg)) (g.2 i.toNatClampNeg) ≤ (g.1 - (1 : Int32) - i).toInt64 := by
  unfold m_Ch_ownFault at h
  by_cases h1 : m_In_isKnown (m_In_codeOf (g.2 i.toNatClampNeg)) = (0 : Int32)
  · rw [if_pos h1] at h
    exact absurd h (by decide)
  · rw [if_neg h1] at h
    by_cases h2 : m_Ch_isOperandFit (m_In_codeOf (g.2 i.toNatClampNeg)) (m_In_operandOf (g.2 i.toNatClampNeg)) = (0 : Int32)
    · rw [if_pos h2] at h
      exact absurd h (by decide)
    · rw [if_neg h2] at h
      refine ⟨h1, h2, (cmp_le _ _).mp ?_⟩
      by_cases h3 : lg_cmp (m_Ch_longestSkip (m_In_codeOf (g.2 i.toNatClampNeg)) (g.2 i.toNatClampNeg)) (((g.1 - (1 : Int32)) - i).toInt64) ≤ (0 : Int32)
      · exact h3
      · rw [if_neg h3] at h
        exact absurd h (by decide)
theorem kl_w : ∀ cd ∈ KL, (cd &&& (7 : Int32) = (0 : Int32) ∨ cd &&& (7 : Int32) = (1 : Int32)) → cd &&& (240 : Int32) = (32 : Int32) → cd = 32 := by decide +kernel
theorem kl_c : ∀ cd ∈ KL, (cd &&& (7 : Int32) = (0 : Int32) ∨ cd &&& (7 : Int32) = (1 : Int32)) → cd &&& (240 : Int32) = (96 : Int32) → cd = 96 ∨ cd = 97 := by decide +kernel
theorem kl_s : ∀ cd ∈ KL, (cd &&& (7 : Int32) = (2 : Int32) ∨ cd &&& (7 : Int32) = (3 : Int32)) → cd = 2 ∨ cd = 3 := by decide +kernel
theorem kl_j : ∀ cd ∈ KL, cd &&& (7 : Int32) = (5 : Int32) → cd = 5 ∨ ¬ m_In_isConditional cd = (0 : Int32) := by decide +kernel
theorem opnd_lt (z : Int64) : uN (m_In_operandOf z) < 4294967296 := by
  rw [opnd_n]
  have := uN_lt z
  omega
theorem fit_cell {cd : Int32} {k : Int64} (hk : uN k < 4294967296) (hc : cd = 96 ∨ cd = 97 ∨ cd = 2 ∨ cd = 3) (h : ¬ m_Ch_isOperandFit cd k = (0 : Int32)) : uN k < 16 := by
  have e : m_Ch_isOperandFit cd k = if (0 : Int32) ≤ lg_cmp k 16 then 0 else 1 := by
    unfold m_Ch_isOperandFit
    rcases hc with rfl | rfl | rfl | rfl
    · rw [if_neg (by decide)]
    · rw [if_neg (by decide)]
    · rw [if_pos (by decide), if_neg (by decide)]
    · rw [if_pos (by decide), if_neg (by decide)]
  rw [e] at h
  by_cases q : (0 : Int32) ≤ lg_cmp k 16
  · rw [if_pos q] at h
    exact absurd rfl h
  · rw [cmp_ge, leL_n (by decide) (by omega)] at q
    have e16 : uN 16 = 16 := rfl
    omega
theorem fit_rec {k : Int64} (hk : uN k < 4294967296) (h : ¬ m_Ch_isOperandFit 32 k = (0 : Int32)) : uN k % 4 = 0 ∧ uN k < 64 := by
  have e : m_Ch_isOperandFit 32 k = if lg_cmp (k - k / (4 : Int64) * (4 : Int64)) (0 : Int64) = (0 : Int32) then if (0 : Int32) ≤ lg_cmp k 64 then 0 else 1 else 0 := by
    unfold m_Ch_isOperandFit
    rw [if_pos (by decide), if_pos (by decide), if_pos rfl]
  rw [e] at h
  by_cases q1 : lg_cmp (k - k / (4 : Int64) * (4 : Int64)) (0 : Int64) = (0 : Int32)
  · rw [if_pos q1] at h
    by_cases q : (0 : Int32) ≤ lg_cmp k 64
    · rw [if_pos q] at h
      exact absurd rfl h
    · rw [cmp_ge, leL_n (by decide) (by omega)] at q
      have e64 : uN 64 = 64 := rfl
      have e4 := uN_r4 hk
      rw [cmp_eq] at q1
      rw [q1] at e4
      have e0 : uN 0 = 0 := rfl
      omega
  · rw [if_neg q1] at h
    exact absurd rfl h
theorem okz_of {g : GT} (hg : iN g.1 ≤ 64) (hok : ∀ i, i < iN g.1 → m_Ch_ownFault g (nI i) = 0) {x : Int32} (hx : iN x < iN g.1) : OKz (g.2 x.toNatClampNeg) := by
  have h := hok (iN x) hx
  rw [nI_iN] at h
  obtain ⟨h1, h2, -⟩ := of_ok h
  have hk := known_in h1
  generalize g.2 x.toNatClampNeg = z at h1 h2 hk
  have hl := opnd_lt z
  have et : iN (m_In_operandOf z).toInt32 = uN (m_In_operandOf z) := by rw [iN_tr]; omega
  refine ⟨fun c1 c2 => ?_, fun c1 c2 => ?_, fun c1 => ?_⟩
  · have hc := kl_w _ hk c1 c2
    rw [hc] at h2
    have hf := fit_rec hl h2
    refine in_iN (by decide) ?_
    rw [iN_d4 (by omega), et]
    omega
  · have hc := kl_c _ hk c1 c2
    have hf := fit_cell hl (by rcases hc with q | q; exact Or.inl q; exact Or.inr (Or.inl q)) h2
    exact in_iN (by decide) (by omega)
  · have hc := kl_s _ hk c1
    have hf := fit_cell hl (by rcases hc with q | q; exact Or.inr (Or.inr (Or.inl q)); exact Or.inr (Or.inr (Or.inr q))) h2
    exact in_iN (by decide) (by omega)
/-- how far an instruction may go -/
theorem far_of {g : GT} (hg : iN g.1 ≤ 64) (hok : ∀ i, i < iN g.1 → m_Ch_ownFault g (nI i) = 0) {x : Int32} (hx : iN x < iN g.1) : (m_In_codeOf (g.2 x.toNatClampNeg) = (5 : Int32) → iN x + 1 + uN (m_In_operandOf (g.2 x.toNatClampNeg)) < iN g.1) ∧ (¬ m_In_isConditional (m_In_codeOf (g.2 x.toNatClampNeg)) = (0 : Int32) → ¬ m_In_codeOf (g.2 x.toNatClampNeg) = (5 : Int32) → iN x + 1 + iN (m_In_distanceIfTrue (g.2 x.toNatClampNeg)) < iN g.1 ∧ iN x + 1 + iN (m_In_distanceIfFalse (g.2 x.toNatClampNeg)) < iN g.1) := by
  have h := hok (iN x) hx
  rw [nI_iN] at h
  obtain ⟨-, -, h3⟩ := of_ok h
  generalize g.2 x.toNatClampNeg = z at h3
  have e1 : iN (g.1 - (1 : Int32) - x) = iN g.1 - 1 - iN x := by
    rw [iN_sub, iN_sub, show iN (1 : Int32) = 1 from rfl]
    omega
  have e2 : uN (g.1 - (1 : Int32) - x).toInt64 = iN g.1 - 1 - iN x := by rw [uN_i2l (by omega), e1]
  have hl := opnd_lt z
  have hT := dT_n z
  have hF := dF_n z
  refine ⟨fun hc => ?_, fun hc hn => ?_⟩
  · unfold m_Ch_longestSkip at h3
    rw [if_pos hc] at h3
    have e3 : uN ((1 : Int64) + m_In_operandOf z) = 1 + uN (m_In_operandOf z) := by
      rw [uN_add, show uN (1 : Int64) = 1 from rfl]
      omega
    rw [leL_n (by omega) (by omega), e2, e3] at h3
    omega
  · unfold m_Ch_longestSkip at h3
    rw [if_neg hn, if_neg hc] at h3
    have key : ∀ y : Int32, iN y < 256 → uN ((1 : Int32) + y).toInt64 = 1 + iN y := by
      intro y hy
      have e5 : iN ((1 : Int32) + y) = 1 + iN y := by
        rw [iN_add, show iN (1 : Int32) = 1 from rfl]
        omega
      rw [uN_i2l (by omega), e5]
    have bT : iN (m_In_distanceIfTrue z) < 256 := by omega
    have bF : iN (m_In_distanceIfFalse z) < 256 := by omega
    by_cases hlt : m_In_distanceIfTrue z < m_In_distanceIfFalse z
    · rw [if_pos hlt, leL_n (by rw [key _ bF]; omega) (by omega), e2, key _ bF] at h3
      rw [lt_n (by omega) (by omega)] at hlt
      omega
    · rw [if_neg hlt, leL_n (by rw [key _ bT]; omega) (by omega), e2, key _ bT] at h3
      rw [lt_n (by omega) (by omega)] at hlt
      omega
theorem ok_step {g : GT} {j : Nat} (hok : ∀ i, i < j → m_Ch_ownFault g (nI i) = 0) (h : m_Ch_ownFault g (nI j) = (0 : Int32)) : ∀ i, i < j + 1 → m_Ch_ownFault g (nI i) = 0 := by
  intro i hi
  by_cases e : i = j
  · rw [e]
    exact h
  · exact hok i (by omega)
theorem ok_all {g : GT} {j : Nat} (hg : iN g.1 ≤ 64) (hj : j ≤ 64) (hok : ∀ i, i < j → m_Ch_ownFault g (nI i) = 0) (h : g.1 ≤ nI j) : ∀ i, i < iN g.1 → m_Ch_ownFault g (nI i) = 0 := by
  have e := iN_nIs (n := j) (by omega)
  rw [le_n (by omega) (by omega), e] at h
  exact fun i hi => hok i (by omega)
theorem end_of {g : GT} (hg : iN g.1 ≤ 64) (h0 : ¬ g.1 = (0 : Int32)) (h : ¬ m_In_endsRun (m_In_codeOf (g.2 (g.1 - (1 : Int32)).toNatClampNeg)) = (0 : Int32)) : ¬ m_In_endsRun (m_In_codeOf (g.2 (iN g.1 - 1))) = 0 := by
  have e := iN_pred h0
  rw [iN_clamp (by omega), e] at h
  exact h
theorem okp_of {g : GT} (hg : iN g.1 ≤ 64) (hok : ∀ i, i < iN g.1 → m_Ch_ownFault g (nI i) = 0) (hend : ¬ m_In_endsRun (m_In_codeOf (g.2 (iN g.1 - 1))) = 0) {i : Nat} (hi : i < iN g.1) : OKp (g.2 (nI i).toNatClampNeg) ((nI i) + (1 : Int32)) := by
  have e := iN_nIs (n := i) (by omega)
  have hf := far_of hg hok (x := nI i) (by omega)
  have e1 : iN ((nI i) + (1 : Int32)) = i + 1 := by
    rw [iN_add, e, show iN (1 : Int32) = 1 from rfl]
    omega
  have hcl : (nI i).toNatClampNeg = i := nI_clamp (by omega)
  rw [hcl] at hf ⊢
  have hl := opnd_lt (g.2 i)
  have et : iN (m_In_operandOf (g.2 i)).toInt32 = uN (m_In_operandOf (g.2 i)) := by rw [iN_tr]; omega
  refine ⟨fun c => ?_, fun c1 c2 => ⟨?_, ?_⟩, fun c1 c2 c3 => ?_⟩
  · have := hf.1 c
    refine in_iN (by decide) ?_
    rw [iN_add, e1, et]
    omega
  · have := hf.2 c2 c1
    refine in_iN (by decide) ?_
    rw [iN_add, e1]
    omega
  · have := hf.2 c2 c1
    refine in_iN (by decide) ?_
    rw [iN_add, e1]
    omega
  · refine in_iN (by decide) ?_
    rw [e1]
    by_cases q : i = iN g.1 - 1
    · rw [q] at c3
      exact absurd c3 hend
    · omega
theorem wd_1 : Cond.selects R_Ch y_Ch_leastUnset y_Ch_leastUnset ∈ lw_g := wd_in (i := 1) (by decide +kernel) (by decide +kernel)
theorem wd_2 : Cond.selects R_Ch y_Ch_passOn y_Ch_passOn ∈ lw_g := wd_in (i := 2) (by decide +kernel) (by decide +kernel)
theorem wd_211 : Cond.fieldLink R_F 35 R_F "checker" "LCallFilter$Checker;" ∈ lw_g := wd_in (i := 211) (by decide +kernel) (by decide +kernel)
theorem wd_356 : Cond.methodLink R_F 116 y_Ch_verdictOn ∈ lw_g := wd_in (i := 356) (by decide +kernel) (by decide +kernel)
theorem wd_357 : Cond.instanceMethod y_Ch_verdictOn ∈ lw_g := wd_in (i := 357) (by decide +kernel) (by decide +kernel)
theorem wd_358 : Cond.selects R_Ch y_Ch_verdictOn y_Ch_verdictOn ∈ lw_g := wd_in (i := 358) (by decide +kernel) (by decide +kernel)
theorem wd_359 : Cond.code y_Ch_verdictOn prog_4_method_2_code 4 (Option.some Jvm.ClassFile.FieldType.int) ∈ lw_g := wd_in (i := 359) (by decide +kernel) (by decide +kernel)
theorem wd_360 : Cond.methodLink R_Ch 21 y_Ch_ownFault ∈ lw_g := wd_in (i := 360) (by decide +kernel) (by decide +kernel)
theorem wd_361 : Cond.static y_Ch_ownFault ∈ lw_g := wd_in (i := 361) (by decide +kernel) (by decide +kernel)
theorem wd_362 : Cond.code y_Ch_ownFault prog_4_method_3_code 5 (Option.some Jvm.ClassFile.FieldType.int) ∈ lw_g := wd_in (i := 362) (by decide +kernel) (by decide +kernel)
theorem wd_410 : Cond.methodLink R_Ch 39 y_Ch_leastUnset ∈ lw_g := wd_in (i := 410) (by decide +kernel) (by decide +kernel)
theorem wd_412 : Cond.instanceMethod y_Ch_leastUnset ∈ lw_g := wd_in (i := 412) (by decide +kernel) (by decide +kernel)
theorem wd_413 : Cond.code y_Ch_leastUnset prog_4_method_6_code 8 (Option.some Jvm.ClassFile.FieldType.int) ∈ lw_g := wd_in (i := 413) (by decide +kernel) (by decide +kernel)
theorem wd_414 : Cond.constant R_Ch 91 65535 ∈ lw_g := wd_in (i := 414) (by decide +kernel) (by decide +kernel)
theorem wd_415 : Cond.methodLink R_Ch 92 y_Ch_passOn ∈ lw_g := wd_in (i := 415) (by decide +kernel) (by decide +kernel)
theorem wd_417 : Cond.instanceMethod y_Ch_passOn ∈ lw_g := wd_in (i := 417) (by decide +kernel) (by decide +kernel)
theorem wd_418 : Cond.code y_Ch_passOn prog_4_method_7_code 6 (Option.none : Option Jvm.ClassFile.FieldType) ∈ lw_g := wd_in (i := 418) (by decide +kernel) (by decide +kernel)
theorem d_Ch_leastUnset_0 : decode b_Ch_leastUnset 0 = .ok (.iconst 0, 1) := by decide +kernel
theorem d_Ch_leastUnset_1 : decode b_Ch_leastUnset 1 = .ok (.istore_n 2, 1) := by decide +kernel
theorem d_Ch_leastUnset_2 : decode b_Ch_leastUnset 2 = .ok (.iload_n 2, 1) := by decide +kernel
theorem d_Ch_leastUnset_3 : decode b_Ch_leastUnset 3 = .ok (.aload_n 1, 1) := by decide +kernel
theorem d_Ch_leastUnset_4 : decode b_Ch_leastUnset 4 = .ok (.getfield 17, 3) := by decide +kernel
theorem d_Ch_leastUnset_7 : decode b_Ch_leastUnset 7 = .ok (.if_icmp .ge 17, 3) := by decide +kernel
theorem d_Ch_leastUnset_10 : decode b_Ch_leastUnset 10 = .ok (.aload_n 0, 1) := by decide +kernel
theorem d_Ch_leastUnset_11 : decode b_Ch_leastUnset 11 = .ok (.getfield 11, 3) := by decide +kernel
theorem d_Ch_leastUnset_14 : decode b_Ch_leastUnset 14 = .ok (.iload_n 2, 1) := by decide +kernel
theorem d_Ch_leastUnset_15 : decode b_Ch_leastUnset 15 = .ok (.ldc 91, 2) := by decide +kernel
theorem d_Ch_leastUnset_17 : decode b_Ch_leastUnset 17 = .ok (.iastore, 1) := by decide +kernel
theorem d_Ch_leastUnset_18 : decode b_Ch_leastUnset 18 = .ok (.iinc 2 1, 3) := by decide +kernel
theorem d_Ch_leastUnset_21 : decode b_Ch_leastUnset 21 = .ok (.goto (-19), 3) := by decide +kernel
theorem d_Ch_leastUnset_24 : decode b_Ch_leastUnset 24 = .ok (.aload_n 0, 1) := by decide +kernel
theorem d_Ch_leastUnset_25 : decode b_Ch_leastUnset 25 = .ok (.getfield 11, 3) := by decide +kernel
theorem d_Ch_leastUnset_28 : decode b_Ch_leastUnset 28 = .ok (.iconst 0, 1) := by decide +kernel
theorem d_Ch_leastUnset_29 : decode b_Ch_leastUnset 29 = .ok (.iconst 0, 1) := by decide +kernel
theorem d_Ch_leastUnset_30 : decode b_Ch_leastUnset 30 = .ok (.iastore, 1) := by decide +kernel
theorem d_Ch_leastUnset_31 : decode b_Ch_leastUnset 31 = .ok (.iconst 0, 1) := by decide +kernel
theorem d_Ch_leastUnset_32 : decode b_Ch_leastUnset 32 = .ok (.istore_n 2, 1) := by decide +kernel
theorem d_Ch_leastUnset_33 : decode b_Ch_leastUnset 33 = .ok (.iload_n 2, 1) := by decide +kernel
theorem d_Ch_leastUnset_34 : decode b_Ch_leastUnset 34 = .ok (.aload_n 1, 1) := by decide +kernel
theorem d_Ch_leastUnset_35 : decode b_Ch_leastUnset 35 = .ok (.getfield 17, 3) := by decide +kernel
theorem d_Ch_leastUnset_38 : decode b_Ch_leastUnset 38 = .ok (.if_icmp .ge 86, 3) := by decide +kernel
theorem d_Ch_leastUnset_41 : decode b_Ch_leastUnset 41 = .ok (.aload_n 1, 1) := by decide +kernel
theorem d_Ch_leastUnset_42 : decode b_Ch_leastUnset 42 = .ok (.getfield 25, 3) := by decide +kernel
theorem d_Ch_leastUnset_45 : decode b_Ch_leastUnset 45 = .ok (.iload_n 2, 1) := by decide +kernel
theorem d_Ch_leastUnset_46 : decode b_Ch_leastUnset 46 = .ok (.laload, 1) := by decide +kernel
theorem d_Ch_leastUnset_47 : decode b_Ch_leastUnset 47 = .ok (.lstore_n 3, 1) := by decide +kernel
theorem d_Ch_leastUnset_48 : decode b_Ch_leastUnset 48 = .ok (.lload_n 3, 1) := by decide +kernel
theorem d_Ch_leastUnset_49 : decode b_Ch_leastUnset 49 = .ok (.invokestatic 29, 3) := by decide +kernel
theorem d_Ch_leastUnset_52 : decode b_Ch_leastUnset 52 = .ok (.istore 5, 2) := by decide +kernel
theorem d_Ch_leastUnset_54 : decode b_Ch_leastUnset 54 = .ok (.iconst 1, 1) := by decide +kernel
theorem d_Ch_leastUnset_55 : decode b_Ch_leastUnset 55 = .ok (.lload_n 3, 1) := by decide +kernel
theorem d_Ch_leastUnset_56 : decode b_Ch_leastUnset 56 = .ok (.invokestatic 46, 3) := by decide +kernel
theorem d_Ch_leastUnset_59 : decode b_Ch_leastUnset 59 = .ok (.l2i, 1) := by decide +kernel
theorem d_Ch_leastUnset_60 : decode b_Ch_leastUnset 60 = .ok (.ishl, 1) := by decide +kernel
theorem d_Ch_leastUnset_61 : decode b_Ch_leastUnset 61 = .ok (.istore 6, 2) := by decide +kernel
theorem d_Ch_leastUnset_63 : decode b_Ch_leastUnset 63 = .ok (.iload 5, 2) := by decide +kernel
theorem d_Ch_leastUnset_65 : decode b_Ch_leastUnset 65 = .ok (.invokestatic 58, 3) := by decide +kernel
theorem d_Ch_leastUnset_68 : decode b_Ch_leastUnset 68 = .ok (.ifCond .eq 17, 3) := by decide +kernel
theorem d_Ch_leastUnset_71 : decode b_Ch_leastUnset 71 = .ok (.aload_n 0, 1) := by decide +kernel
theorem d_Ch_leastUnset_72 : decode b_Ch_leastUnset 72 = .ok (.getfield 11, 3) := by decide +kernel
theorem d_Ch_leastUnset_75 : decode b_Ch_leastUnset 75 = .ok (.iload_n 2, 1) := by decide +kernel
theorem d_Ch_leastUnset_76 : decode b_Ch_leastUnset 76 = .ok (.iaload, 1) := by decide +kernel
theorem d_Ch_leastUnset_77 : decode b_Ch_leastUnset 77 = .ok (.iload 6, 2) := by decide +kernel
theorem d_Ch_leastUnset_79 : decode b_Ch_leastUnset 79 = .ok (.iand, 1) := by decide +kernel
theorem d_Ch_leastUnset_80 : decode b_Ch_leastUnset 80 = .ok (.ifCond .ne 5, 3) := by decide +kernel
theorem d_Ch_leastUnset_83 : decode b_Ch_leastUnset 83 = .ok (.iload_n 2, 1) := by decide +kernel
theorem d_Ch_leastUnset_84 : decode b_Ch_leastUnset 84 = .ok (.ireturn, 1) := by decide +kernel
theorem d_Ch_leastUnset_85 : decode b_Ch_leastUnset 85 = .ok (.aload_n 0, 1) := by decide +kernel
theorem d_Ch_leastUnset_86 : decode b_Ch_leastUnset 86 = .ok (.getfield 11, 3) := by decide +kernel
theorem d_Ch_leastUnset_89 : decode b_Ch_leastUnset 89 = .ok (.iload_n 2, 1) := by decide +kernel
theorem d_Ch_leastUnset_90 : decode b_Ch_leastUnset 90 = .ok (.iaload, 1) := by decide +kernel
theorem d_Ch_leastUnset_91 : decode b_Ch_leastUnset 91 = .ok (.iload 5, 2) := by decide +kernel
theorem d_Ch_leastUnset_93 : decode b_Ch_leastUnset 93 = .ok (.invokestatic 61, 3) := by decide +kernel
theorem d_Ch_leastUnset_96 : decode b_Ch_leastUnset 96 = .ok (.ifCond .eq 8, 3) := by decide +kernel
theorem d_Ch_leastUnset_99 : decode b_Ch_leastUnset 99 = .ok (.iload 6, 2) := by decide +kernel
theorem d_Ch_leastUnset_101 : decode b_Ch_leastUnset 101 = .ok (.goto 4, 3) := by decide +kernel
theorem d_Ch_leastUnset_104 : decode b_Ch_leastUnset 104 = .ok (.iconst 0, 1) := by decide +kernel
theorem d_Ch_leastUnset_105 : decode b_Ch_leastUnset 105 = .ok (.ior, 1) := by decide +kernel
theorem d_Ch_leastUnset_106 : decode b_Ch_leastUnset 106 = .ok (.istore 7, 2) := by decide +kernel
theorem d_Ch_leastUnset_108 : decode b_Ch_leastUnset 108 = .ok (.aload_n 0, 1) := by decide +kernel
theorem d_Ch_leastUnset_109 : decode b_Ch_leastUnset 109 = .ok (.lload_n 3, 1) := by decide +kernel
theorem d_Ch_leastUnset_110 : decode b_Ch_leastUnset 110 = .ok (.iload_n 2, 1) := by decide +kernel
theorem d_Ch_leastUnset_111 : decode b_Ch_leastUnset 111 = .ok (.iconst 1, 1) := by decide +kernel
theorem d_Ch_leastUnset_112 : decode b_Ch_leastUnset 112 = .ok (.iadd, 1) := by decide +kernel
theorem d_Ch_leastUnset_113 : decode b_Ch_leastUnset 113 = .ok (.iload 7, 2) := by decide +kernel
theorem d_Ch_leastUnset_115 : decode b_Ch_leastUnset 115 = .ok (.invokevirtual 92, 3) := by decide +kernel
theorem d_Ch_leastUnset_118 : decode b_Ch_leastUnset 118 = .ok (.iinc 2 1, 3) := by decide +kernel
theorem d_Ch_leastUnset_121 : decode b_Ch_leastUnset 121 = .ok (.goto (-88), 3) := by decide +kernel
theorem d_Ch_leastUnset_124 : decode b_Ch_leastUnset 124 = .ok (.iconst (-1), 1) := by decide +kernel
theorem d_Ch_leastUnset_125 : decode b_Ch_leastUnset 125 = .ok (.ireturn, 1) := by decide +kernel
theorem d_Ch_verdictOn_0 : decode b_Ch_verdictOn 0 = .ok (.aload_n 1, 1) := by decide +kernel
theorem d_Ch_verdictOn_1 : decode b_Ch_verdictOn 1 = .ok (.getfield 17, 3) := by decide +kernel
theorem d_Ch_verdictOn_4 : decode b_Ch_verdictOn 4 = .ok (.ifCond .ne 6, 3) := by decide +kernel
theorem d_Ch_verdictOn_7 : decode b_Ch_verdictOn 7 = .ok (.bipush 100, 2) := by decide +kernel
theorem d_Ch_verdictOn_9 : decode b_Ch_verdictOn 9 = .ok (.ireturn, 1) := by decide +kernel
theorem d_Ch_verdictOn_10 : decode b_Ch_verdictOn 10 = .ok (.iconst 0, 1) := by decide +kernel
theorem d_Ch_verdictOn_11 : decode b_Ch_verdictOn 11 = .ok (.istore_n 2, 1) := by decide +kernel
theorem d_Ch_verdictOn_12 : decode b_Ch_verdictOn 12 = .ok (.iload_n 2, 1) := by decide +kernel
theorem d_Ch_verdictOn_13 : decode b_Ch_verdictOn 13 = .ok (.aload_n 1, 1) := by decide +kernel
theorem d_Ch_verdictOn_14 : decode b_Ch_verdictOn 14 = .ok (.getfield 17, 3) := by decide +kernel
theorem d_Ch_verdictOn_17 : decode b_Ch_verdictOn 17 = .ok (.if_icmp .ge 26, 3) := by decide +kernel
theorem d_Ch_verdictOn_20 : decode b_Ch_verdictOn 20 = .ok (.aload_n 1, 1) := by decide +kernel
theorem d_Ch_verdictOn_21 : decode b_Ch_verdictOn 21 = .ok (.iload_n 2, 1) := by decide +kernel
theorem d_Ch_verdictOn_22 : decode b_Ch_verdictOn 22 = .ok (.invokestatic 21, 3) := by decide +kernel
theorem d_Ch_verdictOn_25 : decode b_Ch_verdictOn 25 = .ok (.istore_n 3, 1) := by decide +kernel
theorem d_Ch_verdictOn_26 : decode b_Ch_verdictOn 26 = .ok (.iload_n 3, 1) := by decide +kernel
theorem d_Ch_verdictOn_27 : decode b_Ch_verdictOn 27 = .ok (.ifCond .eq 10, 3) := by decide +kernel
theorem d_Ch_verdictOn_30 : decode b_Ch_verdictOn 30 = .ok (.bipush 100, 2) := by decide +kernel
theorem d_Ch_verdictOn_32 : decode b_Ch_verdictOn 32 = .ok (.iload_n 3, 1) := by decide +kernel
theorem d_Ch_verdictOn_33 : decode b_Ch_verdictOn 33 = .ok (.imul, 1) := by decide +kernel
theorem d_Ch_verdictOn_34 : decode b_Ch_verdictOn 34 = .ok (.iload_n 2, 1) := by decide +kernel
theorem d_Ch_verdictOn_35 : decode b_Ch_verdictOn 35 = .ok (.iadd, 1) := by decide +kernel
theorem d_Ch_verdictOn_36 : decode b_Ch_verdictOn 36 = .ok (.ireturn, 1) := by decide +kernel
theorem d_Ch_verdictOn_37 : decode b_Ch_verdictOn 37 = .ok (.iinc 2 1, 3) := by decide +kernel
theorem d_Ch_verdictOn_40 : decode b_Ch_verdictOn 40 = .ok (.goto (-28), 3) := by decide +kernel
theorem d_Ch_verdictOn_43 : decode b_Ch_verdictOn 43 = .ok (.aload_n 1, 1) := by decide +kernel
theorem d_Ch_verdictOn_44 : decode b_Ch_verdictOn 44 = .ok (.getfield 17, 3) := by decide +kernel
theorem d_Ch_verdictOn_47 : decode b_Ch_verdictOn 47 = .ok (.iconst 1, 1) := by decide +kernel
theorem d_Ch_verdictOn_48 : decode b_Ch_verdictOn 48 = .ok (.isub, 1) := by decide +kernel
theorem d_Ch_verdictOn_49 : decode b_Ch_verdictOn 49 = .ok (.istore_n 2, 1) := by decide +kernel
theorem d_Ch_verdictOn_50 : decode b_Ch_verdictOn 50 = .ok (.aload_n 1, 1) := by decide +kernel
theorem d_Ch_verdictOn_51 : decode b_Ch_verdictOn 51 = .ok (.getfield 25, 3) := by decide +kernel
theorem d_Ch_verdictOn_54 : decode b_Ch_verdictOn 54 = .ok (.iload_n 2, 1) := by decide +kernel
theorem d_Ch_verdictOn_55 : decode b_Ch_verdictOn 55 = .ok (.laload, 1) := by decide +kernel
theorem d_Ch_verdictOn_56 : decode b_Ch_verdictOn 56 = .ok (.invokestatic 29, 3) := by decide +kernel
theorem d_Ch_verdictOn_59 : decode b_Ch_verdictOn 59 = .ok (.invokestatic 35, 3) := by decide +kernel
theorem d_Ch_verdictOn_62 : decode b_Ch_verdictOn 62 = .ok (.ifCond .ne 9, 3) := by decide +kernel
theorem d_Ch_verdictOn_65 : decode b_Ch_verdictOn 65 = .ok (.sipush 500, 3) := by decide +kernel
theorem d_Ch_verdictOn_68 : decode b_Ch_verdictOn 68 = .ok (.iload_n 2, 1) := by decide +kernel
theorem d_Ch_verdictOn_69 : decode b_Ch_verdictOn 69 = .ok (.iadd, 1) := by decide +kernel
theorem d_Ch_verdictOn_70 : decode b_Ch_verdictOn 70 = .ok (.ireturn, 1) := by decide +kernel
theorem d_Ch_verdictOn_71 : decode b_Ch_verdictOn 71 = .ok (.aload_n 0, 1) := by decide +kernel
theorem d_Ch_verdictOn_72 : decode b_Ch_verdictOn 72 = .ok (.aload_n 1, 1) := by decide +kernel
theorem d_Ch_verdictOn_73 : decode b_Ch_verdictOn 73 = .ok (.invokevirtual 39, 3) := by decide +kernel
theorem d_Ch_verdictOn_76 : decode b_Ch_verdictOn 76 = .ok (.istore_n 3, 1) := by decide +kernel
theorem d_Ch_verdictOn_77 : decode b_Ch_verdictOn 77 = .ok (.iload_n 3, 1) := by decide +kernel
theorem d_Ch_verdictOn_78 : decode b_Ch_verdictOn 78 = .ok (.iconst (-1), 1) := by decide +kernel
theorem d_Ch_verdictOn_79 : decode b_Ch_verdictOn 79 = .ok (.if_icmp .ne 7, 3) := by decide +kernel
theorem d_Ch_verdictOn_82 : decode b_Ch_verdictOn 82 = .ok (.iconst 0, 1) := by decide +kernel
theorem d_Ch_verdictOn_83 : decode b_Ch_verdictOn 83 = .ok (.goto 8, 3) := by decide +kernel
theorem d_Ch_verdictOn_86 : decode b_Ch_verdictOn 86 = .ok (.sipush 600, 3) := by decide +kernel
theorem d_Ch_verdictOn_89 : decode b_Ch_verdictOn 89 = .ok (.iload_n 3, 1) := by decide +kernel
theorem d_Ch_verdictOn_90 : decode b_Ch_verdictOn 90 = .ok (.iadd, 1) := by decide +kernel
theorem d_Ch_verdictOn_91 : decode b_Ch_verdictOn 91 = .ok (.ireturn, 1) := by decide +kernel
theorem d_F_check_0 : decode b_F_check 0 = .ok (.aload_n 0, 1) := by decide +kernel
theorem d_F_check_1 : decode b_F_check 1 = .ok (.getfield 35, 3) := by decide +kernel
theorem d_F_check_4 : decode b_F_check 4 = .ok (.aload_n 0, 1) := by decide +kernel
theorem d_F_check_5 : decode b_F_check 5 = .ok (.getfield 28, 3) := by decide +kernel
theorem d_F_check_8 : decode b_F_check 8 = .ok (.invokevirtual 116, 3) := by decide +kernel
theorem d_F_check_11 : decode b_F_check 11 = .ok (.ireturn, 1) := by decide +kernel
def m_Ch_leastUnset_l2 (g : GT) (ss : Nat → Int32) : Nat → Nat → (Nat → Int32) → Int32 × (Nat → Int32)
  | 0, _, _ => (0, ss)
  | n2 + 1, i, s2 => if g.1 ≤ (nI i) then ((-1 : Int32), s2) else if (m_In_loadsCell (m_In_codeOf (g.2 (nI i).toNatClampNeg))) = (0 : Int32) then if (m_In_storesCell (m_In_codeOf (g.2 (nI i).toNatClampNeg))) = (0 : Int32) then m_Ch_leastUnset_l2 g ss n2 (i + 1) (m_Ch_passOn s2 (g.2 (nI i).toNatClampNeg) ((nI i) + (1 : Int32)) ((s2 (nI i).toNatClampNeg) ||| (0 : Int32))) else m_Ch_leastUnset_l2 g ss n2 (i + 1) (m_Ch_passOn s2 (g.2 (nI i).toNatClampNeg) ((nI i) + (1 : Int32)) ((s2 (nI i).toNatClampNeg) ||| ((1 : Int32) <<< (((m_In_operandOf (g.2 (nI i).toNatClampNeg)).toInt32) &&& 31)))) else if ((s2 (nI i).toNatClampNeg) &&& ((1 : Int32) <<< (((m_In_operandOf (g.2 (nI i).toNatClampNeg)).toInt32) &&& 31))) = (0 : Int32) then (nI i, s2) else if (m_In_storesCell (m_In_codeOf (g.2 (nI i).toNatClampNeg))) = (0 : Int32) then m_Ch_leastUnset_l2 g ss n2 (i + 1) (m_Ch_passOn s2 (g.2 (nI i).toNatClampNeg) ((nI i) + (1 : Int32)) ((s2 (nI i).toNatClampNeg) ||| (0 : Int32))) else m_Ch_leastUnset_l2 g ss n2 (i + 1) (m_Ch_passOn s2 (g.2 (nI i).toNatClampNeg) ((nI i) + (1 : Int32)) ((s2 (nI i).toNatClampNeg) ||| ((1 : Int32) <<< (((m_In_operandOf (g.2 (nI i).toNatClampNeg)).toInt32) &&& 31))))
def m_Ch_leastUnset_l1 (g : GT) (ss : Nat → Int32) : Nat → Nat → (Nat → Int32) → Int32 × (Nat → Int32)
  | 0, _, _ => (0, ss)
  | n1 + 1, j, s1 => if g.1 ≤ (nI j) then m_Ch_leastUnset_l2 g ss (65) 0 (upd s1 0 (0 : Int32)) else m_Ch_leastUnset_l1 g ss n1 (j + 1) (upd s1 (nI j).toNatClampNeg (65535 : Int32))
def m_Ch_leastUnset (g : GT) (ss : Nat → Int32) : Int32 × (Nat → Int32) := m_Ch_leastUnset_l1 g ss (65) 0 ss
set_option maxHeartbeats 4000000 in
set_option maxRecDepth 100000 in
theorem c_Ch_leastUnset (l : Launch) (D : va_G) (dA : Nat → ClassId) (ad : Nat → Nat) (A : Nat → Prop) (hAd : AdOK 49 ad A) (w : Nat → Int32) (P : PT) (g : GT) (ss : Nat → Int32) (M : MT) (hg : iN g.1 ≤ 64) (h0 : 0 < iN g.1) (hok : ∀ i, i < iN g.1 → m_Ch_ownFault g (nI i) = 0) (hend : ¬ m_In_endsRun (m_In_codeOf (g.2 (iN g.1 - 1))) = 0) : Met l y_Ch_leastUnset (mW y_Ch_leastUnset b_Ch_leastUnset 8 (some .int)) { frames := 2, cells := 0, slots := 0, locals := 46 } (va_Pc [.ref (ad 9), .ref (ad 7)] (fun U => CG D dA ad w P g ss M U)) (va_Qi (fun (r : Int32) (u : (Nat → Int32)) => r = (m_Ch_leastUnset g ss).1 ∧ u = (m_Ch_leastUnset g ss).2) (fun u t => CG D dA ad w P g u M t) A) 0 0 A := by
  refine Met.ofW (cc := b_Ch_leastUnset) (maxL := 8) (ret := (some .int)) (by decide) rfl ?_
  intro p e s m args below meth c s₁ B hml hv
  obtain ⟨rfl, hP, hK, hN⟩ := hv
  have hx := B.exec
  have hb := B.bytes
  have hr := B.returns
  have hlocks := B.notSynchronized
  have hts := fun (w : Cond) (h : w ∈ lw_g) => atoms_spec (ws := mW y_Ch_leastUnset b_Ch_leastUnset 8 (some .int)) B.pre w (List.mem_cons_of_mem _ h)
  have hown : s.vm.findClass R_Ch = some m.cls := findClass_of_methodNamed B.named
  have hS : va_S A s.heap s.heap [] := va_S.rf
  have hl := lv_entry ([.ref (ad 9), .ref (ad 7)]) (n := 8) (Nat.le_of_ble_eq_true rfl)
  rw [lg_entry_eq]
  generalize (lg_sl ([.ref (ad 9), .ref (ad 7)]) ++ List.replicate (8 - (lg_sl ([.ref (ad 9), .ref (ad 7)])).length) Slot.unset).toArray = ls at hl ⊢
  have hl : lv_has ls 8 [(0, .ref (ad 9)), (1, .ref (ad 7))] := hl
  refine lv_iconst (v := 0) hx hb d_Ch_leastUnset_0 (by decide) ?_
  refine lv_istore_n hx hb d_Ch_leastUnset_1 rfl hl (by decide) rfl (fun ls hl => ?_)
  have hl : lv_has ls 8 [(2, .int (0 : Int32)), (0, .ref (ad 9)), (1, .ref (ad 7))] := hl
  refine W_loop2 (X := fun (n1 : Nat) (j : Nat) (s1 : Nat → Int32) (H : Heap) (locs : List Loc) (ls : Array Slot) => 64 - j < n1 ∧ m_Ch_leastUnset g ss = m_Ch_leastUnset_l1 g ss n1 j s1 ∧ lv_has ls 8 [(2, .int (nI j)), (0, .ref (ad 9)), (1, .ref (ad 7))] ∧ va_P D cls (wC ad dA w P g s1 M) H ∧ va_S A s.heap H locs ∧ j ≤ 64) (65) 0 ss ⟨(by decide), (by rw [m_Ch_leastUnset]), (lv_sub hl [0, 1, 2] rfl), hP, hS, (by decide)⟩ (fun _ _ _ _ _ h => absurd h.1 (Nat.not_lt_zero _)) (fun n1 ih1 j s1 H locs ls h => ?_)
  obtain ⟨hn1, hm1, hl, hP, hS, hj⟩ := h
  refine lv_iload_n hx hb d_Ch_leastUnset_2 rfl (lv_at hl 0 rfl) ?_
  refine lv_aload_n hx hb d_Ch_leastUnset_3 rfl (lv_at hl 2 rfl) ?_
  refine va_get (D := D) (ci := 6) (v := .int g.1) (C := R_Pr) (T := F_Pr) (N := 2) hx hb hts in_Pr hown hK hP 7 rfl rfl 1 (by decide) (hts _ wd_156) (fun _ h9 => h9) rfl d_Ch_leastUnset_4 ?_
  refine lv_icmp_ge (tgt := 24) hx hb d_Ch_leastUnset_7 (by decide) (fun h1 => ?_) (fun h1 => ?_)
  · refine lv_aload_n hx hb d_Ch_leastUnset_24 rfl (lv_at hl 1 rfl) ?_
    refine va_get (D := D) (ci := 2) (v := .ref (ad 10)) (C := R_Ch) (T := F_Ch) (N := 1) hx hb hts in_Ch hown hK hP 9 rfl rfl 0 (by decide) (hts _ wd_171) (fun _ h9 => h9) rfl d_Ch_leastUnset_25 ?_
    refine lv_iconst (v := 0) hx hb d_Ch_leastUnset_28 (by decide) ?_
    refine lv_iconst (v := 0) hx hb d_Ch_leastUnset_29 (by decide) ?_
    refine va_iast (n := 64) (f := s1) hx hb hK hP (wC_D hAd) hS 10 0 rfl rfl (vp_in_nI (n := 0) (by decide) (by decide)) d_Ch_leastUnset_30 (fun H locs hP _ hS => ?_)
    have hP : va_P D cls (wC ad dA w P g (upd s1 0 (0 : Int32)) M) H := hP
    refine lv_iconst (v := 0) hx hb d_Ch_leastUnset_31 (by decide) ?_
    refine lv_istore_n hx hb d_Ch_leastUnset_32 rfl hl (by decide) rfl (fun ls hl => ?_)
    have hl : lv_has ls 8 [(2, .int (0 : Int32)), (0, .ref (ad 9)), (1, .ref (ad 7))] := hl
    refine W_loop2 (X := fun (n2 : Nat) (i : Nat) (s2 : Nat → Int32) (H : Heap) (locs : List Loc) (ls : Array Slot) => 64 - i < n2 ∧ m_Ch_leastUnset g ss = m_Ch_leastUnset_l2 g ss n2 i s2 ∧ lv_has ls 8 [(2, .int (nI i)), (0, .ref (ad 9)), (1, .ref (ad 7))] ∧ va_P D cls (wC ad dA w P g s2 M) H ∧ va_S A s.heap H locs ∧ i ≤ 64) (65) 0 (upd s1 0 (0 : Int32)) ⟨(by decide), (by rw [hm1, m_Ch_leastUnset_l1, if_pos h1]), (lv_sub hl [0, 1, 2] rfl), hP, hS, (by decide)⟩ (fun _ _ _ _ _ h => absurd h.1 (Nat.not_lt_zero _)) (fun n2 ih2 i s2 H locs ls h => ?_)
    obtain ⟨hn2, hm2, hl, hP, hS, hi⟩ := h
    refine lv_iload_n hx hb d_Ch_leastUnset_33 rfl (lv_at hl 0 rfl) ?_
    refine lv_aload_n hx hb d_Ch_leastUnset_34 rfl (lv_at hl 2 rfl) ?_
    refine va_get (D := D) (ci := 6) (v := .int g.1) (C := R_Pr) (T := F_Pr) (N := 2) hx hb hts in_Pr hown hK hP 7 rfl rfl 1 (by decide) (hts _ wd_156) (fun _ h9 => h9) rfl d_Ch_leastUnset_35 ?_
    refine lv_icmp_ge (tgt := 124) hx hb d_Ch_leastUnset_38 (by decide) (fun h2 => ?_) (fun h2 => ?_)
    · refine lv_iconst (v := -1) hx hb d_Ch_leastUnset_124 (by decide) ?_
      exact W.iret hx hb hr (fun t ht hW => ⟨⟨_, _, rfl, ⟨(by rw [hm2, m_Ch_leastUnset_l2, if_pos h2]), (by rw [hm2, m_Ch_leastUnset_l2, if_pos h2])⟩, CG_at hP hK hN ht hW⟩, hS.F ht⟩) hS.2.2 d_Ch_leastUnset_125
    have hil : i < iN g.1 := nj_lt hg (by decide) hi h2
    refine lv_aload_n hx hb d_Ch_leastUnset_41 rfl (lv_at hl 2 rfl) ?_
    refine va_get (D := D) (ci := 6) (v := .ref (ad 8)) (C := R_Pr) (T := F_Pr) (N := 2) hx hb hts in_Pr hown hK hP 7 rfl rfl 0 (by decide) (hts _ wd_153) (fun _ h9 => h9) rfl d_Ch_leastUnset_42 ?_
    refine lv_iload_n hx hb d_Ch_leastUnset_45 rfl (lv_at hl 0 rfl) ?_
    refine va_lald (n := 64) (f := g.2) hx hb hK hP 8 1 rfl rfl (vp_in_nI (by omega) (by decide)) d_Ch_leastUnset_46 ?_
    refine lv_lstore_n hx hb d_Ch_leastUnset_47 rfl hl (by decide) rfl (fun ls hl => ?_)
    have hl : lv_has ls 8 [(3, .long (g.2 (nI i).toNatClampNeg)), (2, .int (nI i)), (0, .ref (ad 9)), (1, .ref (ad 7))] := hl
    refine lv_lload_n hx hb d_Ch_leastUnset_48 rfl (lv_at hl 0 rfl) ?_
    refine vp_callSi (va_Run.run (va_runS (As := [.long (g.2 (nI i).toNatClampNeg)]) (rest := []) ⟨hx, hb, hml, hown, hts⟩ (c_In_codeOf l (g.2 (nI i).toNatClampNeg)) (va_cwS 1 hts (g_S wd_363 wd_364 wd_36 wd_365) rfl rfl rfl (by decide +kernel) ⟨Nat.le_of_ble_eq_true rfl, Nat.le_of_ble_eq_true rfl⟩) ⟨fun _ _ _ _ q => q, fun _ _ _ => ⟨rfl, trivial⟩⟩ rfl rfl hl.1 rfl (lv_room (Nat.le_of_ble_eq_true rfl)) d_Ch_leastUnset_49 ⟨Nat.le_of_ble_eq_true rfl, Nat.le_of_ble_eq_true rfl⟩)) (fun r1 e1 => ?_)
    subst e1
    refine lv_istore hx hb d_Ch_leastUnset_52 hl (by decide) rfl (fun ls hl => ?_)
    have hl : lv_has ls 8 [(5, .int (m_In_codeOf (g.2 (nI i).toNatClampNeg))), (3, .long (g.2 (nI i).toNatClampNeg)), (2, .int (nI i)), (0, .ref (ad 9)), (1, .ref (ad 7))] := hl
    refine lv_iconst (v := 1) hx hb d_Ch_leastUnset_54 (by decide) ?_
    refine lv_lload_n hx hb d_Ch_leastUnset_55 rfl (lv_at hl 1 rfl) ?_
    refine vp_callSl (va_Run.run (va_runS (As := [.long (g.2 (nI i).toNatClampNeg)]) (rest := [.int (1 : Int32)]) ⟨hx, hb, hml, hown, hts⟩ (c_In_operandOf l (g.2 (nI i).toNatClampNeg)) (va_cwS 1 hts (g_S wd_379 wd_380 wd_36 wd_381) rfl rfl rfl (by decide +kernel) ⟨Nat.le_of_ble_eq_true rfl, Nat.le_of_ble_eq_true rfl⟩) ⟨fun _ _ _ _ q => q, fun _ _ _ => ⟨rfl, trivial⟩⟩ rfl rfl hl.1 rfl (lv_room (Nat.le_of_ble_eq_true rfl)) d_Ch_leastUnset_56 ⟨Nat.le_of_ble_eq_true rfl, Nat.le_of_ble_eq_true rfl⟩)) (fun r2 e2 => ?_)
    subst e2
    refine lv_l2i hx hb d_Ch_leastUnset_59 rfl ?_
    refine lv_ishl hx hb d_Ch_leastUnset_60 ?_
    refine lv_istore hx hb d_Ch_leastUnset_61 hl (by decide) rfl (fun ls hl => ?_)
    have hl : lv_has ls 8 [(6, .int ((1 : Int32) <<< (((m_In_operandOf (g.2 (nI i).toNatClampNeg)).toInt32) &&& 31))), (5, .int (m_In_codeOf (g.2 (nI i).toNatClampNeg))), (3, .long (g.2 (nI i).toNatClampNeg)), (2, .int (nI i)), (0, .ref (ad 9)), (1, .ref (ad 7))] := hl
    refine lv_iload hx hb d_Ch_leastUnset_63 (lv_at hl 1 rfl) ?_
    refine vp_callSi (va_Run.run (va_runS (As := [.int (m_In_codeOf (g.2 (nI i).toNatClampNeg))]) (rest := []) ⟨hx, hb, hml, hown, hts⟩ (c_In_loadsCell l (m_In_codeOf (g.2 (nI i).toNatClampNeg))) (va_cwS 1 hts (g_S wd_385 wd_386 wd_36 wd_387) rfl rfl rfl (by decide +kernel) ⟨Nat.le_of_ble_eq_true rfl, Nat.le_of_ble_eq_true rfl⟩) ⟨fun _ _ _ _ q => q, fun _ _ _ => ⟨rfl, trivial⟩⟩ rfl rfl hl.1 rfl (lv_room (Nat.le_of_ble_eq_true rfl)) d_Ch_leastUnset_65 ⟨Nat.le_of_ble_eq_true rfl, Nat.le_of_ble_eq_true rfl⟩)) (fun r3 e3 => ?_)
    subst e3
    refine lv_if_eq (tgt := 85) hx hb d_Ch_leastUnset_68 (by decide) (fun h3 => ?_) (fun h3 => ?_)
    · refine lv_aload_n hx hb d_Ch_leastUnset_85 rfl (lv_at hl 4 rfl) ?_
      refine va_get (D := D) (ci := 2) (v := .ref (ad 10)) (C := R_Ch) (T := F_Ch) (N := 1) hx hb hts in_Ch hown hK hP 9 rfl rfl 0 (by decide) (hts _ wd_171) (fun _ h9 => h9) rfl d_Ch_leastUnset_86 ?_
      refine lv_iload_n hx hb d_Ch_leastUnset_89 rfl (lv_at hl 3 rfl) ?_
      refine va_iald (n := 64) (f := s2) hx hb hK hP 10 0 rfl rfl (vp_in_nI (by omega) (by decide)) d_Ch_leastUnset_90 ?_
      refine lv_iload hx hb d_Ch_leastUnset_91 (lv_at hl 1 rfl) ?_
      refine vp_callSi (va_Run.run (va_runS (As := [.int (m_In_codeOf (g.2 (nI i).toNatClampNeg))]) (rest := [.int (s2 (nI i).toNatClampNeg)]) ⟨hx, hb, hml, hown, hts⟩ (c_In_storesCell l (m_In_codeOf (g.2 (nI i).toNatClampNeg))) (va_cwS 1 hts (g_S wd_388 wd_389 wd_36 wd_390) rfl rfl rfl (by decide +kernel) ⟨Nat.le_of_ble_eq_true rfl, Nat.le_of_ble_eq_true rfl⟩) ⟨fun _ _ _ _ q => q, fun _ _ _ => ⟨rfl, trivial⟩⟩ rfl rfl hl.1 rfl (lv_room (Nat.le_of_ble_eq_true rfl)) d_Ch_leastUnset_93 ⟨Nat.le_of_ble_eq_true rfl, Nat.le_of_ble_eq_true rfl⟩)) (fun r4 e4 => ?_)
      subst e4
      refine lv_if_eq (tgt := 104) hx hb d_Ch_leastUnset_96 (by decide) (fun h4 => ?_) (fun h4 => ?_)
      · refine lv_iconst (v := 0) hx hb d_Ch_leastUnset_104 (by decide) ?_
        refine lv_ior hx hb d_Ch_leastUnset_105 ?_
        refine lv_istore hx hb d_Ch_leastUnset_106 hl (by decide) rfl (fun ls hl => ?_)
        have hl : lv_has ls 8 [(7, .int ((s2 (nI i).toNatClampNeg) ||| (0 : Int32))), (6, .int ((1 : Int32) <<< (((m_In_operandOf (g.2 (nI i).toNatClampNeg)).toInt32) &&& 31))), (5, .int (m_In_codeOf (g.2 (nI i).toNatClampNeg))), (3, .long (g.2 (nI i).toNatClampNeg)), (2, .int (nI i)), (0, .ref (ad 9)), (1, .ref (ad 7))] := hl
        refine lv_aload_n hx hb d_Ch_leastUnset_108 rfl (lv_at hl 5 rfl) ?_
        refine lv_lload_n hx hb d_Ch_leastUnset_109 rfl (lv_at hl 3 rfl) ?_
        refine lv_iload_n hx hb d_Ch_leastUnset_110 rfl (lv_at hl 4 rfl) ?_
        refine lv_iconst (v := 1) hx hb d_Ch_leastUnset_111 (by decide) ?_
        refine lv_iadd hx hb d_Ch_leastUnset_112 ?_
        refine lv_iload hx hb d_Ch_leastUnset_113 (lv_at hl 0 rfl) ?_
        refine va_callv (va_runV (As := [.long (g.2 (nI i).toNatClampNeg), .int ((nI i) + (1 : Int32)), .int ((s2 (nI i).toNatClampNeg) ||| (0 : Int32))]) (rest := []) ⟨hx, hb, hml, hown, hts⟩ (c_Ch_passOn l D dA ad A hAd w P g s2 M (g.2 (nI i).toNatClampNeg) ((nI i) + (1 : Int32)) ((s2 (nI i).toNatClampNeg) ||| (0 : Int32)) (okp_of hg hok hend hil)) (cwV 3 hts (g_V wd_415 wd_417 wd_2 wd_33 wd_418) rfl rfl rfl (by decide +kernel) ⟨Nat.le_of_ble_eq_true rfl, Nat.le_of_ble_eq_true rfl⟩) ⟨CG_fb, (va_recv (ci := 2) (q := (R_Ch, F_Ch, 1)) (q0 := 9) hK hP rfl rfl), fun U hU hW => ⟨rfl, CG_at hP hK hN hU hW⟩⟩ rfl rfl hl.1 rfl (lv_room (Nat.le_of_ble_eq_true rfl)) d_Ch_leastUnset_115 ⟨Nat.le_of_ble_eq_true rfl, Nat.le_of_ble_eq_true rfl⟩) hS (fun _ _ h => h) (fun _ h => h) (fun u1 t H locs ht hvm hu hB hz hk hS => ?_)
        subst hu
        obtain ⟨hP, -⟩ := hB
        rw [ht] at hP
        have hP : va_P D cls (wC ad dA w P g (m_Ch_passOn s2 (g.2 (nI i).toNatClampNeg) ((nI i) + (1 : Int32)) ((s2 (nI i).toNatClampNeg) ||| (0 : Int32))) M) H := hP
        refine lv_iinc (v := (nI i) + 1) hx hb d_Ch_leastUnset_118 hl (k := 4) rfl rfl (by decide) rfl (fun ls hl => ?_)
        have hl : lv_has ls 8 [(2, .int ((nI i) + 1)), (7, .int ((s2 (nI i).toNatClampNeg) ||| (0 : Int32))), (6, .int ((1 : Int32) <<< (((m_In_operandOf (g.2 (nI i).toNatClampNeg)).toInt32) &&& 31))), (5, .int (m_In_codeOf (g.2 (nI i).toNatClampNeg))), (3, .long (g.2 (nI i).toNatClampNeg)), (0, .ref (ad 9)), (1, .ref (ad 7))] := hl
        refine lv_goto (tgt := 33) hx hb d_Ch_leastUnset_121 (by decide) ?_
        exact ih2 (i + 1) (m_Ch_passOn s2 (g.2 (nI i).toNatClampNeg) ((nI i) + (1 : Int32)) ((s2 (nI i).toNatClampNeg) ||| (0 : Int32))) _ _ _ ⟨(by omega), (by rw [hm2, m_Ch_leastUnset_l2, if_neg h2, if_pos h3, if_pos h4]), (by have h9 := lv_sub hl [0, 5, 6] rfl; rw [nI_1] at h9; exact h9), hP, hS, (by omega)⟩
      refine lv_iload hx hb d_Ch_leastUnset_99 (lv_at hl 0 rfl) ?_
      refine lv_goto (tgt := 105) hx hb d_Ch_leastUnset_101 (by decide) ?_
      refine lv_ior hx hb d_Ch_leastUnset_105 ?_
      refine lv_istore hx hb d_Ch_leastUnset_106 hl (by decide) rfl (fun ls hl => ?_)
      have hl : lv_has ls 8 [(7, .int ((s2 (nI i).toNatClampNeg) ||| ((1 : Int32) <<< (((m_In_operandOf (g.2 (nI i).toNatClampNeg)).toInt32) &&& 31)))), (6, .int ((1 : Int32) <<< (((m_In_operandOf (g.2 (nI i).toNatClampNeg)).toInt32) &&& 31))), (5, .int (m_In_codeOf (g.2 (nI i).toNatClampNeg))), (3, .long (g.2 (nI i).toNatClampNeg)), (2, .int (nI i)), (0, .ref (ad 9)), (1, .ref (ad 7))] := hl
      refine lv_aload_n hx hb d_Ch_leastUnset_108 rfl (lv_at hl 5 rfl) ?_
      refine lv_lload_n hx hb d_Ch_leastUnset_109 rfl (lv_at hl 3 rfl) ?_
      refine lv_iload_n hx hb d_Ch_leastUnset_110 rfl (lv_at hl 4 rfl) ?_
      refine lv_iconst (v := 1) hx hb d_Ch_leastUnset_111 (by decide) ?_
      refine lv_iadd hx hb d_Ch_leastUnset_112 ?_
      refine lv_iload hx hb d_Ch_leastUnset_113 (lv_at hl 0 rfl) ?_
      refine va_callv (va_runV (As := [.long (g.2 (nI i).toNatClampNeg), .int ((nI i) + (1 : Int32)), .int ((s2 (nI i).toNatClampNeg) ||| ((1 : Int32) <<< (((m_In_operandOf (g.2 (nI i).toNatClampNeg)).toInt32) &&& 31)))]) (rest := []) ⟨hx, hb, hml, hown, hts⟩ (c_Ch_passOn l D dA ad A hAd w P g s2 M (g.2 (nI i).toNatClampNeg) ((nI i) + (1 : Int32)) ((s2 (nI i).toNatClampNeg) ||| ((1 : Int32) <<< (((m_In_operandOf (g.2 (nI i).toNatClampNeg)).toInt32) &&& 31))) (okp_of hg hok hend hil)) (cwV 3 hts (g_V wd_415 wd_417 wd_2 wd_33 wd_418) rfl rfl rfl (by decide +kernel) ⟨Nat.le_of_ble_eq_true rfl, Nat.le_of_ble_eq_true rfl⟩) ⟨CG_fb, (va_recv (ci := 2) (q := (R_Ch, F_Ch, 1)) (q0 := 9) hK hP rfl rfl), fun U hU hW => ⟨rfl, CG_at hP hK hN hU hW⟩⟩ rfl rfl hl.1 rfl (lv_room (Nat.le_of_ble_eq_true rfl)) d_Ch_leastUnset_115 ⟨Nat.le_of_ble_eq_true rfl, Nat.le_of_ble_eq_true rfl⟩) hS (fun _ _ h => h) (fun _ h => h) (fun u2 t H locs ht hvm hu hB hz hk hS => ?_)
      subst hu
      obtain ⟨hP, -⟩ := hB
      rw [ht] at hP
      have hP : va_P D cls (wC ad dA w P g (m_Ch_passOn s2 (g.2 (nI i).toNatClampNeg) ((nI i) + (1 : Int32)) ((s2 (nI i).toNatClampNeg) ||| ((1 : Int32) <<< (((m_In_operandOf (g.2 (nI i).toNatClampNeg)).toInt32) &&& 31)))) M) H := hP
      refine lv_iinc (v := (nI i) + 1) hx hb d_Ch_leastUnset_118 hl (k := 4) rfl rfl (by decide) rfl (fun ls hl => ?_)
      have hl : lv_has ls 8 [(2, .int ((nI i) + 1)), (7, .int ((s2 (nI i).toNatClampNeg) ||| ((1 : Int32) <<< (((m_In_operandOf (g.2 (nI i).toNatClampNeg)).toInt32) &&& 31)))), (6, .int ((1 : Int32) <<< (((m_In_operandOf (g.2 (nI i).toNatClampNeg)).toInt32) &&& 31))), (5, .int (m_In_codeOf (g.2 (nI i).toNatClampNeg))), (3, .long (g.2 (nI i).toNatClampNeg)), (0, .ref (ad 9)), (1, .ref (ad 7))] := hl
      refine lv_goto (tgt := 33) hx hb d_Ch_leastUnset_121 (by decide) ?_
      exact ih2 (i + 1) (m_Ch_passOn s2 (g.2 (nI i).toNatClampNeg) ((nI i) + (1 : Int32)) ((s2 (nI i).toNatClampNeg) ||| ((1 : Int32) <<< (((m_In_operandOf (g.2 (nI i).toNatClampNeg)).toInt32) &&& 31)))) _ _ _ ⟨(by omega), (by rw [hm2, m_Ch_leastUnset_l2, if_neg h2, if_pos h3, if_neg h4]), (by have h9 := lv_sub hl [0, 5, 6] rfl; rw [nI_1] at h9; exact h9), hP, hS, (by omega)⟩
    refine lv_aload_n hx hb d_Ch_leastUnset_71 rfl (lv_at hl 4 rfl) ?_
    refine va_get (D := D) (ci := 2) (v := .ref (ad 10)) (C := R_Ch) (T := F_Ch) (N := 1) hx hb hts in_Ch hown hK hP 9 rfl rfl 0 (by decide) (hts _ wd_171) (fun _ h9 => h9) rfl d_Ch_leastUnset_72 ?_
    refine lv_iload_n hx hb d_Ch_leastUnset_75 rfl (lv_at hl 3 rfl) ?_
    refine va_iald (n := 64) (f := s2) hx hb hK hP 10 0 rfl rfl (vp_in_nI (by omega) (by decide)) d_Ch_leastUnset_76 ?_
    refine lv_iload hx hb d_Ch_leastUnset_77 (lv_at hl 0 rfl) ?_
    refine lv_iand hx hb d_Ch_leastUnset_79 ?_
    refine lv_if_ne (tgt := 85) hx hb d_Ch_leastUnset_80 (by decide) (fun h5 => ?_) (fun h5 => ?_)
    · refine lv_aload_n hx hb d_Ch_leastUnset_85 rfl (lv_at hl 4 rfl) ?_
      refine va_get (D := D) (ci := 2) (v := .ref (ad 10)) (C := R_Ch) (T := F_Ch) (N := 1) hx hb hts in_Ch hown hK hP 9 rfl rfl 0 (by decide) (hts _ wd_171) (fun _ h9 => h9) rfl d_Ch_leastUnset_86 ?_
      refine lv_iload_n hx hb d_Ch_leastUnset_89 rfl (lv_at hl 3 rfl) ?_
      refine va_iald (n := 64) (f := s2) hx hb hK hP 10 0 rfl rfl (vp_in_nI (by omega) (by decide)) d_Ch_leastUnset_90 ?_
      refine lv_iload hx hb d_Ch_leastUnset_91 (lv_at hl 1 rfl) ?_
      refine vp_callSi (va_Run.run (va_runS (As := [.int (m_In_codeOf (g.2 (nI i).toNatClampNeg))]) (rest := [.int (s2 (nI i).toNatClampNeg)]) ⟨hx, hb, hml, hown, hts⟩ (c_In_storesCell l (m_In_codeOf (g.2 (nI i).toNatClampNeg))) (va_cwS 1 hts (g_S wd_388 wd_389 wd_36 wd_390) rfl rfl rfl (by decide +kernel) ⟨Nat.le_of_ble_eq_true rfl, Nat.le_of_ble_eq_true rfl⟩) ⟨fun _ _ _ _ q => q, fun _ _ _ => ⟨rfl, trivial⟩⟩ rfl rfl hl.1 rfl (lv_room (Nat.le_of_ble_eq_true rfl)) d_Ch_leastUnset_93 ⟨Nat.le_of_ble_eq_true rfl, Nat.le_of_ble_eq_true rfl⟩)) (fun r5 e5 => ?_)
      subst e5
      refine lv_if_eq (tgt := 104) hx hb d_Ch_leastUnset_96 (by decide) (fun h6 => ?_) (fun h6 => ?_)
      · refine lv_iconst (v := 0) hx hb d_Ch_leastUnset_104 (by decide) ?_
        refine lv_ior hx hb d_Ch_leastUnset_105 ?_
        refine lv_istore hx hb d_Ch_leastUnset_106 hl (by decide) rfl (fun ls hl => ?_)
        have hl : lv_has ls 8 [(7, .int ((s2 (nI i).toNatClampNeg) ||| (0 : Int32))), (6, .int ((1 : Int32) <<< (((m_In_operandOf (g.2 (nI i).toNatClampNeg)).toInt32) &&& 31))), (5, .int (m_In_codeOf (g.2 (nI i).toNatClampNeg))), (3, .long (g.2 (nI i).toNatClampNeg)), (2, .int (nI i)), (0, .ref (ad 9)), (1, .ref (ad 7))] := hl
        refine lv_aload_n hx hb d_Ch_leastUnset_108 rfl (lv_at hl 5 rfl) ?_
        refine lv_lload_n hx hb d_Ch_leastUnset_109 rfl (lv_at hl 3 rfl) ?_
        refine lv_iload_n hx hb d_Ch_leastUnset_110 rfl (lv_at hl 4 rfl) ?_
        refine lv_iconst (v := 1) hx hb d_Ch_leastUnset_111 (by decide) ?_
        refine lv_iadd hx hb d_Ch_leastUnset_112 ?_
        refine lv_iload hx hb d_Ch_leastUnset_113 (lv_at hl 0 rfl) ?_
        refine va_callv (va_runV (As := [.long (g.2 (nI i).toNatClampNeg), .int ((nI i) + (1 : Int32)), .int ((s2 (nI i).toNatClampNeg) ||| (0 : Int32))]) (rest := []) ⟨hx, hb, hml, hown, hts⟩ (c_Ch_passOn l D dA ad A hAd w P g s2 M (g.2 (nI i).toNatClampNeg) ((nI i) + (1 : Int32)) ((s2 (nI i).toNatClampNeg) ||| (0 : Int32)) (okp_of hg hok hend hil)) (cwV 3 hts (g_V wd_415 wd_417 wd_2 wd_33 wd_418) rfl rfl rfl (by decide +kernel) ⟨Nat.le_of_ble_eq_true rfl, Nat.le_of_ble_eq_true rfl⟩) ⟨CG_fb, (va_recv (ci := 2) (q := (R_Ch, F_Ch, 1)) (q0 := 9) hK hP rfl rfl), fun U hU hW => ⟨rfl, CG_at hP hK hN hU hW⟩⟩ rfl rfl hl.1 rfl (lv_room (Nat.le_of_ble_eq_true rfl)) d_Ch_leastUnset_115 ⟨Nat.le_of_ble_eq_true rfl, Nat.le_of_ble_eq_true rfl⟩) hS (fun _ _ h => h) (fun _ h => h) (fun u3 t H locs ht hvm hu hB hz hk hS => ?_)
        subst hu
        obtain ⟨hP, -⟩ := hB
        rw [ht] at hP
        have hP : va_P D cls (wC ad dA w P g (m_Ch_passOn s2 (g.2 (nI i).toNatClampNeg) ((nI i) + (1 : Int32)) ((s2 (nI i).toNatClampNeg) ||| (0 : Int32))) M) H := hP
        refine lv_iinc (v := (nI i) + 1) hx hb d_Ch_leastUnset_118 hl (k := 4) rfl rfl (by decide) rfl (fun ls hl => ?_)
        have hl : lv_has ls 8 [(2, .int ((nI i) + 1)), (7, .int ((s2 (nI i).toNatClampNeg) ||| (0 : Int32))), (6, .int ((1 : Int32) <<< (((m_In_operandOf (g.2 (nI i).toNatClampNeg)).toInt32) &&& 31))), (5, .int (m_In_codeOf (g.2 (nI i).toNatClampNeg))), (3, .long (g.2 (nI i).toNatClampNeg)), (0, .ref (ad 9)), (1, .ref (ad 7))] := hl
        refine lv_goto (tgt := 33) hx hb d_Ch_leastUnset_121 (by decide) ?_
        exact ih2 (i + 1) (m_Ch_passOn s2 (g.2 (nI i).toNatClampNeg) ((nI i) + (1 : Int32)) ((s2 (nI i).toNatClampNeg) ||| (0 : Int32))) _ _ _ ⟨(by omega), (by rw [hm2, m_Ch_leastUnset_l2, if_neg h2, if_neg h3, if_neg h5, if_pos h6]), (by have h9 := lv_sub hl [0, 5, 6] rfl; rw [nI_1] at h9; exact h9), hP, hS, (by omega)⟩
      refine lv_iload hx hb d_Ch_leastUnset_99 (lv_at hl 0 rfl) ?_
      refine lv_goto (tgt := 105) hx hb d_Ch_leastUnset_101 (by decide) ?_
      refine lv_ior hx hb d_Ch_leastUnset_105 ?_
      refine lv_istore hx hb d_Ch_leastUnset_106 hl (by decide) rfl (fun ls hl => ?_)
      have hl : lv_has ls 8 [(7, .int ((s2 (nI i).toNatClampNeg) ||| ((1 : Int32) <<< (((m_In_operandOf (g.2 (nI i).toNatClampNeg)).toInt32) &&& 31)))), (6, .int ((1 : Int32) <<< (((m_In_operandOf (g.2 (nI i).toNatClampNeg)).toInt32) &&& 31))), (5, .int (m_In_codeOf (g.2 (nI i).toNatClampNeg))), (3, .long (g.2 (nI i).toNatClampNeg)), (2, .int (nI i)), (0, .ref (ad 9)), (1, .ref (ad 7))] := hl
      refine lv_aload_n hx hb d_Ch_leastUnset_108 rfl (lv_at hl 5 rfl) ?_
      refine lv_lload_n hx hb d_Ch_leastUnset_109 rfl (lv_at hl 3 rfl) ?_
      refine lv_iload_n hx hb d_Ch_leastUnset_110 rfl (lv_at hl 4 rfl) ?_
      refine lv_iconst (v := 1) hx hb d_Ch_leastUnset_111 (by decide) ?_
      refine lv_iadd hx hb d_Ch_leastUnset_112 ?_
      refine lv_iload hx hb d_Ch_leastUnset_113 (lv_at hl 0 rfl) ?_
      refine va_callv (va_runV (As := [.long (g.2 (nI i).toNatClampNeg), .int ((nI i) + (1 : Int32)), .int ((s2 (nI i).toNatClampNeg) ||| ((1 : Int32) <<< (((m_In_operandOf (g.2 (nI i).toNatClampNeg)).toInt32) &&& 31)))]) (rest := []) ⟨hx, hb, hml, hown, hts⟩ (c_Ch_passOn l D dA ad A hAd w P g s2 M (g.2 (nI i).toNatClampNeg) ((nI i) + (1 : Int32)) ((s2 (nI i).toNatClampNeg) ||| ((1 : Int32) <<< (((m_In_operandOf (g.2 (nI i).toNatClampNeg)).toInt32) &&& 31))) (okp_of hg hok hend hil)) (cwV 3 hts (g_V wd_415 wd_417 wd_2 wd_33 wd_418) rfl rfl rfl (by decide +kernel) ⟨Nat.le_of_ble_eq_true rfl, Nat.le_of_ble_eq_true rfl⟩) ⟨CG_fb, (va_recv (ci := 2) (q := (R_Ch, F_Ch, 1)) (q0 := 9) hK hP rfl rfl), fun U hU hW => ⟨rfl, CG_at hP hK hN hU hW⟩⟩ rfl rfl hl.1 rfl (lv_room (Nat.le_of_ble_eq_true rfl)) d_Ch_leastUnset_115 ⟨Nat.le_of_ble_eq_true rfl, Nat.le_of_ble_eq_true rfl⟩) hS (fun _ _ h => h) (fun _ h => h) (fun u4 t H locs ht hvm hu hB hz hk hS => ?_)
      subst hu
      obtain ⟨hP, -⟩ := hB
      rw [ht] at hP
      have hP : va_P D cls (wC ad dA w P g (m_Ch_passOn s2 (g.2 (nI i).toNatClampNeg) ((nI i) + (1 : Int32)) ((s2 (nI i).toNatClampNeg) ||| ((1 : Int32) <<< (((m_In_operandOf (g.2 (nI i).toNatClampNeg)).toInt32) &&& 31)))) M) H := hP
      refine lv_iinc (v := (nI i) + 1) hx hb d_Ch_leastUnset_118 hl (k := 4) rfl rfl (by decide) rfl (fun ls hl => ?_)
      have hl : lv_has ls 8 [(2, .int ((nI i) + 1)), (7, .int ((s2 (nI i).toNatClampNeg) ||| ((1 : Int32) <<< (((m_In_operandOf (g.2 (nI i).toNatClampNeg)).toInt32) &&& 31)))), (6, .int ((1 : Int32) <<< (((m_In_operandOf (g.2 (nI i).toNatClampNeg)).toInt32) &&& 31))), (5, .int (m_In_codeOf (g.2 (nI i).toNatClampNeg))), (3, .long (g.2 (nI i).toNatClampNeg)), (0, .ref (ad 9)), (1, .ref (ad 7))] := hl
      refine lv_goto (tgt := 33) hx hb d_Ch_leastUnset_121 (by decide) ?_
      exact ih2 (i + 1) (m_Ch_passOn s2 (g.2 (nI i).toNatClampNeg) ((nI i) + (1 : Int32)) ((s2 (nI i).toNatClampNeg) ||| ((1 : Int32) <<< (((m_In_operandOf (g.2 (nI i).toNatClampNeg)).toInt32) &&& 31)))) _ _ _ ⟨(by omega), (by rw [hm2, m_Ch_leastUnset_l2, if_neg h2, if_neg h3, if_neg h5, if_neg h6]), (by have h9 := lv_sub hl [0, 5, 6] rfl; rw [nI_1] at h9; exact h9), hP, hS, (by omega)⟩
    refine lv_iload_n hx hb d_Ch_leastUnset_83 rfl (lv_at hl 3 rfl) ?_
    exact W.iret hx hb hr (fun t ht hW => ⟨⟨_, _, rfl, ⟨(by rw [hm2, m_Ch_leastUnset_l2, if_neg h2, if_neg h3, if_pos h5]), (by rw [hm2, m_Ch_leastUnset_l2, if_neg h2, if_neg h3, if_pos h5])⟩, CG_at hP hK hN ht hW⟩, hS.F ht⟩) hS.2.2 d_Ch_leastUnset_84
  have hjl : j < 64 := Nat.lt_of_lt_of_le (nj_lt hg (by decide) hj h1) hg
  refine lv_aload_n hx hb d_Ch_leastUnset_10 rfl (lv_at hl 1 rfl) ?_
  refine va_get (D := D) (ci := 2) (v := .ref (ad 10)) (C := R_Ch) (T := F_Ch) (N := 1) hx hb hts in_Ch hown hK hP 9 rfl rfl 0 (by decide) (hts _ wd_171) (fun _ h9 => h9) rfl d_Ch_leastUnset_11 ?_
  refine lv_iload_n hx hb d_Ch_leastUnset_14 rfl (lv_at hl 0 rfl) ?_
  refine lv_ldc (v := 65535) hx hb hown (hts _ wd_414) d_Ch_leastUnset_15 ?_
  refine va_iast (n := 64) (f := s1) hx hb hK hP (wC_D hAd) hS 10 0 rfl rfl (vp_in_nI (by omega) (by decide)) d_Ch_leastUnset_17 (fun H locs hP _ hS => ?_)
  have hP : va_P D cls (wC ad dA w P g (upd s1 (nI j).toNatClampNeg (65535 : Int32)) M) H := hP
  refine lv_iinc (v := (nI j) + 1) hx hb d_Ch_leastUnset_18 hl (k := 0) rfl rfl (by decide) rfl (fun ls hl => ?_)
  have hl : lv_has ls 8 [(2, .int ((nI j) + 1)), (0, .ref (ad 9)), (1, .ref (ad 7))] := hl
  refine lv_goto (tgt := 2) hx hb d_Ch_leastUnset_21 (by decide) ?_
  exact ih1 (j + 1) (upd s1 (nI j).toNatClampNeg (65535 : Int32)) _ _ _ ⟨(by omega), (by rw [hm1, m_Ch_leastUnset_l1, if_neg h1]), (by have h9 := lv_sub hl [0, 1, 2] rfl; rw [nI_1] at h9; exact h9), hP, hS, (by omega)⟩
def m_Ch_verdictOn_l1 (g : GT) (ss : Nat → Int32) : Nat → Nat → Int32 × (Nat → Int32)
  | 0, _ => (0, ss)
  | n1 + 1, j => if g.1 ≤ (nI j) then if (m_In_endsRun (m_In_codeOf (g.2 (g.1 - (1 : Int32)).toNatClampNeg))) = (0 : Int32) then ((500 : Int32) + (g.1 - (1 : Int32)), ss) else if ((m_Ch_leastUnset g ss).1) = (-1 : Int32) then ((0 : Int32), ((m_Ch_leastUnset g ss).2)) else ((600 : Int32) + ((m_Ch_leastUnset g ss).1), ((m_Ch_leastUnset g ss).2)) else if (m_Ch_ownFault g (nI j)) = (0 : Int32) then m_Ch_verdictOn_l1 g ss n1 (j + 1) else (((100 : Int32) * (m_Ch_ownFault g (nI j))) + (nI j), ss)
def m_Ch_verdictOn (g : GT) (ss : Nat → Int32) : Int32 × (Nat → Int32) := if g.1 = (0 : Int32) then ((100 : Int32), ss) else m_Ch_verdictOn_l1 g ss (65) 0
set_option maxHeartbeats 4000000 in
set_option maxRecDepth 100000 in
theorem c_Ch_verdictOn (l : Launch) (D : va_G) (dA : Nat → ClassId) (ad : Nat → Nat) (A : Nat → Prop) (hAd : AdOK 49 ad A) (w : Nat → Int32) (P : PT) (g : GT) (ss : Nat → Int32) (M : MT) (hg : iN g.1 ≤ 64) : Met l y_Ch_verdictOn (mW y_Ch_verdictOn b_Ch_verdictOn 4 (some .int)) { frames := 3, cells := 0, slots := 0, locals := 73 } (va_Pc [.ref (ad 9), .ref (ad 7)] (fun U => CG D dA ad w P g ss M U)) (va_Qi (fun (r : Int32) (u : (Nat → Int32)) => r = (m_Ch_verdictOn g ss).1 ∧ u = (m_Ch_verdictOn g ss).2) (fun u t => CG D dA ad w P g u M t) A) 0 0 A := by
  refine Met.ofW (cc := b_Ch_verdictOn) (maxL := 4) (ret := (some .int)) (by decide) rfl ?_
  intro p e s m args below meth c s₁ B hml hv
  obtain ⟨rfl, hP, hK, hN⟩ := hv
  have hx := B.exec
  have hb := B.bytes
  have hr := B.returns
  have hlocks := B.notSynchronized
  have hts := fun (w : Cond) (h : w ∈ lw_g) => atoms_spec (ws := mW y_Ch_verdictOn b_Ch_verdictOn 4 (some .int)) B.pre w (List.mem_cons_of_mem _ h)
  have hown : s.vm.findClass R_Ch = some m.cls := findClass_of_methodNamed B.named
  have hS : va_S A s.heap s.heap [] := va_S.rf
  have hl := lv_entry ([.ref (ad 9), .ref (ad 7)]) (n := 4) (Nat.le_of_ble_eq_true rfl)
  rw [lg_entry_eq]
  generalize (lg_sl ([.ref (ad 9), .ref (ad 7)]) ++ List.replicate (4 - (lg_sl ([.ref (ad 9), .ref (ad 7)])).length) Slot.unset).toArray = ls at hl ⊢
  have hl : lv_has ls 4 [(0, .ref (ad 9)), (1, .ref (ad 7))] := hl
  refine lv_aload_n hx hb d_Ch_verdictOn_0 rfl (lv_at hl 1 rfl) ?_
  refine va_get (D := D) (ci := 6) (v := .int g.1) (C := R_Pr) (T := F_Pr) (N := 2) hx hb hts in_Pr hown hK hP 7 rfl rfl 1 (by decide) (hts _ wd_156) (fun _ h9 => h9) rfl d_Ch_verdictOn_1 ?_
  refine lv_if_ne (tgt := 10) hx hb d_Ch_verdictOn_4 (by decide) (fun h1 => ?_) (fun h1 => ?_)
  · refine lv_iconst (v := 0) hx hb d_Ch_verdictOn_10 (by decide) ?_
    refine lv_istore_n hx hb d_Ch_verdictOn_11 rfl hl (by decide) rfl (fun ls hl => ?_)
    have hl : lv_has ls 4 [(2, .int (0 : Int32)), (0, .ref (ad 9)), (1, .ref (ad 7))] := hl
    refine W_loop1 (X := fun (n1 : Nat) (j : Nat) (H : Heap) (locs : List Loc) (ls : Array Slot) => 64 - j < n1 ∧ m_Ch_verdictOn g ss = m_Ch_verdictOn_l1 g ss n1 j ∧ lv_has ls 4 [(2, .int (nI j)), (0, .ref (ad 9)), (1, .ref (ad 7))] ∧ va_P D cls (wC ad dA w P g ss M) H ∧ va_S A s.heap H locs ∧ j ≤ 64 ∧ (∀ i, i < j → m_Ch_ownFault g (nI i) = 0)) (65) 0 ⟨(by decide), (by rw [m_Ch_verdictOn, if_neg h1]), (lv_sub hl [0, 1, 2] rfl), hP, hS, (by decide), (fun i h => absurd h (Nat.not_lt_zero i))⟩ (fun _ _ _ _ h => absurd h.1 (Nat.not_lt_zero _)) (fun n1 ih1 j H locs ls h => ?_)
    obtain ⟨hn1, hm1, hl, hP, hS, hj, hok⟩ := h
    refine lv_iload_n hx hb d_Ch_verdictOn_12 rfl (lv_at hl 0 rfl) ?_
    refine lv_aload_n hx hb d_Ch_verdictOn_13 rfl (lv_at hl 2 rfl) ?_
    refine va_get (D := D) (ci := 6) (v := .int g.1) (C := R_Pr) (T := F_Pr) (N := 2) hx hb hts in_Pr hown hK hP 7 rfl rfl 1 (by decide) (hts _ wd_156) (fun _ h9 => h9) rfl d_Ch_verdictOn_14 ?_
    refine lv_icmp_ge (tgt := 43) hx hb d_Ch_verdictOn_17 (by decide) (fun h2 => ?_) (fun h2 => ?_)
    · refine lv_aload_n hx hb d_Ch_verdictOn_43 rfl (lv_at hl 2 rfl) ?_
      refine va_get (D := D) (ci := 6) (v := .int g.1) (C := R_Pr) (T := F_Pr) (N := 2) hx hb hts in_Pr hown hK hP 7 rfl rfl 1 (by decide) (hts _ wd_156) (fun _ h9 => h9) rfl d_Ch_verdictOn_44 ?_
      refine lv_iconst (v := 1) hx hb d_Ch_verdictOn_47 (by decide) ?_
      refine lv_isub hx hb d_Ch_verdictOn_48 ?_
      refine lv_istore_n hx hb d_Ch_verdictOn_49 rfl hl (by decide) rfl (fun ls hl => ?_)
      have hl : lv_has ls 4 [(2, .int (g.1 - (1 : Int32))), (0, .ref (ad 9)), (1, .ref (ad 7))] := hl
      refine lv_aload_n hx hb d_Ch_verdictOn_50 rfl (lv_at hl 2 rfl) ?_
      refine va_get (D := D) (ci := 6) (v := .ref (ad 8)) (C := R_Pr) (T := F_Pr) (N := 2) hx hb hts in_Pr hown hK hP 7 rfl rfl 0 (by decide) (hts _ wd_153) (fun _ h9 => h9) rfl d_Ch_verdictOn_51 ?_
      refine lv_iload_n hx hb d_Ch_verdictOn_54 rfl (lv_at hl 0 rfl) ?_
      refine va_lald (n := 64) (f := g.2) hx hb hK hP 8 1 rfl rfl (ix_lastI hg (by assumption)) d_Ch_verdictOn_55 ?_
      refine vp_callSi (va_Run.run (va_runS (As := [.long (g.2 (g.1 - (1 : Int32)).toNatClampNeg)]) (rest := []) ⟨hx, hb, hml, hown, hts⟩ (c_In_codeOf l (g.2 (g.1 - (1 : Int32)).toNatClampNeg)) (va_cwS 1 hts (g_S wd_363 wd_364 wd_36 wd_365) rfl rfl rfl (by decide +kernel) ⟨Nat.le_of_ble_eq_true rfl, Nat.le_of_ble_eq_true rfl⟩) ⟨fun _ _ _ _ q => q, fun _ _ _ => ⟨rfl, trivial⟩⟩ rfl rfl hl.1 rfl (lv_room (Nat.le_of_ble_eq_true rfl)) d_Ch_verdictOn_56 ⟨Nat.le_of_ble_eq_true rfl, Nat.le_of_ble_eq_true rfl⟩)) (fun r1 e1 => ?_)
      subst e1
      refine vp_callSi (va_Run.run (va_runS (As := [.int (m_In_codeOf (g.2 (g.1 - (1 : Int32)).toNatClampNeg))]) (rest := []) ⟨hx, hb, hml, hown, hts⟩ (c_In_endsRun l (m_In_codeOf (g.2 (g.1 - (1 : Int32)).toNatClampNeg))) (va_cwS 1 hts (g_S wd_409 wd_377 wd_36 wd_378) rfl rfl rfl (by decide +kernel) ⟨Nat.le_of_ble_eq_true rfl, Nat.le_of_ble_eq_true rfl⟩) ⟨fun _ _ _ _ q => q, fun _ _ _ => ⟨rfl, trivial⟩⟩ rfl rfl hl.1 rfl (lv_room (Nat.le_of_ble_eq_true rfl)) d_Ch_verdictOn_59 ⟨Nat.le_of_ble_eq_true rfl, Nat.le_of_ble_eq_true rfl⟩)) (fun r2 e2 => ?_)
      subst e2
      refine lv_if_ne (tgt := 71) hx hb d_Ch_verdictOn_62 (by decide) (fun h3 => ?_) (fun h3 => ?_)
      · refine lv_aload_n hx hb d_Ch_verdictOn_71 rfl (lv_at hl 1 rfl) ?_
        refine lv_aload_n hx hb d_Ch_verdictOn_72 rfl (lv_at hl 2 rfl) ?_
        refine va_calli (va_runV (As := [.ref (ad 7)]) (rest := []) ⟨hx, hb, hml, hown, hts⟩ (c_Ch_leastUnset l D dA ad A hAd w P g ss M hg (n_pos (by assumption)) (ok_all hg hj hok (by assumption)) (end_of hg (by assumption) (by assumption))) (cwV 1 hts (g_V wd_410 wd_412 wd_1 wd_33 wd_413) rfl rfl rfl (by decide +kernel) ⟨Nat.le_of_ble_eq_true rfl, Nat.le_of_ble_eq_true rfl⟩) ⟨CG_fb, (va_recv (ci := 2) (q := (R_Ch, F_Ch, 1)) (q0 := 9) hK hP rfl rfl), fun U hU hW => ⟨rfl, CG_at hP hK hN hU hW⟩⟩ rfl rfl hl.1 rfl (lv_room (Nat.le_of_ble_eq_true rfl)) d_Ch_verdictOn_73 ⟨Nat.le_of_ble_eq_true rfl, Nat.le_of_ble_eq_true rfl⟩) hS (fun _ _ h => h) (fun _ h => h) (fun r3 u1 t H locs ht hvm hu hB hz hk hS => ?_)
        obtain ⟨rfl, rfl⟩ := hu
        obtain ⟨hP, -⟩ := hB
        rw [ht] at hP
        have hP : va_P D cls (wC ad dA w P g ((m_Ch_leastUnset g ss).2) M) H := hP
        refine lv_istore_n hx hb d_Ch_verdictOn_76 rfl hl (by decide) rfl (fun ls hl => ?_)
        have hl : lv_has ls 4 [(3, .int ((m_Ch_leastUnset g ss).1)), (2, .int (g.1 - (1 : Int32))), (0, .ref (ad 9)), (1, .ref (ad 7))] := hl
        refine lv_iload_n hx hb d_Ch_verdictOn_77 rfl (lv_at hl 0 rfl) ?_
        refine lv_iconst (v := -1) hx hb d_Ch_verdictOn_78 (by decide) ?_
        refine lv_icmp_ne (tgt := 86) hx hb d_Ch_verdictOn_79 (by decide) (fun h4 => ?_) (fun h4 => ?_)
        · refine lv_sipush (v := 600) hx hb d_Ch_verdictOn_86 (by decide) ?_
          refine lv_iload_n hx hb d_Ch_verdictOn_89 rfl (lv_at hl 0 rfl) ?_
          refine lv_iadd hx hb d_Ch_verdictOn_90 ?_
          exact W.iret hx hb hr (fun t ht hW => ⟨⟨_, _, rfl, ⟨(by rw [hm1, m_Ch_verdictOn_l1, if_pos h2, if_neg h3, if_neg h4]), (by rw [hm1, m_Ch_verdictOn_l1, if_pos h2, if_neg h3, if_neg h4])⟩, CG_at hP hK hN ht hW⟩, hS.F ht⟩) hS.2.2 d_Ch_verdictOn_91
        refine lv_iconst (v := 0) hx hb d_Ch_verdictOn_82 (by decide) ?_
        refine lv_goto (tgt := 91) hx hb d_Ch_verdictOn_83 (by decide) ?_
        exact W.iret hx hb hr (fun t ht hW => ⟨⟨_, _, rfl, ⟨(by rw [hm1, m_Ch_verdictOn_l1, if_pos h2, if_neg h3, if_pos h4]), (by rw [hm1, m_Ch_verdictOn_l1, if_pos h2, if_neg h3, if_pos h4])⟩, CG_at hP hK hN ht hW⟩, hS.F ht⟩) hS.2.2 d_Ch_verdictOn_91
      refine lv_sipush (v := 500) hx hb d_Ch_verdictOn_65 (by decide) ?_
      refine lv_iload_n hx hb d_Ch_verdictOn_68 rfl (lv_at hl 0 rfl) ?_
      refine lv_iadd hx hb d_Ch_verdictOn_69 ?_
      exact W.iret hx hb hr (fun t ht hW => ⟨⟨_, _, rfl, ⟨(by rw [hm1, m_Ch_verdictOn_l1, if_pos h2, if_pos h3]), (by rw [hm1, m_Ch_verdictOn_l1, if_pos h2, if_pos h3])⟩, CG_at hP hK hN ht hW⟩, hS.F ht⟩) hS.2.2 d_Ch_verdictOn_70
    have hjl : j < iN g.1 := nj_lt hg (by decide) hj h2
    refine lv_aload_n hx hb d_Ch_verdictOn_20 rfl (lv_at hl 2 rfl) ?_
    refine lv_iload_n hx hb d_Ch_verdictOn_21 rfl (lv_at hl 0 rfl) ?_
    refine vp_callSi (va_Run.run (va_runS (As := [.ref (ad 7), .int (nI j)]) (rest := []) ⟨hx, hb, hml, hown, hts⟩ (c_Ch_ownFault l D dA ad w P g ss M (nI j) (vp_in_nI (by omega) (by decide))) (va_cwS 2 hts (g_S wd_360 wd_361 wd_33 wd_362) rfl rfl rfl (by decide +kernel) ⟨Nat.le_of_ble_eq_true rfl, Nat.le_of_ble_eq_true rfl⟩) ⟨CG_fb, fun U hU hW => ⟨rfl, CG_at hP hK hN hU hW⟩⟩ rfl rfl hl.1 rfl (lv_room (Nat.le_of_ble_eq_true rfl)) d_Ch_verdictOn_22 ⟨Nat.le_of_ble_eq_true rfl, Nat.le_of_ble_eq_true rfl⟩)) (fun r4 e3 => ?_)
    subst e3
    refine lv_istore_n hx hb d_Ch_verdictOn_25 rfl hl (by decide) rfl (fun ls hl => ?_)
    have hl : lv_has ls 4 [(3, .int (m_Ch_ownFault g (nI j))), (2, .int (nI j)), (0, .ref (ad 9)), (1, .ref (ad 7))] := hl
    refine lv_iload_n hx hb d_Ch_verdictOn_26 rfl (lv_at hl 0 rfl) ?_
    refine lv_if_eq (tgt := 37) hx hb d_Ch_verdictOn_27 (by decide) (fun h5 => ?_) (fun h5 => ?_)
    · refine lv_iinc (v := (nI j) + 1) hx hb d_Ch_verdictOn_37 hl (k := 1) rfl rfl (by decide) rfl (fun ls hl => ?_)
      have hl : lv_has ls 4 [(2, .int ((nI j) + 1)), (3, .int (m_Ch_ownFault g (nI j))), (0, .ref (ad 9)), (1, .ref (ad 7))] := hl
      refine lv_goto (tgt := 12) hx hb d_Ch_verdictOn_40 (by decide) ?_
      exact ih1 (j + 1) _ _ _ ⟨(by omega), (by rw [hm1, m_Ch_verdictOn_l1, if_neg h2, if_pos h5]), (by have h9 := lv_sub hl [0, 2, 3] rfl; rw [nI_1] at h9; exact h9), hP, hS, (by omega), (ok_step hok h5)⟩
    refine lv_bipush (v := 100) hx hb d_Ch_verdictOn_30 (by decide) ?_
    refine lv_iload_n hx hb d_Ch_verdictOn_32 rfl (lv_at hl 0 rfl) ?_
    refine lv_imul hx hb d_Ch_verdictOn_33 ?_
    refine lv_iload_n hx hb d_Ch_verdictOn_34 rfl (lv_at hl 1 rfl) ?_
    refine lv_iadd hx hb d_Ch_verdictOn_35 ?_
    exact W.iret hx hb hr (fun t ht hW => ⟨⟨_, _, rfl, ⟨(by rw [hm1, m_Ch_verdictOn_l1, if_neg h2, if_neg h5]), (by rw [hm1, m_Ch_verdictOn_l1, if_neg h2, if_neg h5])⟩, CG_at hP hK hN ht hW⟩, hS.F ht⟩) hS.2.2 d_Ch_verdictOn_36
  refine lv_bipush (v := 100) hx hb d_Ch_verdictOn_7 (by decide) ?_
  exact W.iret hx hb hr (fun t ht hW => ⟨⟨_, _, rfl, ⟨(by rw [m_Ch_verdictOn, if_pos h1]), (by rw [m_Ch_verdictOn, if_pos h1])⟩, CG_at hP hK hN ht hW⟩, hS.F ht⟩) hS.2.2 d_Ch_verdictOn_9
def m_F_check (g : GT) (ss : Nat → Int32) : Int32 × (Nat → Int32) := ((m_Ch_verdictOn g ss).1, ((m_Ch_verdictOn g ss).2))
set_option maxHeartbeats 4000000 in
set_option maxRecDepth 100000 in
theorem c_F_check (l : Launch) (D : va_G) (dA : Nat → ClassId) (ad : Nat → Nat) (A : Nat → Prop) (hAd : AdOK 49 ad A) (w : Nat → Int32) (P : PT) (g : GT) (ss : Nat → Int32) (M : MT) (hg : iN g.1 ≤ 64) : Met l y_F_check (mW y_F_check b_F_check 1 (some .int)) { frames := 4, cells := 0, slots := 0, locals := 96 } (va_Pc [.ref (ad 0)] (fun U => CG D dA ad w P g ss M U)) (va_Qi (fun (r : Int32) (u : (Nat → Int32)) => r = (m_F_check g ss).1 ∧ u = (m_F_check g ss).2) (fun u t => CG D dA ad w P g u M t) A) 0 0 A := by
  refine Met.ofW (cc := b_F_check) (maxL := 1) (ret := (some .int)) (by decide) rfl ?_
  intro p e s m args below meth c s₁ B hml hv
  obtain ⟨rfl, hP, hK, hN⟩ := hv
  have hx := B.exec
  have hb := B.bytes
  have hr := B.returns
  have hlocks := B.notSynchronized
  have hts := fun (w : Cond) (h : w ∈ lw_g) => atoms_spec (ws := mW y_F_check b_F_check 1 (some .int)) B.pre w (List.mem_cons_of_mem _ h)
  have hown : s.vm.findClass R_F = some m.cls := findClass_of_methodNamed B.named
  have hS : va_S A s.heap s.heap [] := va_S.rf
  have hl := lv_entry ([.ref (ad 0)]) (n := 1) (Nat.le_of_ble_eq_true rfl)
  rw [lg_entry_eq]
  generalize (lg_sl ([.ref (ad 0)]) ++ List.replicate (1 - (lg_sl ([.ref (ad 0)])).length) Slot.unset).toArray = ls at hl ⊢
  have hl : lv_has ls 1 [(0, .ref (ad 0))] := hl
  refine lv_aload_n hx hb d_F_check_0 rfl (lv_at hl 0 rfl) ?_
  refine va_get (D := D) (ci := 8) (v := .ref (ad 9)) (C := R_F) (T := F_F) (N := 5) hx hb hts in_F hown hK hP 0 rfl rfl 3 (by decide) (hts _ wd_211) (fun _ h9 => h9) rfl d_F_check_1 ?_
  refine lv_aload_n hx hb d_F_check_4 rfl (lv_at hl 0 rfl) ?_
  refine va_get (D := D) (ci := 8) (v := .ref (ad 7)) (C := R_F) (T := F_F) (N := 5) hx hb hts in_F hown hK hP 0 rfl rfl 2 (by decide) (hts _ wd_210) (fun _ h9 => h9) rfl d_F_check_5 ?_
  refine va_calli (va_runV (As := [.ref (ad 7)]) (rest := []) ⟨hx, hb, hml, hown, hts⟩ (c_Ch_verdictOn l D dA ad A hAd w P g ss M hg) (cwV 1 hts (g_V wd_356 wd_357 wd_358 wd_33 wd_359) rfl rfl rfl (by decide +kernel) ⟨Nat.le_of_ble_eq_true rfl, Nat.le_of_ble_eq_true rfl⟩) ⟨CG_fb, (va_recv (ci := 2) (q := (R_Ch, F_Ch, 1)) (q0 := 9) hK hP rfl rfl), fun U hU hW => ⟨rfl, CG_at hP hK hN hU hW⟩⟩ rfl rfl hl.1 rfl (lv_room (Nat.le_of_ble_eq_true rfl)) d_F_check_8 ⟨Nat.le_of_ble_eq_true rfl, Nat.le_of_ble_eq_true rfl⟩) hS (fun _ _ h => h) (fun _ h => h) (fun r1 u1 t H locs ht hvm hu hB hz hk hS => ?_)
  obtain ⟨rfl, rfl⟩ := hu
  obtain ⟨hP, -⟩ := hB
  rw [ht] at hP
  have hP : va_P D cls (wC ad dA w P g ((m_Ch_verdictOn g ss).2) M) H := hP
  exact W.iret hx hb hr (fun t ht hW => ⟨⟨_, _, rfl, ⟨(by rw [m_F_check]), (by rw [m_F_check])⟩, CG_at hP hK hN ht hW⟩, hS.F ht⟩) hS.2.2 d_F_check_11
end
section
/-! A verdict without fault -/
theorem own_rng (g : GT) (i : Int32) : m_Ch_ownFault g i = 0 ∨ m_Ch_ownFault g i = 2 ∨ m_Ch_ownFault g i = 3 ∨ m_Ch_ownFault g i = 4 := by
  unfold m_Ch_ownFault
  by_cases h1 : m_In_isKnown (m_In_codeOf (g.2 i.toNatClampNeg)) = (0 : Int32)
  · rw [if_pos h1]
    exact Or.inr (Or.inl rfl)
  · rw [if_neg h1]
    by_cases h2 : m_Ch_isOperandFit (m_In_codeOf (g.2 i.toNatClampNeg)) (m_In_operandOf (g.2 i.toNatClampNeg)) = (0 : Int32)
    · rw [if_pos h2]
      exact Or.inr (Or.inr (Or.inl rfl))
    · rw [if_neg h2]
      by_cases h3 : lg_cmp (m_Ch_longestSkip (m_In_codeOf (g.2 i.toNatClampNeg)) (g.2 i.toNatClampNeg)) (((g.1 - (1 : Int32)) - i).toInt64) ≤ (0 : Int32)
      · rw [if_pos h3]
        exact Or.inl rfl
      · rw [if_neg h3]
        exact Or.inr (Or.inr (Or.inr rfl))
theorem own_ne {g : GT} {j : Nat} (hj : j ≤ 64) (h : ¬ m_Ch_ownFault g (nI j) = (0 : Int32)) : ¬ ((100 : Int32) * m_Ch_ownFault g (nI j)) + nI j = (0 : Int32) := by
  intro q
  have e := congrArg iN q
  rw [iN_add, iN_mul, iN_nIs (by omega), show iN (100 : Int32) = 100 from rfl, show iN (0 : Int32) = 0 from rfl] at e
  rcases own_rng g (nI j) with h1 | h1 | h1 | h1
  · exact h h1
  · rw [h1, show iN (2 : Int32) = 2 from rfl] at e; omega
  · rw [h1, show iN (3 : Int32) = 3 from rfl] at e; omega
  · rw [h1, show iN (4 : Int32) = 4 from rfl] at e; omega
theorem vdl {g : GT} {ss : Nat → Int32} (hg : iN g.1 ≤ 64) (h0 : ¬ g.1 = (0 : Int32)) : ∀ n j : Nat, 64 - j < n → j ≤ 64 → (m_Ch_verdictOn_l1 g ss n j).1 = (0 : Int32) → (∀ i, j ≤ i → i < iN g.1 → m_Ch_ownFault g (nI i) = 0) ∧ ¬ m_In_endsRun (m_In_codeOf (g.2 (g.1 - (1 : Int32)).toNatClampNeg)) = (0 : Int32) := by
  intro n
  induction n with
  | zero => intro j h; exact absurd h (Nat.not_lt_zero _)
  | succ n ih =>
    intro j h hj
    rw [m_Ch_verdictOn_l1]
    by_cases h1 : g.1 ≤ nI j
    · rw [if_pos h1]
      have e := iN_nIs (n := j) (by omega)
      rw [le_n (by omega) (by omega), e] at h1
      by_cases h2 : m_In_endsRun (m_In_codeOf (g.2 (g.1 - (1 : Int32)).toNatClampNeg)) = (0 : Int32)
      · rw [if_pos h2]
        intro q
        have e2 := congrArg iN q
        dsimp only at e2
        rw [iN_add, iN_pred h0, show iN (500 : Int32) = 500 from rfl, show iN (0 : Int32) = 0 from rfl] at e2
        omega
      · intro _
        exact ⟨fun i hi hl => by omega, h2⟩
    · rw [if_neg h1]
      have hjl : j < iN g.1 := nj_lt hg (by decide) hj h1
      by_cases h2 : m_Ch_ownFault g (nI j) = (0 : Int32)
      · rw [if_pos h2]
        intro q
        obtain ⟨a, b⟩ := ih (j + 1) (by omega) (by omega) q
        refine ⟨fun i hi hl => ?_, b⟩
        by_cases e : i = j
        · rw [e]
          exact h2
        · exact a i (by omega) hl
      · rw [if_neg h2]
        intro q
        exact absurd q (own_ne hj h2)
theorem vd_all {g : GT} {ss : Nat → Int32} (hg : iN g.1 ≤ 64) (h : (m_Ch_verdictOn g ss).1 = (0 : Int32)) : ¬ g.1 = (0 : Int32) ∧ (∀ i, i < iN g.1 → m_Ch_ownFault g (nI i) = 0) ∧ ¬ m_In_endsRun (m_In_codeOf (g.2 (iN g.1 - 1))) = 0 := by
  unfold m_Ch_verdictOn at h
  by_cases h0 : g.1 = (0 : Int32)
  · rw [if_pos h0] at h
    have h : (100 : Int32) = 0 := h
    exact absurd h (by decide)
  · rw [if_neg h0] at h
    obtain ⟨a, b⟩ := vdl hg h0 65 0 (by decide) (by decide) h
    exact ⟨h0, fun i hi => a i (Nat.zero_le _) hi, end_of hg h0 b⟩
theorem vd_ok {g : GT} {ss : Nat → Int32} (hg : iN g.1 ≤ 64) (h : (m_Ch_verdictOn g ss).1 = (0 : Int32)) : ∀ i, i < iN g.1 → m_Ch_ownFault g (nI i) = 0 := (vd_all hg h).2.1
theorem vd_end {g : GT} {ss : Nat → Int32} (hg : iN g.1 ≤ 64) (h : (m_Ch_verdictOn g ss).1 = (0 : Int32)) : ¬ m_In_endsRun (m_In_codeOf (g.2 (iN g.1 - 1))) = 0 := (vd_all hg h).2.2
/-! What an instruction leaves alone -/
theorem cm_done (M : MT) (op v : Int32) : (m_Ma_compute M op v).2.1 = M.2.1 ∧ (m_Ma_compute M op v).2.2.2.2.2.1 = M.2.2.2.2.2.1 := by
  unfold m_Ma_compute m_Ma_divide m_Ma_end
  repeat' split
  all_goals exact ⟨rfl, rfl⟩
theorem cp_done (M : MT) (cd : Int32) : (m_Ma_copy M cd).2.1 = M.2.1 ∧ (m_Ma_copy M cd).2.2.2.2.2.1 = M.2.2.2.2.2.1 := by
  unfold m_Ma_copy
  split <;> exact ⟨rfl, rfl⟩
theorem jp_done (M : MT) (z : Int64) (cd v : Int32) : (m_Ma_jump M z cd v).2.1 = M.2.1 := by
  unfold m_Ma_jump
  repeat' split
  all_goals rfl
theorem jp_next (M : MT) (z : Int64) (cd v : Int32) : (cd = (5 : Int32) → (m_Ma_jump M z cd v).2.2.2.2.2.1 = M.2.2.2.2.2.1 + v) ∧ (¬ cd = (5 : Int32) → (m_Ma_jump M z cd v).2.2.2.2.2.1 = M.2.2.2.2.2.1 + m_In_distanceIfFalse z ∨ (m_Ma_jump M z cd v).2.2.2.2.2.1 = M.2.2.2.2.2.1 + m_In_distanceIfTrue z) := by
  unfold m_Ma_jump
  refine ⟨fun h => by rw [if_pos h], fun h => ?_⟩
  rw [if_neg h]
  split
  · exact Or.inl rfl
  · exact Or.inr rfl
theorem pf_done (w : Nat → Int32) (M : MT) (z : Int64) : (m_Ma_perform w M z).2.1 = M.2.1 := by
  unfold m_Ma_perform
  repeat' split
  all_goals first | rfl | exact (cm_done _ _ _).1 | exact (cp_done _ _).1 | exact jp_done _ _ _ _
theorem pf_next (w : Nat → Int32) (M : MT) (z : Int64) : (m_In_codeOf z &&& (7 : Int32) = (5 : Int32) → m_In_codeOf z &&& (8 : Int32) = (0 : Int32) → (m_Ma_perform w M z).2.2.2.2.2.1 = (m_Ma_jump M z (m_In_codeOf z) (m_In_operandOf z).toInt32).2.2.2.2.2.1) ∧ (m_In_codeOf z &&& (7 : Int32) = (5 : Int32) → ¬ m_In_codeOf z &&& (8 : Int32) = (0 : Int32) → (m_Ma_perform w M z).2.2.2.2.2.1 = (m_Ma_jump M z (m_In_codeOf z) M.2.2.2.2.1).2.2.2.2.2.1) ∧ (¬ m_In_codeOf z &&& (7 : Int32) = (5 : Int32) → (m_Ma_perform w M z).2.2.2.2.2.1 = M.2.2.2.2.2.1) := by
  unfold m_Ma_perform
  generalize m_In_codeOf z = cd
  refine ⟨fun h1 h2 => ?_, fun h1 h2 => ?_, fun h1 => ?_⟩
  · rw [if_pos h2, h1]
    rfl
  · rw [if_neg h2, h1]
    rfl
  · repeat' split
    all_goals first | rfl | exact (cm_done _ _ _).2 | exact (cp_done _ _).2 | exact absurd (by assumption) h1
theorem ex_l {g : GT} {M1 : MT} (hg : iN g.1 ≤ 64) (hJ : iN M1.2.2.2.2.2.1 ≤ 64) (h : ¬ g.1 ≤ M1.2.2.2.2.2.1) : iN M1.2.2.2.2.2.1 < iN g.1 := by
  rw [le_n (by omega) (by omega)] at h
  omega
theorem ex_i {g : GT} {M1 : MT} (hg : iN g.1 ≤ 64) (hJ : iN M1.2.2.2.2.2.1 ≤ 64) (h : ¬ g.1 ≤ M1.2.2.2.2.2.1) : vp_in M1.2.2.2.2.2.1 64 := by
  have := ex_l hg hJ h
  exact in_iN (by decide) (by omega)
theorem in_1 {x : Int32} (h : iN x ≤ 64) : iN (x + (1 : Int32)) = iN x + 1 := by
  rw [iN_add, show iN (1 : Int32) = 1 from rfl]
  omega
theorem ex_n {g : GT} {M1 : MT} {w : Nat → Int32} {z : Int64} {n : Nat} {a : Nat → Int32} {b c d nx f r : Int32} (hg : iN g.1 ≤ 64) (hd : iN M1.2.1 ≤ 64) (h : ¬ g.1 ≤ M1.2.1) (hn : 64 - iN M1.2.1 < n + 1) : 64 - iN (m_Ma_perform w (a, M1.2.1 + (1 : Int32), b, c, d, nx, f, r) z).2.1 < n := by
  rw [le_n (by omega) (by omega)] at h
  rw [pf_done]
  show 64 - iN (M1.2.1 + (1 : Int32)) < n
  rw [in_1 hd]
  omega
theorem ex_d {g : GT} {M1 : MT} {w : Nat → Int32} {z : Int64} {a : Nat → Int32} {b c d nx f r : Int32} (hg : iN g.1 ≤ 64) (hd : iN M1.2.1 ≤ 64) (h : ¬ g.1 ≤ M1.2.1) : iN (m_Ma_perform w (a, M1.2.1 + (1 : Int32), b, c, d, nx, f, r) z).2.1 ≤ 64 := by
  rw [le_n (by omega) (by omega)] at h
  rw [pf_done]
  show iN (M1.2.1 + (1 : Int32)) ≤ 64
  rw [in_1 hd]
  omega
theorem ex_j {g : GT} {M1 : MT} {w : Nat → Int32} {a : Nat → Int32} {b0 b c d f r : Int32} (hg : iN g.1 ≤ 64) (hok : ∀ i, i < iN g.1 → m_Ch_ownFault g (nI i) = 0) (hJ : iN M1.2.2.2.2.2.1 ≤ 64) (h : ¬ g.1 ≤ M1.2.2.2.2.2.1) : iN (m_Ma_perform w (a, b0, b, c, d, M1.2.2.2.2.2.1 + (1 : Int32), f, r) (g.2 M1.2.2.2.2.2.1.toNatClampNeg)).2.2.2.2.2.1 ≤ 64 := by
  have hl := ex_l hg hJ h
  generalize M1.2.2.2.2.2.1 = x at hJ h hl
  have hf := far_of hg hok hl
  have hk := hok (iN x) hl
  rw [nI_iN] at hk
  have hkl := known_in (of_ok hk).1
  have e1 := in_1 hJ
  generalize g.2 x.toNatClampNeg = z at hf hkl
  have hol := opnd_lt z
  have et : iN (m_In_operandOf z).toInt32 = uN (m_In_operandOf z) := by rw [iN_tr]; omega
  obtain ⟨p1, p2, p3⟩ := pf_next w (a, b0, b, c, d, x + (1 : Int32), f, r) z
  by_cases h5 : m_In_codeOf z &&& (7 : Int32) = (5 : Int32)
  · by_cases hc5 : m_In_codeOf z = (5 : Int32)
    · rw [p1 h5 (by rw [hc5]; decide), (jp_next _ _ _ _).1 hc5]
      show iN (x + (1 : Int32) + (m_In_operandOf z).toInt32) ≤ 64
      have := hf.1 hc5
      rw [iN_add, e1, et]
      omega
    · have hcd := (kl_j _ hkl h5).resolve_left hc5
      obtain ⟨f1, f2⟩ := hf.2 hcd hc5
      have key : ∀ v : Int32, iN (m_Ma_jump (a, b0, b, c, d, x + (1 : Int32), f, r) z (m_In_codeOf z) v).2.2.2.2.2.1 ≤ 64 := by
        intro v
        rcases (jp_next (a, b0, b, c, d, x + (1 : Int32), f, r) z (m_In_codeOf z) v).2 hc5 with q | q
        · rw [q]
          show iN (x + (1 : Int32) + m_In_distanceIfFalse z) ≤ 64
          rw [iN_add, e1]
          omega
        · rw [q]
          show iN (x + (1 : Int32) + m_In_distanceIfTrue z) ≤ 64
          rw [iN_add, e1]
          omega
      by_cases h8 : m_In_codeOf z &&& (8 : Int32) = (0 : Int32)
      · rw [p1 h5 h8]
        exact key _
      · rw [p2 h5 h8]
        exact key _
  · rw [p3 h5]
    show iN (x + (1 : Int32)) ≤ 64
    rw [e1]
    omega
theorem bg_n (M : MT) : 64 - iN (m_Ma_begin M).2.1 < 65 := by
  show 64 - iN (0 : Int32) < 65
  decide
theorem bg_d (M : MT) : iN (m_Ma_begin M).2.1 ≤ 64 := by
  show iN (0 : Int32) ≤ 64
  decide
theorem bg_j (M : MT) : iN (m_Ma_begin M).2.2.2.2.2.1 ≤ 64 := by
  show iN (0 : Int32) ≤ 64
  decide
theorem wd_3 : Cond.selects R_Ma y_Ma_begin y_Ma_begin ∈ lw_g := wd_in (i := 3) (by decide +kernel) (by decide +kernel)
theorem wd_4 : Cond.selects R_Ma y_Ma_perform y_Ma_perform ∈ lw_g := wd_in (i := 4) (by decide +kernel) (by decide +kernel)
theorem wd_154 : Cond.fieldLink R_Ma 35 R_Pr "instructions" "[J" ∈ lw_g := wd_in (i := 154) (by decide +kernel) (by decide +kernel)
theorem wd_157 : Cond.fieldLink R_Ma 27 R_Pr "count" "I" ∈ lw_g := wd_in (i := 157) (by decide +kernel) (by decide +kernel)
theorem wd_423 : Cond.methodLink R_F 120 y_Ma_forget ∈ lw_g := wd_in (i := 423) (by decide +kernel) (by decide +kernel)
theorem wd_428 : Cond.methodLink R_F 125 y_Ma_execute ∈ lw_g := wd_in (i := 428) (by decide +kernel) (by decide +kernel)
theorem wd_429 : Cond.instanceMethod y_Ma_execute ∈ lw_g := wd_in (i := 429) (by decide +kernel) (by decide +kernel)
theorem wd_430 : Cond.selects R_Ma y_Ma_execute y_Ma_execute ∈ lw_g := wd_in (i := 430) (by decide +kernel) (by decide +kernel)
theorem wd_431 : Cond.code y_Ma_execute prog_7_method_4_code 5 (Option.some Jvm.ClassFile.FieldType.long) ∈ lw_g := wd_in (i := 431) (by decide +kernel) (by decide +kernel)
theorem wd_432 : Cond.methodLink R_Ma 20 y_Ma_begin ∈ lw_g := wd_in (i := 432) (by decide +kernel) (by decide +kernel)
theorem wd_434 : Cond.instanceMethod y_Ma_begin ∈ lw_g := wd_in (i := 434) (by decide +kernel) (by decide +kernel)
theorem wd_435 : Cond.code y_Ma_begin prog_7_method_5_code 1 (Option.none : Option Jvm.ClassFile.FieldType) ∈ lw_g := wd_in (i := 435) (by decide +kernel) (by decide +kernel)
theorem wd_437 : Cond.methodLink R_Ma 39 y_Ma_perform ∈ lw_g := wd_in (i := 437) (by decide +kernel) (by decide +kernel)
theorem wd_439 : Cond.instanceMethod y_Ma_perform ∈ lw_g := wd_in (i := 439) (by decide +kernel) (by decide +kernel)
theorem wd_440 : Cond.code y_Ma_perform prog_7_method_6_code 7 (Option.none : Option Jvm.ClassFile.FieldType) ∈ lw_g := wd_in (i := 440) (by decide +kernel) (by decide +kernel)
theorem d_Ma_execute_0 : decode b_Ma_execute 0 = .ok (.aload_n 0, 1) := by decide +kernel
theorem d_Ma_execute_1 : decode b_Ma_execute 1 = .ok (.invokevirtual 20, 3) := by decide +kernel
theorem d_Ma_execute_4 : decode b_Ma_execute 4 = .ok (.aload_n 0, 1) := by decide +kernel
theorem d_Ma_execute_5 : decode b_Ma_execute 5 = .ok (.getfield 23, 3) := by decide +kernel
theorem d_Ma_execute_8 : decode b_Ma_execute 8 = .ok (.ifCond .ne 64, 3) := by decide +kernel
theorem d_Ma_execute_11 : decode b_Ma_execute 11 = .ok (.aload_n 0, 1) := by decide +kernel
theorem d_Ma_execute_12 : decode b_Ma_execute 12 = .ok (.getfield 13, 3) := by decide +kernel
theorem d_Ma_execute_15 : decode b_Ma_execute 15 = .ok (.aload_n 1, 1) := by decide +kernel
theorem d_Ma_execute_16 : decode b_Ma_execute 16 = .ok (.getfield 27, 3) := by decide +kernel
theorem d_Ma_execute_19 : decode b_Ma_execute 19 = .ok (.if_icmp .ge 53, 3) := by decide +kernel
theorem d_Ma_execute_22 : decode b_Ma_execute 22 = .ok (.aload_n 0, 1) := by decide +kernel
theorem d_Ma_execute_23 : decode b_Ma_execute 23 = .ok (.getfield 32, 3) := by decide +kernel
theorem d_Ma_execute_26 : decode b_Ma_execute 26 = .ok (.aload_n 1, 1) := by decide +kernel
theorem d_Ma_execute_27 : decode b_Ma_execute 27 = .ok (.getfield 27, 3) := by decide +kernel
theorem d_Ma_execute_30 : decode b_Ma_execute 30 = .ok (.if_icmp .ge 42, 3) := by decide +kernel
theorem d_Ma_execute_33 : decode b_Ma_execute 33 = .ok (.aload_n 1, 1) := by decide +kernel
theorem d_Ma_execute_34 : decode b_Ma_execute 34 = .ok (.getfield 35, 3) := by decide +kernel
theorem d_Ma_execute_37 : decode b_Ma_execute 37 = .ok (.aload_n 0, 1) := by decide +kernel
theorem d_Ma_execute_38 : decode b_Ma_execute 38 = .ok (.getfield 32, 3) := by decide +kernel
theorem d_Ma_execute_41 : decode b_Ma_execute 41 = .ok (.laload, 1) := by decide +kernel
theorem d_Ma_execute_42 : decode b_Ma_execute 42 = .ok (.lstore_n 3, 1) := by decide +kernel
theorem d_Ma_execute_43 : decode b_Ma_execute 43 = .ok (.aload_n 0, 1) := by decide +kernel
theorem d_Ma_execute_44 : decode b_Ma_execute 44 = .ok (.dup, 1) := by decide +kernel
theorem d_Ma_execute_45 : decode b_Ma_execute 45 = .ok (.getfield 32, 3) := by decide +kernel
theorem d_Ma_execute_48 : decode b_Ma_execute 48 = .ok (.iconst 1, 1) := by decide +kernel
theorem d_Ma_execute_49 : decode b_Ma_execute 49 = .ok (.iadd, 1) := by decide +kernel
theorem d_Ma_execute_50 : decode b_Ma_execute 50 = .ok (.putfield 32, 3) := by decide +kernel
theorem d_Ma_execute_53 : decode b_Ma_execute 53 = .ok (.aload_n 0, 1) := by decide +kernel
theorem d_Ma_execute_54 : decode b_Ma_execute 54 = .ok (.dup, 1) := by decide +kernel
theorem d_Ma_execute_55 : decode b_Ma_execute 55 = .ok (.getfield 13, 3) := by decide +kernel
theorem d_Ma_execute_58 : decode b_Ma_execute 58 = .ok (.iconst 1, 1) := by decide +kernel
theorem d_Ma_execute_59 : decode b_Ma_execute 59 = .ok (.iadd, 1) := by decide +kernel
theorem d_Ma_execute_60 : decode b_Ma_execute 60 = .ok (.putfield 13, 3) := by decide +kernel
theorem d_Ma_execute_63 : decode b_Ma_execute 63 = .ok (.aload_n 0, 1) := by decide +kernel
theorem d_Ma_execute_64 : decode b_Ma_execute 64 = .ok (.lload_n 3, 1) := by decide +kernel
theorem d_Ma_execute_65 : decode b_Ma_execute 65 = .ok (.aload_n 2, 1) := by decide +kernel
theorem d_Ma_execute_66 : decode b_Ma_execute 66 = .ok (.invokevirtual 39, 3) := by decide +kernel
theorem d_Ma_execute_69 : decode b_Ma_execute 69 = .ok (.goto (-65), 3) := by decide +kernel
theorem d_Ma_execute_72 : decode b_Ma_execute 72 = .ok (.aload_n 0, 1) := by decide +kernel
theorem d_Ma_execute_73 : decode b_Ma_execute 73 = .ok (.getfield 43, 3) := by decide +kernel
theorem d_Ma_execute_76 : decode b_Ma_execute 76 = .ok (.invokestatic 46, 3) := by decide +kernel
theorem d_Ma_execute_79 : decode b_Ma_execute 79 = .ok (.lreturn, 1) := by decide +kernel
theorem d_F_run_0 : decode b_F_run 0 = .ok (.aload_n 0, 1) := by decide +kernel
theorem d_F_run_1 : decode b_F_run 1 = .ok (.getfield 35, 3) := by decide +kernel
theorem d_F_run_4 : decode b_F_run 4 = .ok (.aload_n 0, 1) := by decide +kernel
theorem d_F_run_5 : decode b_F_run 5 = .ok (.getfield 28, 3) := by decide +kernel
theorem d_F_run_8 : decode b_F_run 8 = .ok (.invokevirtual 116, 3) := by decide +kernel
theorem d_F_run_11 : decode b_F_run 11 = .ok (.ifCond .eq 14, 3) := by decide +kernel
theorem d_F_run_14 : decode b_F_run 14 = .ok (.aload_n 0, 1) := by decide +kernel
theorem d_F_run_15 : decode b_F_run 15 = .ok (.getfield 42, 3) := by decide +kernel
theorem d_F_run_18 : decode b_F_run 18 = .ok (.invokevirtual 120, 3) := by decide +kernel
theorem d_F_run_21 : decode b_F_run 21 = .ok (.ldc2_w 123, 3) := by decide +kernel
theorem d_F_run_24 : decode b_F_run 24 = .ok (.lreturn, 1) := by decide +kernel
theorem d_F_run_25 : decode b_F_run 25 = .ok (.aload_n 0, 1) := by decide +kernel
theorem d_F_run_26 : decode b_F_run 26 = .ok (.getfield 42, 3) := by decide +kernel
theorem d_F_run_29 : decode b_F_run 29 = .ok (.aload_n 0, 1) := by decide +kernel
theorem d_F_run_30 : decode b_F_run 30 = .ok (.getfield 28, 3) := by decide +kernel
theorem d_F_run_33 : decode b_F_run 33 = .ok (.aload_n 0, 1) := by decide +kernel
theorem d_F_run_34 : decode b_F_run 34 = .ok (.getfield 10, 3) := by decide +kernel
theorem d_F_run_37 : decode b_F_run 37 = .ok (.invokevirtual 125, 3) := by decide +kernel
theorem d_F_run_40 : decode b_F_run 40 = .ok (.lreturn, 1) := by decide +kernel
def m_Ma_execute_l1 (w : Nat → Int32) (g : GT) (M : MT) : Nat → MT → Int64 × MT
  | 0, _ => (0, M)
  | n1 + 1, M1 => if M1.2.2.2.2.2.2.1 = (0 : Int32) then if g.1 ≤ M1.2.1 then (m_F_unsigned M1.2.2.2.2.2.2.2, M1) else if g.1 ≤ M1.2.2.2.2.2.1 then (m_F_unsigned M1.2.2.2.2.2.2.2, M1) else m_Ma_execute_l1 w g M n1 (m_Ma_perform w (M1.1, M1.2.1 + (1 : Int32), M1.2.2.1, M1.2.2.2.1, M1.2.2.2.2.1, M1.2.2.2.2.2.1 + (1 : Int32), M1.2.2.2.2.2.2.1, M1.2.2.2.2.2.2.2) (g.2 M1.2.2.2.2.2.1.toNatClampNeg)) else (m_F_unsigned M1.2.2.2.2.2.2.2, M1)
def m_Ma_execute (w : Nat → Int32) (g : GT) (M : MT) : Int64 × MT := m_Ma_execute_l1 w g M (65) (m_Ma_begin M)
set_option maxHeartbeats 4000000 in
set_option maxRecDepth 100000 in
theorem c_Ma_execute (l : Launch) (D : va_G) (dA : Nat → ClassId) (ad : Nat → Nat) (A : Nat → Prop) (hAd : AdOK 49 ad A) (w : Nat → Int32) (P : PT) (g : GT) (ss : Nat → Int32) (M : MT) (hg : iN g.1 ≤ 64) (hok : ∀ i, i < iN g.1 → m_Ch_ownFault g (nI i) = 0) (hend : ¬ m_In_endsRun (m_In_codeOf (g.2 (iN g.1 - 1))) = 0) : Met l y_Ma_execute (mW y_Ma_execute b_Ma_execute 5 (some .long)) { frames := 4, cells := 0, slots := 0, locals := 92 } (va_Pc [.ref (ad 11), .ref (ad 7), .ref (ad 1)] (fun U => CG D dA ad w P g ss M U)) (va_Ql (fun (r : Int64) (u : MT) => r = (m_Ma_execute w g M).1 ∧ u = (m_Ma_execute w g M).2) (fun u t => CG D dA ad w P g ss u t) A) 0 0 A := by
  refine Met.ofW (cc := b_Ma_execute) (maxL := 5) (ret := (some .long)) (by decide) rfl ?_
  intro p e s m args below meth c s₁ B hml hv
  obtain ⟨rfl, hP, hK, hN⟩ := hv
  have hx := B.exec
  have hb := B.bytes
  have hr := B.returns
  have hlocks := B.notSynchronized
  have hts := fun (w : Cond) (h : w ∈ lw_g) => atoms_spec (ws := mW y_Ma_execute b_Ma_execute 5 (some .long)) B.pre w (List.mem_cons_of_mem _ h)
  have hown : s.vm.findClass R_Ma = some m.cls := findClass_of_methodNamed B.named
  have hS : va_S A s.heap s.heap [] := va_S.rf
  have hl := lv_entry ([.ref (ad 11), .ref (ad 7), .ref (ad 1)]) (n := 5) (Nat.le_of_ble_eq_true rfl)
  rw [lg_entry_eq]
  generalize (lg_sl ([.ref (ad 11), .ref (ad 7), .ref (ad 1)]) ++ List.replicate (5 - (lg_sl ([.ref (ad 11), .ref (ad 7), .ref (ad 1)])).length) Slot.unset).toArray = ls at hl ⊢
  have hl : lv_has ls 5 [(0, .ref (ad 11)), (1, .ref (ad 7)), (2, .ref (ad 1))] := hl
  refine lv_aload_n hx hb d_Ma_execute_0 rfl (lv_at hl 0 rfl) ?_
  refine va_callv (va_runV (As := []) (rest := []) ⟨hx, hb, hml, hown, hts⟩ (c_Ma_begin l D dA ad A hAd w P g ss M) (cwV 0 hts (g_V wd_432 wd_434 wd_3 wd_34 wd_435) rfl rfl rfl (by decide +kernel) ⟨Nat.le_of_ble_eq_true rfl, Nat.le_of_ble_eq_true rfl⟩) ⟨CG_fb, (va_recv (ci := 4) (q := (R_Ma, F_Ma, 8)) (q0 := 11) hK hP rfl rfl), fun U hU hW => ⟨rfl, CG_at hP hK hN hU hW⟩⟩ rfl rfl hl.1 rfl (lv_room (Nat.le_of_ble_eq_true rfl)) d_Ma_execute_1 ⟨Nat.le_of_ble_eq_true rfl, Nat.le_of_ble_eq_true rfl⟩) hS (fun _ _ h => h) (fun _ h => h) (fun u1 t H locs ht hvm hu hB hz hk hS => ?_)
  subst hu
  obtain ⟨hP, -⟩ := hB
  rw [ht] at hP
  have hP : va_P D cls (wC ad dA w P g ss (m_Ma_begin M)) H := hP
  refine W_loop1 (X := fun (n1 : Nat) (M1 : MT) (H : Heap) (locs : List Loc) (ls : Array Slot) => 64 - iN M1.2.1 < n1 ∧ m_Ma_execute w g M = m_Ma_execute_l1 w g M n1 M1 ∧ lv_has ls 5 [(0, .ref (ad 11)), (1, .ref (ad 7)), (2, .ref (ad 1))] ∧ va_P D cls (wC ad dA w P g ss M1) H ∧ va_S A s.heap H locs ∧ iN M1.2.1 ≤ 64 ∧ iN M1.2.2.2.2.2.1 ≤ 64) (65) (m_Ma_begin M) ⟨(bg_n M), (by rw [m_Ma_execute]), (lv_sub hl [0, 1, 2] rfl), hP, hS, (bg_d M), (bg_j M)⟩ (fun _ _ _ _ h => absurd h.1 (Nat.not_lt_zero _)) (fun n1 ih1 M1 H locs ls h => ?_)
  obtain ⟨hn1, hm1, hl, hP, hS, hd, hJ⟩ := h
  refine lv_aload_n hx hb d_Ma_execute_4 rfl (lv_at hl 0 rfl) ?_
  refine va_get (D := D) (ci := 4) (v := .int M1.2.2.2.2.2.2.1) (C := R_Ma) (T := F_Ma) (N := 8) hx hb hts in_Ma hown hK hP 11 rfl rfl 6 (by decide) (hts _ wd_189) (fun _ h9 => h9) rfl d_Ma_execute_5 ?_
  refine lv_if_ne (tgt := 72) hx hb d_Ma_execute_8 (by decide) (fun h1 => ?_) (fun h1 => ?_)
  · refine lv_aload_n hx hb d_Ma_execute_72 rfl (lv_at hl 0 rfl) ?_
    refine va_get (D := D) (ci := 4) (v := .int M1.2.2.2.2.2.2.2) (C := R_Ma) (T := F_Ma) (N := 8) hx hb hts in_Ma hown hK hP 11 rfl rfl 7 (by decide) (hts _ wd_190) (fun _ h9 => h9) rfl d_Ma_execute_73 ?_
    refine vp_callSl (va_Run.run (va_runSN (As := [.int M1.2.2.2.2.2.2.2]) (rest := []) ⟨hx, hb, hml, hown, hts⟩ (c_F_unsigned l M1.2.2.2.2.2.2.2) ⟨va_cnB 1 hts (g_in wd_302) rfl rfl rfl hN.2.2.2.2.2.2.1 (hts _ wd_26) (by decide +kernel) ⟨Nat.le_of_ble_eq_true rfl, Nat.le_of_ble_eq_true rfl⟩, hts _ wd_301, trivial⟩ ⟨fun _ _ _ _ q => q, fun _ _ _ => ⟨rfl, trivial⟩⟩ rfl rfl hl.1 rfl (lv_room (Nat.le_of_ble_eq_true rfl)) d_Ma_execute_76 ⟨Nat.le_of_ble_eq_true rfl, Nat.le_of_ble_eq_true rfl⟩)) (fun r1 e1 => ?_)
    subst e1
    exact W.lret hx hb hr (fun t ht hW => ⟨⟨_, _, rfl, ⟨(by rw [hm1, m_Ma_execute_l1, if_neg h1]), (by rw [hm1, m_Ma_execute_l1, if_neg h1])⟩, CG_at hP hK hN ht hW⟩, hS.F ht⟩) hS.2.2 d_Ma_execute_79
  refine lv_aload_n hx hb d_Ma_execute_11 rfl (lv_at hl 0 rfl) ?_
  refine va_get (D := D) (ci := 4) (v := .int M1.2.1) (C := R_Ma) (T := F_Ma) (N := 8) hx hb hts in_Ma hown hK hP 11 rfl rfl 1 (by decide) (hts _ wd_183) (fun _ h9 => h9) rfl d_Ma_execute_12 ?_
  refine lv_aload_n hx hb d_Ma_execute_15 rfl (lv_at hl 1 rfl) ?_
  refine va_get (D := D) (ci := 6) (v := .int g.1) (C := R_Pr) (T := F_Pr) (N := 2) hx hb hts in_Pr hown hK hP 7 rfl rfl 1 (by decide) (hts _ wd_157) (fun _ h9 => h9) rfl d_Ma_execute_16 ?_
  refine lv_icmp_ge (tgt := 72) hx hb d_Ma_execute_19 (by decide) (fun h2 => ?_) (fun h2 => ?_)
  · refine lv_aload_n hx hb d_Ma_execute_72 rfl (lv_at hl 0 rfl) ?_
    refine va_get (D := D) (ci := 4) (v := .int M1.2.2.2.2.2.2.2) (C := R_Ma) (T := F_Ma) (N := 8) hx hb hts in_Ma hown hK hP 11 rfl rfl 7 (by decide) (hts _ wd_190) (fun _ h9 => h9) rfl d_Ma_execute_73 ?_
    refine vp_callSl (va_Run.run (va_runSN (As := [.int M1.2.2.2.2.2.2.2]) (rest := []) ⟨hx, hb, hml, hown, hts⟩ (c_F_unsigned l M1.2.2.2.2.2.2.2) ⟨va_cnB 1 hts (g_in wd_302) rfl rfl rfl hN.2.2.2.2.2.2.1 (hts _ wd_26) (by decide +kernel) ⟨Nat.le_of_ble_eq_true rfl, Nat.le_of_ble_eq_true rfl⟩, hts _ wd_301, trivial⟩ ⟨fun _ _ _ _ q => q, fun _ _ _ => ⟨rfl, trivial⟩⟩ rfl rfl hl.1 rfl (lv_room (Nat.le_of_ble_eq_true rfl)) d_Ma_execute_76 ⟨Nat.le_of_ble_eq_true rfl, Nat.le_of_ble_eq_true rfl⟩)) (fun r2 e2 => ?_)
    subst e2
    exact W.lret hx hb hr (fun t ht hW => ⟨⟨_, _, rfl, ⟨(by rw [hm1, m_Ma_execute_l1, if_pos h1, if_pos h2]), (by rw [hm1, m_Ma_execute_l1, if_pos h1, if_pos h2])⟩, CG_at hP hK hN ht hW⟩, hS.F ht⟩) hS.2.2 d_Ma_execute_79
  refine lv_aload_n hx hb d_Ma_execute_22 rfl (lv_at hl 0 rfl) ?_
  refine va_get (D := D) (ci := 4) (v := .int M1.2.2.2.2.2.1) (C := R_Ma) (T := F_Ma) (N := 8) hx hb hts in_Ma hown hK hP 11 rfl rfl 5 (by decide) (hts _ wd_188) (fun _ h9 => h9) rfl d_Ma_execute_23 ?_
  refine lv_aload_n hx hb d_Ma_execute_26 rfl (lv_at hl 1 rfl) ?_
  refine va_get (D := D) (ci := 6) (v := .int g.1) (C := R_Pr) (T := F_Pr) (N := 2) hx hb hts in_Pr hown hK hP 7 rfl rfl 1 (by decide) (hts _ wd_157) (fun _ h9 => h9) rfl d_Ma_execute_27 ?_
  refine lv_icmp_ge (tgt := 72) hx hb d_Ma_execute_30 (by decide) (fun h3 => ?_) (fun h3 => ?_)
  · refine lv_aload_n hx hb d_Ma_execute_72 rfl (lv_at hl 0 rfl) ?_
    refine va_get (D := D) (ci := 4) (v := .int M1.2.2.2.2.2.2.2) (C := R_Ma) (T := F_Ma) (N := 8) hx hb hts in_Ma hown hK hP 11 rfl rfl 7 (by decide) (hts _ wd_190) (fun _ h9 => h9) rfl d_Ma_execute_73 ?_
    refine vp_callSl (va_Run.run (va_runSN (As := [.int M1.2.2.2.2.2.2.2]) (rest := []) ⟨hx, hb, hml, hown, hts⟩ (c_F_unsigned l M1.2.2.2.2.2.2.2) ⟨va_cnB 1 hts (g_in wd_302) rfl rfl rfl hN.2.2.2.2.2.2.1 (hts _ wd_26) (by decide +kernel) ⟨Nat.le_of_ble_eq_true rfl, Nat.le_of_ble_eq_true rfl⟩, hts _ wd_301, trivial⟩ ⟨fun _ _ _ _ q => q, fun _ _ _ => ⟨rfl, trivial⟩⟩ rfl rfl hl.1 rfl (lv_room (Nat.le_of_ble_eq_true rfl)) d_Ma_execute_76 ⟨Nat.le_of_ble_eq_true rfl, Nat.le_of_ble_eq_true rfl⟩)) (fun r3 e3 => ?_)
    subst e3
    exact W.lret hx hb hr (fun t ht hW => ⟨⟨_, _, rfl, ⟨(by rw [hm1, m_Ma_execute_l1, if_pos h1, if_neg h2, if_pos h3]), (by rw [hm1, m_Ma_execute_l1, if_pos h1, if_neg h2, if_pos h3])⟩, CG_at hP hK hN ht hW⟩, hS.F ht⟩) hS.2.2 d_Ma_execute_79
  refine lv_aload_n hx hb d_Ma_execute_33 rfl (lv_at hl 1 rfl) ?_
  refine va_get (D := D) (ci := 6) (v := .ref (ad 8)) (C := R_Pr) (T := F_Pr) (N := 2) hx hb hts in_Pr hown hK hP 7 rfl rfl 0 (by decide) (hts _ wd_154) (fun _ h9 => h9) rfl d_Ma_execute_34 ?_
  refine lv_aload_n hx hb d_Ma_execute_37 rfl (lv_at hl 0 rfl) ?_
  refine va_get (D := D) (ci := 4) (v := .int M1.2.2.2.2.2.1) (C := R_Ma) (T := F_Ma) (N := 8) hx hb hts in_Ma hown hK hP 11 rfl rfl 5 (by decide) (hts _ wd_188) (fun _ h9 => h9) rfl d_Ma_execute_38 ?_
  refine va_lald (n := 64) (f := g.2) hx hb hK hP 8 1 rfl rfl (ex_i hg hJ (by assumption)) d_Ma_execute_41 ?_
  refine lv_lstore_n hx hb d_Ma_execute_42 rfl hl (by decide) rfl (fun ls hl => ?_)
  have hl : lv_has ls 5 [(3, .long (g.2 M1.2.2.2.2.2.1.toNatClampNeg)), (0, .ref (ad 11)), (1, .ref (ad 7)), (2, .ref (ad 1))] := hl
  refine lv_aload_n hx hb d_Ma_execute_43 rfl (lv_at hl 1 rfl) ?_
  refine lv_dup hx hb d_Ma_execute_44 rfl ?_
  refine va_get (D := D) (ci := 4) (v := .int M1.2.2.2.2.2.1) (C := R_Ma) (T := F_Ma) (N := 8) hx hb hts in_Ma hown hK hP 11 rfl rfl 5 (by decide) (hts _ wd_188) (fun _ h9 => h9) rfl d_Ma_execute_45 ?_
  refine lv_iconst (v := 1) hx hb d_Ma_execute_48 (by decide) ?_
  refine lv_iadd hx hb d_Ma_execute_49 ?_
  refine va_put (D := D) (ci := 4) (v := .int (M1.2.2.2.2.2.1 + (1 : Int32))) (ty := .int) (C := R_Ma) (T := F_Ma) (N := 8) hx hb hts in_Ma t_Ma k_Ma n_Ma hown hK hP (wC_D hAd) hS 11 rfl rfl 5 (by decide) (hts _ wd_188) (fun _ h9 => h9) rfl (by decide +kernel) rfl rfl (Nat.le_of_ble_eq_true rfl) d_Ma_execute_50 (fun H locs hP _ hS => ?_)
  have hP : va_P D cls (wC ad dA w P g ss (M1.1, M1.2.1, M1.2.2.1, M1.2.2.2.1, M1.2.2.2.2.1, M1.2.2.2.2.2.1 + (1 : Int32), M1.2.2.2.2.2.2.1, M1.2.2.2.2.2.2.2)) H := hP
  refine lv_aload_n hx hb d_Ma_execute_53 rfl (lv_at hl 1 rfl) ?_
  refine lv_dup hx hb d_Ma_execute_54 rfl ?_
  refine va_get (D := D) (ci := 4) (v := .int M1.2.1) (C := R_Ma) (T := F_Ma) (N := 8) hx hb hts in_Ma hown hK hP 11 rfl rfl 1 (by decide) (hts _ wd_183) (fun _ h9 => h9) rfl d_Ma_execute_55 ?_
  refine lv_iconst (v := 1) hx hb d_Ma_execute_58 (by decide) ?_
  refine lv_iadd hx hb d_Ma_execute_59 ?_
  refine va_put (D := D) (ci := 4) (v := .int (M1.2.1 + (1 : Int32))) (ty := .int) (C := R_Ma) (T := F_Ma) (N := 8) hx hb hts in_Ma t_Ma k_Ma n_Ma hown hK hP (wC_D hAd) hS 11 rfl rfl 1 (by decide) (hts _ wd_183) (fun _ h9 => h9) rfl (by decide +kernel) rfl rfl (Nat.le_of_ble_eq_true rfl) d_Ma_execute_60 (fun H locs hP _ hS => ?_)
  have hP : va_P D cls (wC ad dA w P g ss (M1.1, M1.2.1 + (1 : Int32), M1.2.2.1, M1.2.2.2.1, M1.2.2.2.2.1, M1.2.2.2.2.2.1 + (1 : Int32), M1.2.2.2.2.2.2.1, M1.2.2.2.2.2.2.2)) H := hP
  refine lv_aload_n hx hb d_Ma_execute_63 rfl (lv_at hl 1 rfl) ?_
  refine lv_lload_n hx hb d_Ma_execute_64 rfl (lv_at hl 0 rfl) ?_
  refine lv_aload_n hx hb d_Ma_execute_65 rfl (lv_at hl 3 rfl) ?_
  refine va_callv (va_runV (As := [.long (g.2 M1.2.2.2.2.2.1.toNatClampNeg), .ref (ad 1)]) (rest := []) ⟨hx, hb, hml, hown, hts⟩ (c_Ma_perform l D dA ad A hAd w P g ss (M1.1, M1.2.1 + (1 : Int32), M1.2.2.1, M1.2.2.2.1, M1.2.2.2.2.1, M1.2.2.2.2.2.1 + (1 : Int32), M1.2.2.2.2.2.2.1, M1.2.2.2.2.2.2.2) (g.2 M1.2.2.2.2.2.1.toNatClampNeg) (okz_of hg hok (ex_l hg hJ (by assumption)))) (cwV 2 hts (g_V wd_437 wd_439 wd_4 wd_34 wd_440) rfl rfl rfl (by decide +kernel) ⟨Nat.le_of_ble_eq_true rfl, Nat.le_of_ble_eq_true rfl⟩) ⟨CG_fb, (va_recv (ci := 4) (q := (R_Ma, F_Ma, 8)) (q0 := 11) hK hP rfl rfl), fun U hU hW => ⟨rfl, CG_at hP hK hN hU hW⟩⟩ rfl rfl hl.1 rfl (lv_room (Nat.le_of_ble_eq_true rfl)) d_Ma_execute_66 ⟨Nat.le_of_ble_eq_true rfl, Nat.le_of_ble_eq_true rfl⟩) hS (fun _ _ h => h) (fun _ h => h) (fun u2 t H locs ht hvm hu hB hz hk hS => ?_)
  subst hu
  obtain ⟨hP, -⟩ := hB
  rw [ht] at hP
  have hP : va_P D cls (wC ad dA w P g ss (m_Ma_perform w (M1.1, M1.2.1 + (1 : Int32), M1.2.2.1, M1.2.2.2.1, M1.2.2.2.2.1, M1.2.2.2.2.2.1 + (1 : Int32), M1.2.2.2.2.2.2.1, M1.2.2.2.2.2.2.2) (g.2 M1.2.2.2.2.2.1.toNatClampNeg))) H := hP
  refine lv_goto (tgt := 4) hx hb d_Ma_execute_69 (by decide) ?_
  exact ih1 (m_Ma_perform w (M1.1, M1.2.1 + (1 : Int32), M1.2.2.1, M1.2.2.2.1, M1.2.2.2.2.1, M1.2.2.2.2.2.1 + (1 : Int32), M1.2.2.2.2.2.2.1, M1.2.2.2.2.2.2.2) (g.2 M1.2.2.2.2.2.1.toNatClampNeg)) _ _ _ ⟨(ex_n hg hd (by assumption) hn1), (by rw [hm1, m_Ma_execute_l1, if_pos h1, if_neg h2, if_neg h3]), (lv_sub hl [1, 2, 3] rfl), hP, hS, (ex_d hg hd (by assumption)), (ex_j hg hok hJ (by assumption))⟩
def m_F_run (w : Nat → Int32) (g : GT) (ss : Nat → Int32) (M : MT) : Int64 × (Nat → Int32) × MT := if ((m_Ch_verdictOn g ss).1) = (0 : Int32) then ((m_Ma_execute w g M).1, ((m_Ch_verdictOn g ss).2), ((m_Ma_execute w g M).2)) else ((-1 : Int64), ((m_Ch_verdictOn g ss).2), (m_Ma_forget M))
set_option maxHeartbeats 4000000 in
set_option maxRecDepth 100000 in
theorem c_F_run (l : Launch) (D : va_G) (dA : Nat → ClassId) (ad : Nat → Nat) (A : Nat → Prop) (hAd : AdOK 49 ad A) (w : Nat → Int32) (P : PT) (g : GT) (ss : Nat → Int32) (M : MT) (hg : iN g.1 ≤ 64) : Met l y_F_run (mW y_F_run b_F_run 1 (some .long)) { frames := 5, cells := 0, slots := 0, locals := 116 } (va_Pc [.ref (ad 0)] (fun U => CG D dA ad w P g ss M U)) (va_Ql (fun (r : Int64) (u : (Nat → Int32) × MT) => r = (m_F_run w g ss M).1 ∧ u = (m_F_run w g ss M).2) (fun u t => CG D dA ad w P g u.1 u.2 t) A) 0 0 A := by
  refine Met.ofW (cc := b_F_run) (maxL := 1) (ret := (some .long)) (by decide) rfl ?_
  intro p e s m args below meth c s₁ B hml hv
  obtain ⟨rfl, hP, hK, hN⟩ := hv
  have hx := B.exec
  have hb := B.bytes
  have hr := B.returns
  have hlocks := B.notSynchronized
  have hts := fun (w : Cond) (h : w ∈ lw_g) => atoms_spec (ws := mW y_F_run b_F_run 1 (some .long)) B.pre w (List.mem_cons_of_mem _ h)
  have hown : s.vm.findClass R_F = some m.cls := findClass_of_methodNamed B.named
  have hS : va_S A s.heap s.heap [] := va_S.rf
  have hl := lv_entry ([.ref (ad 0)]) (n := 1) (Nat.le_of_ble_eq_true rfl)
  rw [lg_entry_eq]
  generalize (lg_sl ([.ref (ad 0)]) ++ List.replicate (1 - (lg_sl ([.ref (ad 0)])).length) Slot.unset).toArray = ls at hl ⊢
  have hl : lv_has ls 1 [(0, .ref (ad 0))] := hl
  refine lv_aload_n hx hb d_F_run_0 rfl (lv_at hl 0 rfl) ?_
  refine va_get (D := D) (ci := 8) (v := .ref (ad 9)) (C := R_F) (T := F_F) (N := 5) hx hb hts in_F hown hK hP 0 rfl rfl 3 (by decide) (hts _ wd_211) (fun _ h9 => h9) rfl d_F_run_1 ?_
  refine lv_aload_n hx hb d_F_run_4 rfl (lv_at hl 0 rfl) ?_
  refine va_get (D := D) (ci := 8) (v := .ref (ad 7)) (C := R_F) (T := F_F) (N := 5) hx hb hts in_F hown hK hP 0 rfl rfl 2 (by decide) (hts _ wd_210) (fun _ h9 => h9) rfl d_F_run_5 ?_
  refine va_calli (va_runV (As := [.ref (ad 7)]) (rest := []) ⟨hx, hb, hml, hown, hts⟩ (c_Ch_verdictOn l D dA ad A hAd w P g ss M hg) (cwV 1 hts (g_V wd_356 wd_357 wd_358 wd_33 wd_359) rfl rfl rfl (by decide +kernel) ⟨Nat.le_of_ble_eq_true rfl, Nat.le_of_ble_eq_true rfl⟩) ⟨CG_fb, (va_recv (ci := 2) (q := (R_Ch, F_Ch, 1)) (q0 := 9) hK hP rfl rfl), fun U hU hW => ⟨rfl, CG_at hP hK hN hU hW⟩⟩ rfl rfl hl.1 rfl (lv_room (Nat.le_of_ble_eq_true rfl)) d_F_run_8 ⟨Nat.le_of_ble_eq_true rfl, Nat.le_of_ble_eq_true rfl⟩) hS (fun _ _ h => h) (fun _ h => h) (fun r1 u1 t H locs ht hvm hu hB hz hk hS => ?_)
  obtain ⟨rfl, rfl⟩ := hu
  obtain ⟨hP, -⟩ := hB
  rw [ht] at hP
  have hP : va_P D cls (wC ad dA w P g ((m_Ch_verdictOn g ss).2) M) H := hP
  refine lv_if_eq (tgt := 25) hx hb d_F_run_11 (by decide) (fun h1 => ?_) (fun h1 => ?_)
  · refine lv_aload_n hx hb d_F_run_25 rfl (lv_at hl 0 rfl) ?_
    refine va_get (D := D) (ci := 8) (v := .ref (ad 11)) (C := R_F) (T := F_F) (N := 5) hx hb hts in_F hown hK hP 0 rfl rfl 4 (by decide) (hts _ wd_212) (fun _ h9 => h9) rfl d_F_run_26 ?_
    refine lv_aload_n hx hb d_F_run_29 rfl (lv_at hl 0 rfl) ?_
    refine va_get (D := D) (ci := 8) (v := .ref (ad 7)) (C := R_F) (T := F_F) (N := 5) hx hb hts in_F hown hK hP 0 rfl rfl 2 (by decide) (hts _ wd_210) (fun _ h9 => h9) rfl d_F_run_30 ?_
    refine lv_aload_n hx hb d_F_run_33 rfl (lv_at hl 0 rfl) ?_
    refine va_get (D := D) (ci := 8) (v := .ref (ad 1)) (C := R_F) (T := F_F) (N := 5) hx hb hts in_F hown hK hP 0 rfl rfl 0 (by decide) (hts _ wd_208) (fun _ h9 => h9) rfl d_F_run_34 ?_
    refine va_calll (va_runV (As := [.ref (ad 7), .ref (ad 1)]) (rest := []) ⟨hx, hb, hml, hown, hts⟩ (c_Ma_execute l D dA ad A hAd w P g ((m_Ch_verdictOn g ss).2) M hg (vd_ok hg (by assumption)) (vd_end hg (by assumption))) (cwV 2 hts (g_V wd_428 wd_429 wd_430 wd_34 wd_431) rfl rfl rfl (by decide +kernel) ⟨Nat.le_of_ble_eq_true rfl, Nat.le_of_ble_eq_true rfl⟩) ⟨CG_fb, (va_recv (ci := 4) (q := (R_Ma, F_Ma, 8)) (q0 := 11) hK hP rfl rfl), fun U hU hW => ⟨rfl, CG_at hP hK hN hU hW⟩⟩ rfl rfl hl.1 rfl (lv_room (Nat.le_of_ble_eq_true rfl)) d_F_run_37 ⟨Nat.le_of_ble_eq_true rfl, Nat.le_of_ble_eq_true rfl⟩) hS (fun _ _ h => h) (fun _ h => h) (fun r2 u2 t H locs ht hvm hu hB hz hk hS => ?_)
    obtain ⟨rfl, rfl⟩ := hu
    obtain ⟨hP, -⟩ := hB
    rw [ht] at hP
    have hP : va_P D cls (wC ad dA w P g ((m_Ch_verdictOn g ss).2) ((m_Ma_execute w g M).2)) H := hP
    exact W.lret hx hb hr (fun t ht hW => ⟨⟨_, _, rfl, ⟨(by rw [m_F_run, if_pos h1]), (by rw [m_F_run, if_pos h1])⟩, CG_at hP hK hN ht hW⟩, hS.F ht⟩) hS.2.2 d_F_run_40
  refine lv_aload_n hx hb d_F_run_14 rfl (lv_at hl 0 rfl) ?_
  refine va_get (D := D) (ci := 8) (v := .ref (ad 11)) (C := R_F) (T := F_F) (N := 5) hx hb hts in_F hown hK hP 0 rfl rfl 4 (by decide) (hts _ wd_212) (fun _ h9 => h9) rfl d_F_run_15 ?_
  refine va_callv (va_runV (As := []) (rest := []) ⟨hx, hb, hml, hown, hts⟩ (c_Ma_forget l D dA ad A hAd w P g ((m_Ch_verdictOn g ss).2) M) (cwV 0 hts (g_V wd_423 wd_424 wd_425 wd_34 wd_426) rfl rfl rfl (by decide +kernel) ⟨Nat.le_of_ble_eq_true rfl, Nat.le_of_ble_eq_true rfl⟩) ⟨CG_fb, (va_recv (ci := 4) (q := (R_Ma, F_Ma, 8)) (q0 := 11) hK hP rfl rfl), fun U hU hW => ⟨rfl, CG_at hP hK hN hU hW⟩⟩ rfl rfl hl.1 rfl (lv_room (Nat.le_of_ble_eq_true rfl)) d_F_run_18 ⟨Nat.le_of_ble_eq_true rfl, Nat.le_of_ble_eq_true rfl⟩) hS (fun _ _ h => h) (fun _ h => h) (fun u3 t H locs ht hvm hu hB hz hk hS => ?_)
  subst hu
  obtain ⟨hP, -⟩ := hB
  rw [ht] at hP
  have hP : va_P D cls (wC ad dA w P g ((m_Ch_verdictOn g ss).2) (m_Ma_forget M)) H := hP
  refine lv_ldc2 (v := -1) hx hb hown (hts _ wd_427) d_F_run_21 ?_
  exact W.lret hx hb hr (fun t ht hW => ⟨⟨_, _, rfl, ⟨(by rw [m_F_run, if_neg h1]), (by rw [m_F_run, if_neg h1])⟩, CG_at hP hK hN ht hW⟩, hS.F ht⟩) hS.2.2 d_F_run_24
end
