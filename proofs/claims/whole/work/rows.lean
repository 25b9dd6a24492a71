section
-- ===== PART A: goes FIRST, ahead of the names: the tables' words, and 'selects' of the private methods out of them =====
/-- a private method of a class that the tables say can be made, by its rows of tables_1 -/
def lw_okq (q : MethodName × Nat) : Prop := (q.1.cls ≠ "java/lang/invoke/MethodHandle" ∧ q.1.cls ≠ "java/lang/invoke/VarHandle") ∧ Cond.instantiable q.1.cls q.2 ∈ tables_1 ∧ Cond.privateMethod q.1 ∈ tables_1 ∧ Cond.instanceMethod q.1 ∈ tables_1
theorem lw_p0 : lw_okq (⟨"PipeComputer$Scheduler", "findLeaders", "()V"⟩, 4) := ⟨⟨by decide +kernel, by decide +kernel⟩, List.mem_of_getElem? (i := 120) (by decide +kernel), List.mem_of_getElem? (i := 225) (by decide +kernel), List.mem_of_getElem? (i := 226) (by decide +kernel)⟩
theorem lw_p1 : lw_okq (⟨"PipeComputer$Scheduler", "endOfBlock", "(I)I"⟩, 4) := ⟨⟨by decide +kernel, by decide +kernel⟩, List.mem_of_getElem? (i := 120) (by decide +kernel), List.mem_of_getElem? (i := 245) (by decide +kernel), List.mem_of_getElem? (i := 246) (by decide +kernel)⟩
theorem lw_p2 : lw_okq (⟨"PipeComputer$Scheduler", "reorderBlock", "([LPipeComputer$Instruction;II)I"⟩, 4) := ⟨⟨by decide +kernel, by decide +kernel⟩, List.mem_of_getElem? (i := 120) (by decide +kernel), List.mem_of_getElem? (i := 249) (by decide +kernel), List.mem_of_getElem? (i := 250) (by decide +kernel)⟩
theorem lw_p3 : lw_okq (⟨"PipeComputer$Scheduler", "findHeights", "(II)V"⟩, 4) := ⟨⟨by decide +kernel, by decide +kernel⟩, List.mem_of_getElem? (i := 120) (by decide +kernel), List.mem_of_getElem? (i := 253) (by decide +kernel), List.mem_of_getElem? (i := 254) (by decide +kernel)⟩
theorem lw_p4 : lw_okq (⟨"PipeComputer$Instruction", "keepsItsTurn", "()Z"⟩, 8) := ⟨⟨by decide +kernel, by decide +kernel⟩, List.mem_of_getElem? (i := 140) (by decide +kernel), List.mem_of_getElem? (i := 265) (by decide +kernel), List.mem_of_getElem? (i := 266) (by decide +kernel)⟩
theorem lw_p5 : lw_okq (⟨"PipeComputer$Scheduler", "nextToPlace", "(III)I"⟩, 4) := ⟨⟨by decide +kernel, by decide +kernel⟩, List.mem_of_getElem? (i := 120) (by decide +kernel), List.mem_of_getElem? (i := 279) (by decide +kernel), List.mem_of_getElem? (i := 280) (by decide +kernel)⟩
theorem lw_p6 : lw_okq (⟨"java/lang/Throwable", "fillInStackTrace", "(I)Ljava/lang/Throwable;"⟩, 6) := ⟨⟨by decide +kernel, by decide +kernel⟩, List.mem_of_getElem? (i := 337) (by decide +kernel), List.mem_of_getElem? (i := 335) (by decide +kernel), List.mem_of_getElem? (i := 336) (by decide +kernel)⟩
theorem lw_p7 : lw_okq (⟨"PipeComputer", "doOne", "()V"⟩, 12) := ⟨⟨by decide +kernel, by decide +kernel⟩, List.mem_of_getElem? (i := 19) (by decide +kernel), List.mem_of_getElem? (i := 428) (by decide +kernel), List.mem_of_getElem? (i := 429) (by decide +kernel)⟩
theorem lw_p8 : lw_okq (⟨"PipeComputer", "moveCell", "(LPipeComputer$Instruction;)Z"⟩, 12) := ⟨⟨by decide +kernel, by decide +kernel⟩, List.mem_of_getElem? (i := 19) (by decide +kernel), List.mem_of_getElem? (i := 440) (by decide +kernel), List.mem_of_getElem? (i := 441) (by decide +kernel)⟩
theorem lw_p9 : lw_okq (⟨"PipeComputer", "putWhole", "(II)V"⟩, 12) := ⟨⟨by decide +kernel, by decide +kernel⟩, List.mem_of_getElem? (i := 19) (by decide +kernel), List.mem_of_getElem? (i := 459) (by decide +kernel), List.mem_of_getElem? (i := 460) (by decide +kernel)⟩
theorem lw_p10 : lw_okq (⟨"PipeComputer", "jumpIsDue", "(LPipeComputer$Instruction;)Z"⟩, 12) := ⟨⟨by decide +kernel, by decide +kernel⟩, List.mem_of_getElem? (i := 19) (by decide +kernel), List.mem_of_getElem? (i := 468) (by decide +kernel), List.mem_of_getElem? (i := 469) (by decide +kernel)⟩
theorem lw_p11 : lw_okq (⟨"PipeComputer", "compute", "(LPipeComputer$Instruction;)V"⟩, 12) := ⟨⟨by decide +kernel, by decide +kernel⟩, List.mem_of_getElem? (i := 19) (by decide +kernel), List.mem_of_getElem? (i := 480) (by decide +kernel), List.mem_of_getElem? (i := 481) (by decide +kernel)⟩
theorem lw_p12 : lw_okq (⟨"PipeComputer", "computedWhole", "(LPipeComputer$Instruction;)I"⟩, 12) := ⟨⟨by decide +kernel, by decide +kernel⟩, List.mem_of_getElem? (i := 19) (by decide +kernel), List.mem_of_getElem? (i := 484) (by decide +kernel), List.mem_of_getElem? (i := 485) (by decide +kernel)⟩
theorem lw_p13 : lw_okq (⟨"PipeComputer", "computedFraction", "(IDD)D"⟩, 12) := ⟨⟨by decide +kernel, by decide +kernel⟩, List.mem_of_getElem? (i := 19) (by decide +kernel), List.mem_of_getElem? (i := 488) (by decide +kernel), List.mem_of_getElem? (i := 489) (by decide +kernel)⟩
theorem lw_p14 : lw_okq (⟨"PipeComputer", "outcomeOf", "(IDD)D"⟩, 12) := ⟨⟨by decide +kernel, by decide +kernel⟩, List.mem_of_getElem? (i := 19) (by decide +kernel), List.mem_of_getElem? (i := 492) (by decide +kernel), List.mem_of_getElem? (i := 493) (by decide +kernel)⟩
theorem lw_p15 : lw_okq (⟨"PipeComputer", "quotient", "(DD)D"⟩, 12) := ⟨⟨by decide +kernel, by decide +kernel⟩, List.mem_of_getElem? (i := 19) (by decide +kernel), List.mem_of_getElem? (i := 496) (by decide +kernel), List.mem_of_getElem? (i := 497) (by decide +kernel)⟩
def lw_privs_1 : List (MethodName × Nat) := [(⟨"PipeComputer$Scheduler", "findLeaders", "()V"⟩, 4), (⟨"PipeComputer$Scheduler", "endOfBlock", "(I)I"⟩, 4), (⟨"PipeComputer$Scheduler", "reorderBlock", "([LPipeComputer$Instruction;II)I"⟩, 4), (⟨"PipeComputer$Scheduler", "findHeights", "(II)V"⟩, 4), (⟨"PipeComputer$Instruction", "keepsItsTurn", "()Z"⟩, 8), (⟨"PipeComputer$Scheduler", "nextToPlace", "(III)I"⟩, 4), (⟨"java/lang/Throwable", "fillInStackTrace", "(I)Ljava/lang/Throwable;"⟩, 6), (⟨"PipeComputer", "doOne", "()V"⟩, 12), (⟨"PipeComputer", "moveCell", "(LPipeComputer$Instruction;)Z"⟩, 12), (⟨"PipeComputer", "putWhole", "(II)V"⟩, 12), (⟨"PipeComputer", "jumpIsDue", "(LPipeComputer$Instruction;)Z"⟩, 12), (⟨"PipeComputer", "compute", "(LPipeComputer$Instruction;)V"⟩, 12), (⟨"PipeComputer", "computedWhole", "(LPipeComputer$Instruction;)I"⟩, 12), (⟨"PipeComputer", "computedFraction", "(IDD)D"⟩, 12), (⟨"PipeComputer", "outcomeOf", "(IDD)D"⟩, 12), (⟨"PipeComputer", "quotient", "(DD)D"⟩, 12)]
theorem lw_r1 : ∀ q ∈ lw_privs_1, lw_okq q := List.forall_mem_cons.mpr ⟨lw_p0, List.forall_mem_cons.mpr ⟨lw_p1, List.forall_mem_cons.mpr ⟨lw_p2, List.forall_mem_cons.mpr ⟨lw_p3, List.forall_mem_cons.mpr ⟨lw_p4, List.forall_mem_cons.mpr ⟨lw_p5, List.forall_mem_cons.mpr ⟨lw_p6, List.forall_mem_cons.mpr ⟨lw_p7, List.forall_mem_cons.mpr ⟨lw_p8, List.forall_mem_cons.mpr ⟨lw_p9, List.forall_mem_cons.mpr ⟨lw_p10, List.forall_mem_cons.mpr ⟨lw_p11, List.forall_mem_cons.mpr ⟨lw_p12, List.forall_mem_cons.mpr ⟨lw_p13, List.forall_mem_cons.mpr ⟨lw_p14, List.forall_mem_cons.mpr ⟨lw_p15, fun _ h => absurd h List.not_mem_nil⟩⟩⟩⟩⟩⟩⟩⟩⟩⟩⟩⟩⟩⟩⟩⟩
theorem lw_p16 : lw_okq (⟨"PipeComputer$Clock", "beginning", "(LPipeComputer$Instruction;IZ)I"⟩, 5) := ⟨⟨by decide +kernel, by decide +kernel⟩, List.mem_of_getElem? (i := 29) (by decide +kernel), List.mem_of_getElem? (i := 522) (by decide +kernel), List.mem_of_getElem? (i := 523) (by decide +kernel)⟩
theorem lw_p17 : lw_okq (⟨"PipeComputer$Clock", "readyTime", "(I)I"⟩, 5) := ⟨⟨by decide +kernel, by decide +kernel⟩, List.mem_of_getElem? (i := 29) (by decide +kernel), List.mem_of_getElem? (i := 526) (by decide +kernel), List.mem_of_getElem? (i := 527) (by decide +kernel)⟩
theorem lw_p18 : lw_okq (⟨"PipeComputerModel", "reset", "()V"⟩, 29) := ⟨⟨by decide +kernel, by decide +kernel⟩, List.mem_of_getElem? (i := 561) (by decide +kernel), List.mem_of_getElem? (i := 567) (by decide +kernel), List.mem_of_getElem? (i := 568) (by decide +kernel)⟩
theorem lw_p19 : lw_okq (⟨"PipeComputerModel", "bad", "(Z)Z"⟩, 29) := ⟨⟨by decide +kernel, by decide +kernel⟩, List.mem_of_getElem? (i := 561) (by decide +kernel), List.mem_of_getElem? (i := 670) (by decide +kernel), List.mem_of_getElem? (i := 671) (by decide +kernel)⟩
theorem lw_p20 : lw_okq (⟨"PipeComputerModel", "doOne", "()V"⟩, 29) := ⟨⟨by decide +kernel, by decide +kernel⟩, List.mem_of_getElem? (i := 561) (by decide +kernel), List.mem_of_getElem? (i := 688) (by decide +kernel), List.mem_of_getElem? (i := 689) (by decide +kernel)⟩
theorem lw_p21 : lw_okq (⟨"PipeComputerModel", "missGroup", "(I)Z"⟩, 29) := ⟨⟨by decide +kernel, by decide +kernel⟩, List.mem_of_getElem? (i := 561) (by decide +kernel), List.mem_of_getElem? (i := 692) (by decide +kernel), List.mem_of_getElem? (i := 693) (by decide +kernel)⟩
theorem lw_p22 : lw_okq (⟨"PipeComputerModel", "trouble", "(I)I"⟩, 29) := ⟨⟨by decide +kernel, by decide +kernel⟩, List.mem_of_getElem? (i := 561) (by decide +kernel), List.mem_of_getElem? (i := 696) (by decide +kernel), List.mem_of_getElem? (i := 697) (by decide +kernel)⟩
theorem lw_p23 : lw_okq (⟨"PipeComputerModel", "reckon", "(IDD)D"⟩, 29) := ⟨⟨by decide +kernel, by decide +kernel⟩, List.mem_of_getElem? (i := 561) (by decide +kernel), List.mem_of_getElem? (i := 700) (by decide +kernel), List.mem_of_getElem? (i := 701) (by decide +kernel)⟩
theorem lw_p24 : lw_okq (⟨"PipeComputerModel", "missLine", "(I)Z"⟩, 29) := ⟨⟨by decide +kernel, by decide +kernel⟩, List.mem_of_getElem? (i := 561) (by decide +kernel), List.mem_of_getElem? (i := 706) (by decide +kernel), List.mem_of_getElem? (i := 707) (by decide +kernel)⟩
theorem lw_p25 : lw_okq (⟨"PipeComputerModel", "target", "(I)I"⟩, 29) := ⟨⟨by decide +kernel, by decide +kernel⟩, List.mem_of_getElem? (i := 561) (by decide +kernel), List.mem_of_getElem? (i := 710) (by decide +kernel), List.mem_of_getElem? (i := 711) (by decide +kernel)⟩
theorem lw_p26 : lw_okq (⟨"PipeComputerModel", "latency", "(I)I"⟩, 29) := ⟨⟨by decide +kernel, by decide +kernel⟩, List.mem_of_getElem? (i := 561) (by decide +kernel), List.mem_of_getElem? (i := 714) (by decide +kernel), List.mem_of_getElem? (i := 715) (by decide +kernel)⟩
theorem lw_p27 : lw_okq (⟨"PipeComputerModel", "first", "(I)I"⟩, 29) := ⟨⟨by decide +kernel, by decide +kernel⟩, List.mem_of_getElem? (i := 561) (by decide +kernel), List.mem_of_getElem? (i := 718) (by decide +kernel), List.mem_of_getElem? (i := 719) (by decide +kernel)⟩
theorem lw_p28 : lw_okq (⟨"PipeComputerModel", "second", "(I)I"⟩, 29) := ⟨⟨by decide +kernel, by decide +kernel⟩, List.mem_of_getElem? (i := 561) (by decide +kernel), List.mem_of_getElem? (i := 725) (by decide +kernel), List.mem_of_getElem? (i := 726) (by decide +kernel)⟩
theorem lw_p29 : lw_okq (⟨"PipeComputerModel", "compute", "(I)V"⟩, 29) := ⟨⟨by decide +kernel, by decide +kernel⟩, List.mem_of_getElem? (i := 561) (by decide +kernel), List.mem_of_getElem? (i := 729) (by decide +kernel), List.mem_of_getElem? (i := 730) (by decide +kernel)⟩
theorem lw_p30 : lw_okq (⟨"PipeComputerModel", "put", "(II)V"⟩, 29) := ⟨⟨by decide +kernel, by decide +kernel⟩, List.mem_of_getElem? (i := 561) (by decide +kernel), List.mem_of_getElem? (i := 733) (by decide +kernel), List.mem_of_getElem? (i := 734) (by decide +kernel)⟩
theorem lw_p31 : lw_okq (⟨"PipeComputerModel", "next", "(I)I"⟩, 29) := ⟨⟨by decide +kernel, by decide +kernel⟩, List.mem_of_getElem? (i := 561) (by decide +kernel), List.mem_of_getElem? (i := 737) (by decide +kernel), List.mem_of_getElem? (i := 738) (by decide +kernel)⟩
def lw_privs_2 : List (MethodName × Nat) := [(⟨"PipeComputer$Clock", "beginning", "(LPipeComputer$Instruction;IZ)I"⟩, 5), (⟨"PipeComputer$Clock", "readyTime", "(I)I"⟩, 5), (⟨"PipeComputerModel", "reset", "()V"⟩, 29), (⟨"PipeComputerModel", "bad", "(Z)Z"⟩, 29), (⟨"PipeComputerModel", "doOne", "()V"⟩, 29), (⟨"PipeComputerModel", "missGroup", "(I)Z"⟩, 29), (⟨"PipeComputerModel", "trouble", "(I)I"⟩, 29), (⟨"PipeComputerModel", "reckon", "(IDD)D"⟩, 29), (⟨"PipeComputerModel", "missLine", "(I)Z"⟩, 29), (⟨"PipeComputerModel", "target", "(I)I"⟩, 29), (⟨"PipeComputerModel", "latency", "(I)I"⟩, 29), (⟨"PipeComputerModel", "first", "(I)I"⟩, 29), (⟨"PipeComputerModel", "second", "(I)I"⟩, 29), (⟨"PipeComputerModel", "compute", "(I)V"⟩, 29), (⟨"PipeComputerModel", "put", "(II)V"⟩, 29), (⟨"PipeComputerModel", "next", "(I)I"⟩, 29)]
theorem lw_r2 : ∀ q ∈ lw_privs_2, lw_okq q := List.forall_mem_cons.mpr ⟨lw_p16, List.forall_mem_cons.mpr ⟨lw_p17, List.forall_mem_cons.mpr ⟨lw_p18, List.forall_mem_cons.mpr ⟨lw_p19, List.forall_mem_cons.mpr ⟨lw_p20, List.forall_mem_cons.mpr ⟨lw_p21, List.forall_mem_cons.mpr ⟨lw_p22, List.forall_mem_cons.mpr ⟨lw_p23, List.forall_mem_cons.mpr ⟨lw_p24, List.forall_mem_cons.mpr ⟨lw_p25, List.forall_mem_cons.mpr ⟨lw_p26, List.forall_mem_cons.mpr ⟨lw_p27, List.forall_mem_cons.mpr ⟨lw_p28, List.forall_mem_cons.mpr ⟨lw_p29, List.forall_mem_cons.mpr ⟨lw_p30, List.forall_mem_cons.mpr ⟨lw_p31, fun _ h => absurd h List.not_mem_nil⟩⟩⟩⟩⟩⟩⟩⟩⟩⟩⟩⟩⟩⟩⟩⟩
theorem lw_p32 : lw_okq (⟨"PipeComputerModel", "leader", "(I)Z"⟩, 29) := ⟨⟨by decide +kernel, by decide +kernel⟩, List.mem_of_getElem? (i := 561) (by decide +kernel), List.mem_of_getElem? (i := 748) (by decide +kernel), List.mem_of_getElem? (i := 749) (by decide +kernel)⟩
theorem lw_p33 : lw_okq (⟨"PipeComputerModel", "findHeights", "(II)V"⟩, 29) := ⟨⟨by decide +kernel, by decide +kernel⟩, List.mem_of_getElem? (i := 561) (by decide +kernel), List.mem_of_getElem? (i := 752) (by decide +kernel), List.mem_of_getElem? (i := 753) (by decide +kernel)⟩
theorem lw_p34 : lw_okq (⟨"PipeComputerModel", "tied", "(II)Z"⟩, 29) := ⟨⟨by decide +kernel, by decide +kernel⟩, List.mem_of_getElem? (i := 561) (by decide +kernel), List.mem_of_getElem? (i := 756) (by decide +kernel), List.mem_of_getElem? (i := 757) (by decide +kernel)⟩
theorem lw_p35 : lw_okq (⟨"PipeComputerModel", "reads", "(II)Z"⟩, 29) := ⟨⟨by decide +kernel, by decide +kernel⟩, List.mem_of_getElem? (i := 561) (by decide +kernel), List.mem_of_getElem? (i := 760) (by decide +kernel), List.mem_of_getElem? (i := 761) (by decide +kernel)⟩
theorem lw_p36 : lw_okq (⟨"PipeComputerModel", "free", "(II)Z"⟩, 29) := ⟨⟨by decide +kernel, by decide +kernel⟩, List.mem_of_getElem? (i := 561) (by decide +kernel), List.mem_of_getElem? (i := 764) (by decide +kernel), List.mem_of_getElem? (i := 765) (by decide +kernel)⟩
theorem lw_p37 : lw_okq (⟨"PipeComputerModel", "move", "(II)V"⟩, 29) := ⟨⟨by decide +kernel, by decide +kernel⟩, List.mem_of_getElem? (i := 561) (by decide +kernel), List.mem_of_getElem? (i := 768) (by decide +kernel), List.mem_of_getElem? (i := 769) (by decide +kernel)⟩
def lw_privs_3 : List (MethodName × Nat) := [(⟨"PipeComputerModel", "leader", "(I)Z"⟩, 29), (⟨"PipeComputerModel", "findHeights", "(II)V"⟩, 29), (⟨"PipeComputerModel", "tied", "(II)Z"⟩, 29), (⟨"PipeComputerModel", "reads", "(II)Z"⟩, 29), (⟨"PipeComputerModel", "free", "(II)Z"⟩, 29), (⟨"PipeComputerModel", "move", "(II)V"⟩, 29)]
theorem lw_r3 : ∀ q ∈ lw_privs_3, lw_okq q := List.forall_mem_cons.mpr ⟨lw_p32, List.forall_mem_cons.mpr ⟨lw_p33, List.forall_mem_cons.mpr ⟨lw_p34, List.forall_mem_cons.mpr ⟨lw_p35, List.forall_mem_cons.mpr ⟨lw_p36, List.forall_mem_cons.mpr ⟨lw_p37, fun _ h => absurd h List.not_mem_nil⟩⟩⟩⟩⟩⟩
def lw_privs : List (MethodName × Nat) := lw_privs_1 ++ (lw_privs_2 ++ (lw_privs_3))
def lw_tbl : List Cond := k2_sels lw_privs ++ tables_1
theorem lw_privs_ok : ∀ q ∈ lw_privs, lw_okq q := by
  show ∀ q ∈ lw_privs_1 ++ (lw_privs_2 ++ (lw_privs_3)), lw_okq q
  exact List.forall_mem_append.mpr ⟨lw_r1, List.forall_mem_append.mpr ⟨lw_r2, lw_r3⟩⟩
-- ===== end of PART A; then your names; then what follows =====
end
section
/-! NAMES, by program (wip/whole/prog/names.py) out of the claim's javap text and tables -/
def R_Ck : String := "PipeComputer$Clock"
def F_Ck : u_T := fun k => match k with
  | 0 => ("PipeComputer$Clock", "ready", "[I", true)
  | 1 => ("PipeComputer$Clock", "began", "I", false)
  | 2 => ("PipeComputer$Clock", "dividerFree", "I", false)
  | 3 => ("PipeComputer$Clock", "memoryFree", "I", false)
  | _ => ("PipeComputer$Clock", "afterWrongJump", "Z", false)
def fy_Ck : Nat → FieldType := fun k => match k with
  | 0 => .array .int
  | 1 => .int
  | 2 => .int
  | 3 => .int
  | _ => .boolean
theorem fn_Ck : ∀ a, a < 5 → ∀ b, b < 5 → a ≠ b → (F_Ck a).2.1 ≠ (F_Ck b).2.1 := by decide +kernel
theorem fy_Ck_ok : ∀ k, k < 5 → parseFieldDescriptor (F_Ck k).2.2.1 = some (fy_Ck k) := by decide +kernel
def R_Cc : String := "PipeComputer$CodeCache"
def F_Cc : u_T := fun k => match k with
  | 0 => ("PipeComputer$CodeCache", "notFound", "I", false)
  | _ => ("PipeComputer$CodeCache", "groups", "[I", true)
def fy_Cc : Nat → FieldType := fun k => match k with
  | 0 => .int
  | _ => .array .int
theorem fn_Cc : ∀ a, a < 2 → ∀ b, b < 2 → a ≠ b → (F_Cc a).2.1 ≠ (F_Cc b).2.1 := by decide +kernel
theorem fy_Cc_ok : ∀ k, k < 2 → parseFieldDescriptor (F_Cc k).2.2.1 = some (fy_Cc k) := by decide +kernel
def R_Dc : String := "PipeComputer$DataCache"
def F_Dc : u_T := fun k => match k with
  | 0 => ("PipeComputer$DataCache", "notFound", "I", false)
  | 1 => ("PipeComputer$DataCache", "lines", "[I", true)
  | 2 => ("PipeComputer$DataCache", "latestUse", "[I", true)
  | _ => ("PipeComputer$DataCache", "uses", "I", false)
def fy_Dc : Nat → FieldType := fun k => match k with
  | 0 => .int
  | 1 => .array .int
  | 2 => .array .int
  | _ => .int
theorem fn_Dc : ∀ a, a < 4 → ∀ b, b < 4 → a ≠ b → (F_Dc a).2.1 ≠ (F_Dc b).2.1 := by decide +kernel
theorem fy_Dc_ok : ∀ k, k < 4 → parseFieldDescriptor (F_Dc k).2.2.1 = some (fy_Dc k) := by decide +kernel
def R_In : String := "PipeComputer$Instruction"
def F_In : u_T := fun k => match k with
  | 0 => ("PipeComputer$Instruction", "op", "I", false)
  | 1 => ("PipeComputer$Instruction", "d", "I", false)
  | 2 => ("PipeComputer$Instruction", "a", "I", false)
  | 3 => ("PipeComputer$Instruction", "b", "I", false)
  | 4 => ("PipeComputer$Instruction", "n", "I", false)
  | 5 => ("PipeComputer$Instruction", "written", "I", false)
  | 6 => ("PipeComputer$Instruction", "firstRead", "I", false)
  | _ => ("PipeComputer$Instruction", "secondRead", "I", false)
def fy_In : Nat → FieldType := fun k => match k with
  | 0 => .int
  | 1 => .int
  | 2 => .int
  | 3 => .int
  | 4 => .int
  | 5 => .int
  | 6 => .int
  | _ => .int
theorem fn_In : ∀ a, a < 8 → ∀ b, b < 8 → a ≠ b → (F_In a).2.1 ≠ (F_In b).2.1 := by decide +kernel
theorem fy_In_ok : ∀ k, k < 8 → parseFieldDescriptor (F_In k).2.2.1 = some (fy_In k) := by decide +kernel
def R_Pr : String := "PipeComputer$Predictor"
def F_Pr : u_T := fun k => match k with
  | 0 => ("PipeComputer$Predictor", "wrong", "I", false)
  | _ => ("PipeComputer$Predictor", "counters", "[I", true)
def fy_Pr : Nat → FieldType := fun k => match k with
  | 0 => .int
  | _ => .array .int
theorem fn_Pr : ∀ a, a < 2 → ∀ b, b < 2 → a ≠ b → (F_Pr a).2.1 ≠ (F_Pr b).2.1 := by decide +kernel
theorem fy_Pr_ok : ∀ k, k < 2 → parseFieldDescriptor (F_Pr k).2.2.1 = some (fy_Pr k) := by decide +kernel
def R_Sc : String := "PipeComputer$Scheduler"
def F_Sc : u_T := fun k => match k with
  | 0 => ("PipeComputer$Scheduler", "old", "[LPipeComputer$Instruction;", true)
  | 1 => ("PipeComputer$Scheduler", "leaders", "[Z", true)
  | 2 => ("PipeComputer$Scheduler", "heights", "[I", true)
  | _ => ("PipeComputer$Scheduler", "behind", "[I", true)
def fy_Sc : Nat → FieldType := fun k => match k with
  | 0 => .array (.object "PipeComputer$Instruction")
  | 1 => .array .boolean
  | 2 => .array .int
  | _ => .array .int
theorem fn_Sc : ∀ a, a < 4 → ∀ b, b < 4 → a ≠ b → (F_Sc a).2.1 ≠ (F_Sc b).2.1 := by decide +kernel
theorem fy_Sc_ok : ∀ k, k < 4 → parseFieldDescriptor (F_Sc k).2.2.1 = some (fy_Sc k) := by decide +kernel
def R_Pc : String := "PipeComputer"
def F_Pc : u_T := fun k => match k with
  | 0 => ("PipeComputer", "program", "[LPipeComputer$Instruction;", true)
  | 1 => ("PipeComputer", "cells", "[D", true)
  | 2 => ("PipeComputer", "wholes", "[I", true)
  | 3 => ("PipeComputer", "fractions", "[D", true)
  | 4 => ("PipeComputer", "clock", "LPipeComputer$Clock;", true)
  | 5 => ("PipeComputer", "codeCache", "LPipeComputer$CodeCache;", true)
  | 6 => ("PipeComputer", "dataCache", "LPipeComputer$DataCache;", true)
  | 7 => ("PipeComputer", "predictor", "LPipeComputer$Predictor;", true)
  | 8 => ("PipeComputer", "scheduler", "LPipeComputer$Scheduler;", true)
  | 9 => ("PipeComputer", "at", "I", false)
  | 10 => ("PipeComputer", "stopped", "Z", false)
  | _ => ("PipeComputer", "done", "I", false)
def fy_Pc : Nat → FieldType := fun k => match k with
  | 0 => .array (.object "PipeComputer$Instruction")
  | 1 => .array .double
  | 2 => .array .int
  | 3 => .array .double
  | 4 => .object "PipeComputer$Clock"
  | 5 => .object "PipeComputer$CodeCache"
  | 6 => .object "PipeComputer$DataCache"
  | 7 => .object "PipeComputer$Predictor"
  | 8 => .object "PipeComputer$Scheduler"
  | 9 => .int
  | 10 => .boolean
  | _ => .int
theorem fn_Pc : ∀ a, a < 12 → ∀ b, b < 12 → a ≠ b → (F_Pc a).2.1 ≠ (F_Pc b).2.1 := by decide +kernel
theorem fy_Pc_ok : ∀ k, k < 12 → parseFieldDescriptor (F_Pc k).2.2.1 = some (fy_Pc k) := by decide +kernel
def R_Mo : String := "PipeComputerModel"
def F_Mo : u_T := fun k => match k with
  | 0 => ("PipeComputerModel", "op", "[I", true)
  | 1 => ("PipeComputerModel", "d", "[I", true)
  | 2 => ("PipeComputerModel", "a", "[I", true)
  | 3 => ("PipeComputerModel", "b", "[I", true)
  | 4 => ("PipeComputerModel", "n", "[I", true)
  | 5 => ("PipeComputerModel", "whole", "[I", true)
  | 6 => ("PipeComputerModel", "ready", "[I", true)
  | 7 => ("PipeComputerModel", "group", "[I", true)
  | 8 => ("PipeComputerModel", "line", "[I", true)
  | 9 => ("PipeComputerModel", "used", "[I", true)
  | 10 => ("PipeComputerModel", "counter", "[I", true)
  | 11 => ("PipeComputerModel", "fraction", "[D", true)
  | 12 => ("PipeComputerModel", "memory", "[D", true)
  | 13 => ("PipeComputerModel", "height", "[I", true)
  | 14 => ("PipeComputerModel", "order", "[I", true)
  | 15 => ("PipeComputerModel", "kept", "[I", true)
  | 16 => ("PipeComputerModel", "placed", "[Z", true)
  | 17 => ("PipeComputerModel", "place", "I", false)
  | 18 => ("PipeComputerModel", "done", "I", false)
  | 19 => ("PipeComputerModel", "began", "I", false)
  | 20 => ("PipeComputerModel", "groupsMissed", "I", false)
  | 21 => ("PipeComputerModel", "linesMissed", "I", false)
  | 22 => ("PipeComputerModel", "wrongJumps", "I", false)
  | 23 => ("PipeComputerModel", "divider", "I", false)
  | 24 => ("PipeComputerModel", "memoryFree", "I", false)
  | 25 => ("PipeComputerModel", "clock", "I", false)
  | 26 => ("PipeComputerModel", "thrown", "I", false)
  | 27 => ("PipeComputerModel", "stopped", "Z", false)
  | _ => ("PipeComputerModel", "wrong", "Z", false)
def fy_Mo : Nat → FieldType := fun k => match k with
  | 0 => .array .int
  | 1 => .array .int
  | 2 => .array .int
  | 3 => .array .int
  | 4 => .array .int
  | 5 => .array .int
  | 6 => .array .int
  | 7 => .array .int
  | 8 => .array .int
  | 9 => .array .int
  | 10 => .array .int
  | 11 => .array .double
  | 12 => .array .double
  | 13 => .array .int
  | 14 => .array .int
  | 15 => .array .int
  | 16 => .array .boolean
  | 17 => .int
  | 18 => .int
  | 19 => .int
  | 20 => .int
  | 21 => .int
  | 22 => .int
  | 23 => .int
  | 24 => .int
  | 25 => .int
  | 26 => .int
  | 27 => .boolean
  | _ => .boolean
theorem fn_Mo : ∀ a, a < 29 → ∀ b, b < 29 → a ≠ b → (F_Mo a).2.1 ≠ (F_Mo b).2.1 := by decide +kernel
theorem fy_Mo_ok : ∀ k, k < 29 → parseFieldDescriptor (F_Mo k).2.2.1 = some (fy_Mo k) := by decide +kernel
def R_La : String := "PipeComputerLaw"
def R_Ar : String := "java/util/Arrays"
def R_Ma : String := "java/lang/Math"
abbrev classes : List vw_C := [(R_Ck, F_Ck, 5), (R_Cc, F_Cc, 2), (R_Dc, F_Dc, 4), (R_In, F_In, 8), (R_Pr, F_Pr, 2), (R_Sc, F_Sc, 4), (R_Pc, F_Pc, 12), (R_Mo, F_Mo, 29)]
abbrev b_Pc_init : ByteArray := prog_1_method_1_code
def y_Pc_init : MethodName := ⟨R_Pc, "<init>", "()V"⟩
abbrev b_Pc_code : ByteArray := prog_1_method_2_code
def y_Pc_code : MethodName := ⟨R_Pc, "code", "(IIIIII)V"⟩
abbrev b_Pc_cell : ByteArray := prog_1_method_3_code
def y_Pc_cell : MethodName := ⟨R_Pc, "cell", "(ID)V"⟩
abbrev b_Pc_start : ByteArray := prog_1_method_4_code
def y_Pc_start : MethodName := ⟨R_Pc, "start", "(I)V"⟩
abbrev b_Pc_run : ByteArray := prog_1_method_5_code
def y_Pc_run : MethodName := ⟨R_Pc, "run", "(I)I"⟩
abbrev b_Pc_schedule : ByteArray := prog_1_method_6_code
def y_Pc_schedule : MethodName := ⟨R_Pc, "schedule", "()I"⟩
abbrev b_Pc_whole : ByteArray := prog_1_method_7_code
def y_Pc_whole : MethodName := ⟨R_Pc, "whole", "(I)I"⟩
abbrev b_Pc_fraction : ByteArray := prog_1_method_8_code
def y_Pc_fraction : MethodName := ⟨R_Pc, "fraction", "(I)D"⟩
abbrev b_Pc_memory : ByteArray := prog_1_method_9_code
def y_Pc_memory : MethodName := ⟨R_Pc, "memory", "(I)D"⟩
abbrev b_Pc_told : ByteArray := prog_1_method_10_code
def y_Pc_told : MethodName := ⟨R_Pc, "told", "(II)I"⟩
abbrev b_Pc_count : ByteArray := prog_1_method_11_code
def y_Pc_count : MethodName := ⟨R_Pc, "count", "(I)I"⟩
abbrev b_Pc_refuseOutside : ByteArray := prog_1_method_12_code
def y_Pc_refuseOutside : MethodName := ⟨R_Pc, "refuseOutside", "(II)V"⟩
abbrev b_Pc_doOne : ByteArray := prog_1_method_13_code
def y_Pc_doOne : MethodName := ⟨R_Pc, "doOne", "()V"⟩
abbrev b_Pc_jumpIsDue : ByteArray := prog_1_method_14_code
def y_Pc_jumpIsDue : MethodName := ⟨R_Pc, "jumpIsDue", "(LPipeComputer$Instruction;)Z"⟩
abbrev b_Pc_moveCell : ByteArray := prog_1_method_15_code
def y_Pc_moveCell : MethodName := ⟨R_Pc, "moveCell", "(LPipeComputer$Instruction;)Z"⟩
abbrev b_Pc_compute : ByteArray := prog_1_method_16_code
def y_Pc_compute : MethodName := ⟨R_Pc, "compute", "(LPipeComputer$Instruction;)V"⟩
abbrev b_Pc_computedWhole : ByteArray := prog_1_method_17_code
def y_Pc_computedWhole : MethodName := ⟨R_Pc, "computedWhole", "(LPipeComputer$Instruction;)I"⟩
abbrev b_Pc_computedFraction : ByteArray := prog_1_method_18_code
def y_Pc_computedFraction : MethodName := ⟨R_Pc, "computedFraction", "(IDD)D"⟩
abbrev b_Pc_outcomeOf : ByteArray := prog_1_method_19_code
def y_Pc_outcomeOf : MethodName := ⟨R_Pc, "outcomeOf", "(IDD)D"⟩
abbrev b_Pc_quotient : ByteArray := prog_1_method_20_code
def y_Pc_quotient : MethodName := ⟨R_Pc, "quotient", "(DD)D"⟩
abbrev b_Pc_putWhole : ByteArray := prog_1_method_21_code
def y_Pc_putWhole : MethodName := ⟨R_Pc, "putWhole", "(II)V"⟩
abbrev b_Mo_init : ByteArray := prog_9_method_1_code
def y_Mo_init : MethodName := ⟨R_Mo, "<init>", "()V"⟩
abbrev b_Mo_thrown : ByteArray := prog_9_method_2_code
def y_Mo_thrown : MethodName := ⟨R_Mo, "thrown", "()I"⟩
abbrev b_Mo_in : ByteArray := prog_9_method_3_code
def y_Mo_in : MethodName := ⟨R_Mo, "in", "(III)Z"⟩
abbrev b_Mo_bad : ByteArray := prog_9_method_4_code
def y_Mo_bad : MethodName := ⟨R_Mo, "bad", "(Z)Z"⟩
abbrev b_Mo_reset : ByteArray := prog_9_method_5_code
def y_Mo_reset : MethodName := ⟨R_Mo, "reset", "()V"⟩
abbrev b_Mo_code : ByteArray := prog_9_method_6_code
def y_Mo_code : MethodName := ⟨R_Mo, "code", "(IIIIII)V"⟩
abbrev b_Mo_cell : ByteArray := prog_9_method_7_code
def y_Mo_cell : MethodName := ⟨R_Mo, "cell", "(ID)V"⟩
abbrev b_Mo_start : ByteArray := prog_9_method_8_code
def y_Mo_start : MethodName := ⟨R_Mo, "start", "(I)V"⟩
abbrev b_Mo_first : ByteArray := prog_9_method_9_code
def y_Mo_first : MethodName := ⟨R_Mo, "first", "(I)I"⟩
abbrev b_Mo_second : ByteArray := prog_9_method_10_code
def y_Mo_second : MethodName := ⟨R_Mo, "second", "(I)I"⟩
abbrev b_Mo_target : ByteArray := prog_9_method_11_code
def y_Mo_target : MethodName := ⟨R_Mo, "target", "(I)I"⟩
abbrev b_Mo_latency : ByteArray := prog_9_method_12_code
def y_Mo_latency : MethodName := ⟨R_Mo, "latency", "(I)I"⟩
abbrev b_Mo_missGroup : ByteArray := prog_9_method_13_code
def y_Mo_missGroup : MethodName := ⟨R_Mo, "missGroup", "(I)Z"⟩
abbrev b_Mo_missLine : ByteArray := prog_9_method_14_code
def y_Mo_missLine : MethodName := ⟨R_Mo, "missLine", "(I)Z"⟩
abbrev b_Mo_later : ByteArray := prog_9_method_15_code
def y_Mo_later : MethodName := ⟨R_Mo, "later", "(II)I"⟩
abbrev b_Mo_put : ByteArray := prog_9_method_16_code
def y_Mo_put : MethodName := ⟨R_Mo, "put", "(II)V"⟩
abbrev b_Mo_reckon : ByteArray := prog_9_method_17_code
def y_Mo_reckon : MethodName := ⟨R_Mo, "reckon", "(IDD)D"⟩
abbrev b_Mo_compute : ByteArray := prog_9_method_18_code
def y_Mo_compute : MethodName := ⟨R_Mo, "compute", "(I)V"⟩
abbrev b_Mo_trouble : ByteArray := prog_9_method_19_code
def y_Mo_trouble : MethodName := ⟨R_Mo, "trouble", "(I)I"⟩
abbrev b_Mo_modulo : ByteArray := prog_9_method_20_code
def y_Mo_modulo : MethodName := ⟨R_Mo, "modulo", "(I)I"⟩
abbrev b_Mo_next : ByteArray := prog_9_method_21_code
def y_Mo_next : MethodName := ⟨R_Mo, "next", "(I)I"⟩
abbrev b_Mo_doOne : ByteArray := prog_9_method_22_code
def y_Mo_doOne : MethodName := ⟨R_Mo, "doOne", "()V"⟩
abbrev b_Mo_run : ByteArray := prog_9_method_23_code
def y_Mo_run : MethodName := ⟨R_Mo, "run", "(I)I"⟩
abbrev b_Mo_leader : ByteArray := prog_9_method_24_code
def y_Mo_leader : MethodName := ⟨R_Mo, "leader", "(I)Z"⟩
abbrev b_Mo_reads : ByteArray := prog_9_method_25_code
def y_Mo_reads : MethodName := ⟨R_Mo, "reads", "(II)Z"⟩
abbrev b_Mo_tied : ByteArray := prog_9_method_26_code
def y_Mo_tied : MethodName := ⟨R_Mo, "tied", "(II)Z"⟩
abbrev b_Mo_findHeights : ByteArray := prog_9_method_27_code
def y_Mo_findHeights : MethodName := ⟨R_Mo, "findHeights", "(II)V"⟩
abbrev b_Mo_free : ByteArray := prog_9_method_28_code
def y_Mo_free : MethodName := ⟨R_Mo, "free", "(II)Z"⟩
abbrev b_Mo_move : ByteArray := prog_9_method_29_code
def y_Mo_move : MethodName := ⟨R_Mo, "move", "(II)V"⟩
abbrev b_Mo_schedule : ByteArray := prog_9_method_30_code
def y_Mo_schedule : MethodName := ⟨R_Mo, "schedule", "()I"⟩
abbrev b_Mo_whole : ByteArray := prog_9_method_31_code
def y_Mo_whole : MethodName := ⟨R_Mo, "whole", "(I)I"⟩
abbrev b_Mo_fraction : ByteArray := prog_9_method_32_code
def y_Mo_fraction : MethodName := ⟨R_Mo, "fraction", "(I)D"⟩
abbrev b_Mo_memory : ByteArray := prog_9_method_33_code
def y_Mo_memory : MethodName := ⟨R_Mo, "memory", "(I)D"⟩
abbrev b_Mo_told : ByteArray := prog_9_method_34_code
def y_Mo_told : MethodName := ⟨R_Mo, "told", "(II)I"⟩
abbrev b_Mo_count : ByteArray := prog_9_method_35_code
def y_Mo_count : MethodName := ⟨R_Mo, "count", "(I)I"⟩
abbrev b_Ck_init : ByteArray := prog_2_method_1_code
def y_Ck_init : MethodName := ⟨R_Ck, "<init>", "()V"⟩
abbrev b_Ck_reset : ByteArray := prog_2_method_2_code
def y_Ck_reset : MethodName := ⟨R_Ck, "reset", "()V"⟩
abbrev b_Ck_begin : ByteArray := prog_2_method_3_code
def y_Ck_begin : MethodName := ⟨R_Ck, "begin", "(LPipeComputer$Instruction;ZZZ)V"⟩
abbrev b_Ck_beginning : ByteArray := prog_2_method_4_code
def y_Ck_beginning : MethodName := ⟨R_Ck, "beginning", "(LPipeComputer$Instruction;IZ)I"⟩
abbrev b_Ck_readyTime : ByteArray := prog_2_method_5_code
def y_Ck_readyTime : MethodName := ⟨R_Ck, "readyTime", "(I)I"⟩
abbrev b_Cc_init : ByteArray := prog_3_method_1_code
def y_Cc_init : MethodName := ⟨R_Cc, "<init>", "()V"⟩
abbrev b_Cc_empty : ByteArray := prog_3_method_2_code
def y_Cc_empty : MethodName := ⟨R_Cc, "empty", "()V"⟩
abbrev b_Cc_misses : ByteArray := prog_3_method_3_code
def y_Cc_misses : MethodName := ⟨R_Cc, "misses", "(I)Z"⟩
abbrev b_Dc_init : ByteArray := prog_4_method_1_code
def y_Dc_init : MethodName := ⟨R_Dc, "<init>", "()V"⟩
abbrev b_Dc_empty : ByteArray := prog_4_method_2_code
def y_Dc_empty : MethodName := ⟨R_Dc, "empty", "()V"⟩
abbrev b_Dc_misses : ByteArray := prog_4_method_3_code
def y_Dc_misses : MethodName := ⟨R_Dc, "misses", "(I)Z"⟩
abbrev b_In_init : ByteArray := prog_5_method_1_code
def y_In_init : MethodName := ⟨R_In, "<init>", "()V"⟩
abbrev b_In_become : ByteArray := prog_5_method_2_code
def y_In_become : MethodName := ⟨R_In, "become", "(IIIII)V"⟩
abbrev b_In_readsWhatIsWrittenBy : ByteArray := prog_5_method_3_code
def y_In_readsWhatIsWrittenBy : MethodName := ⟨R_In, "readsWhatIsWrittenBy", "(LPipeComputer$Instruction;)Z"⟩
abbrev b_In_mustStayBehind : ByteArray := prog_5_method_4_code
def y_In_mustStayBehind : MethodName := ⟨R_In, "mustStayBehind", "(LPipeComputer$Instruction;)Z"⟩
abbrev b_In_goesToMemory : ByteArray := prog_5_method_5_code
def y_In_goesToMemory : MethodName := ⟨R_In, "goesToMemory", "()Z"⟩
abbrev b_In_hasTarget : ByteArray := prog_5_method_6_code
def y_In_hasTarget : MethodName := ⟨R_In, "hasTarget", "()Z"⟩
abbrev b_In_endsBlock : ByteArray := prog_5_method_7_code
def y_In_endsBlock : MethodName := ⟨R_In, "endsBlock", "()Z"⟩
abbrev b_In_target : ByteArray := prog_5_method_8_code
def y_In_target : MethodName := ⟨R_In, "target", "()I"⟩
abbrev b_In_latency : ByteArray := prog_5_method_9_code
def y_In_latency : MethodName := ⟨R_In, "latency", "()I"⟩
abbrev b_In_keepsItsTurn : ByteArray := prog_5_method_10_code
def y_In_keepsItsTurn : MethodName := ⟨R_In, "keepsItsTurn", "()Z"⟩
abbrev b_In_register : ByteArray := prog_5_method_11_code
def y_In_register : MethodName := ⟨R_In, "register", "(II)I"⟩
abbrev b_Pr_init : ByteArray := prog_6_method_1_code
def y_Pr_init : MethodName := ⟨R_Pr, "<init>", "()V"⟩
abbrev b_Pr_reset : ByteArray := prog_6_method_2_code
def y_Pr_reset : MethodName := ⟨R_Pr, "reset", "()V"⟩
abbrev b_Pr_guessesWrong : ByteArray := prog_6_method_3_code
def y_Pr_guessesWrong : MethodName := ⟨R_Pr, "guessesWrong", "(IZ)Z"⟩
abbrev b_Sc_init : ByteArray := prog_7_method_1_code
def y_Sc_init : MethodName := ⟨R_Sc, "<init>", "()V"⟩
abbrev b_Sc_reorder : ByteArray := prog_7_method_2_code
def y_Sc_reorder : MethodName := ⟨R_Sc, "reorder", "([LPipeComputer$Instruction;)I"⟩
abbrev b_Sc_findLeaders : ByteArray := prog_7_method_3_code
def y_Sc_findLeaders : MethodName := ⟨R_Sc, "findLeaders", "()V"⟩
abbrev b_Sc_endOfBlock : ByteArray := prog_7_method_4_code
def y_Sc_endOfBlock : MethodName := ⟨R_Sc, "endOfBlock", "(I)I"⟩
abbrev b_Sc_reorderBlock : ByteArray := prog_7_method_5_code
def y_Sc_reorderBlock : MethodName := ⟨R_Sc, "reorderBlock", "([LPipeComputer$Instruction;II)I"⟩
abbrev b_Sc_findHeights : ByteArray := prog_7_method_6_code
def y_Sc_findHeights : MethodName := ⟨R_Sc, "findHeights", "(II)V"⟩
abbrev b_Sc_nextToPlace : ByteArray := prog_7_method_7_code
def y_Sc_nextToPlace : MethodName := ⟨R_Sc, "nextToPlace", "(III)I"⟩
abbrev b_La_code : ByteArray := method_3_code
def y_La_code : MethodName := ⟨R_La, "code", "(LPipeComputer;IIIIII)I"⟩
abbrev b_La_cell2 : ByteArray := method_4_code
def y_La_cell2 : MethodName := ⟨R_La, "cell", "(LPipeComputer;ID)I"⟩
abbrev b_La_start : ByteArray := method_5_code
def y_La_start : MethodName := ⟨R_La, "start", "(LPipeComputer;I)I"⟩
abbrev b_La_run : ByteArray := method_6_code
def y_La_run : MethodName := ⟨R_La, "run", "(LPipeComputer;I[J)I"⟩
abbrev b_La_whole : ByteArray := method_7_code
def y_La_whole : MethodName := ⟨R_La, "whole", "(LPipeComputer;I[J)I"⟩
abbrev b_La_fraction : ByteArray := method_8_code
def y_La_fraction : MethodName := ⟨R_La, "fraction", "(LPipeComputer;I[D)I"⟩
abbrev b_La_memory : ByteArray := method_9_code
def y_La_memory : MethodName := ⟨R_La, "memory", "(LPipeComputer;I[D)I"⟩
abbrev b_La_told : ByteArray := method_10_code
def y_La_told : MethodName := ⟨R_La, "told", "(LPipeComputer;II[J)I"⟩
abbrev b_La_law : ByteArray := code
def y_La_law : MethodName := ⟨R_La, "law", "([I)Z"⟩
abbrev b_Ma_floorMod : ByteArray := prog_15_method_50_code
def y_Ma_floorMod : MethodName := ⟨R_Ma, "floorMod", "(II)I"⟩
abbrev b_Ar_fill : ByteArray := prog_18_method_113_code
def y_Ar_fill : MethodName := ⟨R_Ar, "fill", "([DD)V"⟩
abbrev b_Ar_fill2 : ByteArray := prog_18_method_103_code
def y_Ar_fill2 : MethodName := ⟨R_Ar, "fill", "([II)V"⟩
end
section
/-! DECODE ROWS, by program -/
theorem d_Ck_init_0 : decode b_Ck_init 0 = .ok (.aload_n 0, 1) := by decide +kernel
theorem d_Ck_init_1 : decode b_Ck_init 1 = .ok (.invokespecial 3, 3) := by decide +kernel
theorem d_Ck_init_4 : decode b_Ck_init 4 = .ok (.aload_n 0, 1) := by decide +kernel
theorem d_Ck_init_5 : decode b_Ck_init 5 = .ok (.bipush 12, 2) := by decide +kernel
theorem d_Ck_init_7 : decode b_Ck_init 7 = .ok (.newarray .int, 2) := by decide +kernel
theorem d_Ck_init_9 : decode b_Ck_init 9 = .ok (.putfield 9, 3) := by decide +kernel
theorem d_Ck_init_12 : decode b_Ck_init 12 = .ok (.aload_n 0, 1) := by decide +kernel
theorem d_Ck_init_13 : decode b_Ck_init 13 = .ok (.iconst (-1), 1) := by decide +kernel
theorem d_Ck_init_14 : decode b_Ck_init 14 = .ok (.putfield 15, 3) := by decide +kernel
theorem d_Ck_init_17 : decode b_Ck_init 17 = .ok (.aload_n 0, 1) := by decide +kernel
theorem d_Ck_init_18 : decode b_Ck_init 18 = .ok (.iconst 0, 1) := by decide +kernel
theorem d_Ck_init_19 : decode b_Ck_init 19 = .ok (.putfield 19, 3) := by decide +kernel
theorem d_Ck_init_22 : decode b_Ck_init 22 = .ok (.aload_n 0, 1) := by decide +kernel
theorem d_Ck_init_23 : decode b_Ck_init 23 = .ok (.iconst 0, 1) := by decide +kernel
theorem d_Ck_init_24 : decode b_Ck_init 24 = .ok (.putfield 22, 3) := by decide +kernel
theorem d_Ck_init_27 : decode b_Ck_init 27 = .ok (.aload_n 0, 1) := by decide +kernel
theorem d_Ck_init_28 : decode b_Ck_init 28 = .ok (.iconst 0, 1) := by decide +kernel
theorem d_Ck_init_29 : decode b_Ck_init 29 = .ok (.putfield 25, 3) := by decide +kernel
theorem d_Ck_init_32 : decode b_Ck_init 32 = .ok (.return_, 1) := by decide +kernel
theorem d_Ck_reset_0 : decode b_Ck_reset 0 = .ok (.aload_n 0, 1) := by decide +kernel
theorem d_Ck_reset_1 : decode b_Ck_reset 1 = .ok (.getfield 9, 3) := by decide +kernel
theorem d_Ck_reset_4 : decode b_Ck_reset 4 = .ok (.iconst 0, 1) := by decide +kernel
theorem d_Ck_reset_5 : decode b_Ck_reset 5 = .ok (.invokestatic 29, 3) := by decide +kernel
theorem d_Ck_reset_8 : decode b_Ck_reset 8 = .ok (.aload_n 0, 1) := by decide +kernel
theorem d_Ck_reset_9 : decode b_Ck_reset 9 = .ok (.iconst (-1), 1) := by decide +kernel
theorem d_Ck_reset_10 : decode b_Ck_reset 10 = .ok (.putfield 15, 3) := by decide +kernel
theorem d_Ck_reset_13 : decode b_Ck_reset 13 = .ok (.aload_n 0, 1) := by decide +kernel
theorem d_Ck_reset_14 : decode b_Ck_reset 14 = .ok (.iconst 0, 1) := by decide +kernel
theorem d_Ck_reset_15 : decode b_Ck_reset 15 = .ok (.putfield 19, 3) := by decide +kernel
theorem d_Ck_reset_18 : decode b_Ck_reset 18 = .ok (.aload_n 0, 1) := by decide +kernel
theorem d_Ck_reset_19 : decode b_Ck_reset 19 = .ok (.iconst 0, 1) := by decide +kernel
theorem d_Ck_reset_20 : decode b_Ck_reset 20 = .ok (.putfield 22, 3) := by decide +kernel
theorem d_Ck_reset_23 : decode b_Ck_reset 23 = .ok (.aload_n 0, 1) := by decide +kernel
theorem d_Ck_reset_24 : decode b_Ck_reset 24 = .ok (.iconst 0, 1) := by decide +kernel
theorem d_Ck_reset_25 : decode b_Ck_reset 25 = .ok (.putfield 25, 3) := by decide +kernel
theorem d_Ck_reset_28 : decode b_Ck_reset 28 = .ok (.return_, 1) := by decide +kernel
theorem d_Ck_begin_0 : decode b_Ck_begin 0 = .ok (.iload_n 3, 1) := by decide +kernel
theorem d_Ck_begin_1 : decode b_Ck_begin 1 = .ok (.ifCond .eq 7, 3) := by decide +kernel
theorem d_Ck_begin_4 : decode b_Ck_begin 4 = .ok (.iconst 5, 1) := by decide +kernel
theorem d_Ck_begin_5 : decode b_Ck_begin 5 = .ok (.goto 4, 3) := by decide +kernel
theorem d_Ck_begin_8 : decode b_Ck_begin 8 = .ok (.iconst 0, 1) := by decide +kernel
theorem d_Ck_begin_9 : decode b_Ck_begin 9 = .ok (.istore 5, 2) := by decide +kernel
theorem d_Ck_begin_11 : decode b_Ck_begin 11 = .ok (.aload_n 1, 1) := by decide +kernel
theorem d_Ck_begin_12 : decode b_Ck_begin 12 = .ok (.invokevirtual 35, 3) := by decide +kernel
theorem d_Ck_begin_15 : decode b_Ck_begin 15 = .ok (.iload 5, 2) := by decide +kernel
theorem d_Ck_begin_17 : decode b_Ck_begin 17 = .ok (.iadd, 1) := by decide +kernel
theorem d_Ck_begin_18 : decode b_Ck_begin 18 = .ok (.istore 6, 2) := by decide +kernel
theorem d_Ck_begin_20 : decode b_Ck_begin 20 = .ok (.aload_n 0, 1) := by decide +kernel
theorem d_Ck_begin_21 : decode b_Ck_begin 21 = .ok (.aload_n 0, 1) := by decide +kernel
theorem d_Ck_begin_22 : decode b_Ck_begin 22 = .ok (.aload_n 1, 1) := by decide +kernel
theorem d_Ck_begin_23 : decode b_Ck_begin 23 = .ok (.iload 6, 2) := by decide +kernel
theorem d_Ck_begin_25 : decode b_Ck_begin 25 = .ok (.iload_n 2, 1) := by decide +kernel
theorem d_Ck_begin_26 : decode b_Ck_begin 26 = .ok (.invokevirtual 41, 3) := by decide +kernel
theorem d_Ck_begin_29 : decode b_Ck_begin 29 = .ok (.putfield 15, 3) := by decide +kernel
theorem d_Ck_begin_32 : decode b_Ck_begin 32 = .ok (.aload_n 0, 1) := by decide +kernel
theorem d_Ck_begin_33 : decode b_Ck_begin 33 = .ok (.iload 4, 2) := by decide +kernel
theorem d_Ck_begin_35 : decode b_Ck_begin 35 = .ok (.putfield 25, 3) := by decide +kernel
theorem d_Ck_begin_38 : decode b_Ck_begin 38 = .ok (.aload_n 1, 1) := by decide +kernel
theorem d_Ck_begin_39 : decode b_Ck_begin 39 = .ok (.getfield 45, 3) := by decide +kernel
theorem d_Ck_begin_42 : decode b_Ck_begin 42 = .ok (.iconst (-1), 1) := by decide +kernel
theorem d_Ck_begin_43 : decode b_Ck_begin 43 = .ok (.if_icmp .eq 19, 3) := by decide +kernel
theorem d_Ck_begin_46 : decode b_Ck_begin 46 = .ok (.aload_n 0, 1) := by decide +kernel
theorem d_Ck_begin_47 : decode b_Ck_begin 47 = .ok (.getfield 9, 3) := by decide +kernel
theorem d_Ck_begin_50 : decode b_Ck_begin 50 = .ok (.aload_n 1, 1) := by decide +kernel
theorem d_Ck_begin_51 : decode b_Ck_begin 51 = .ok (.getfield 45, 3) := by decide +kernel
theorem d_Ck_begin_54 : decode b_Ck_begin 54 = .ok (.aload_n 0, 1) := by decide +kernel
theorem d_Ck_begin_55 : decode b_Ck_begin 55 = .ok (.getfield 15, 3) := by decide +kernel
theorem d_Ck_begin_58 : decode b_Ck_begin 58 = .ok (.iload 6, 2) := by decide +kernel
theorem d_Ck_begin_60 : decode b_Ck_begin 60 = .ok (.iadd, 1) := by decide +kernel
theorem d_Ck_begin_61 : decode b_Ck_begin 61 = .ok (.iastore, 1) := by decide +kernel
theorem d_Ck_begin_62 : decode b_Ck_begin 62 = .ok (.aload_n 1, 1) := by decide +kernel
theorem d_Ck_begin_63 : decode b_Ck_begin 63 = .ok (.getfield 48, 3) := by decide +kernel
theorem d_Ck_begin_66 : decode b_Ck_begin 66 = .ok (.bipush 13, 2) := by decide +kernel
theorem d_Ck_begin_68 : decode b_Ck_begin 68 = .ok (.if_icmp .ne 14, 3) := by decide +kernel
theorem d_Ck_begin_71 : decode b_Ck_begin 71 = .ok (.aload_n 0, 1) := by decide +kernel
theorem d_Ck_begin_72 : decode b_Ck_begin 72 = .ok (.aload_n 0, 1) := by decide +kernel
theorem d_Ck_begin_73 : decode b_Ck_begin 73 = .ok (.getfield 15, 3) := by decide +kernel
theorem d_Ck_begin_76 : decode b_Ck_begin 76 = .ok (.bipush 8, 2) := by decide +kernel
theorem d_Ck_begin_78 : decode b_Ck_begin 78 = .ok (.iadd, 1) := by decide +kernel
theorem d_Ck_begin_79 : decode b_Ck_begin 79 = .ok (.putfield 19, 3) := by decide +kernel
theorem d_Ck_begin_82 : decode b_Ck_begin 82 = .ok (.aload_n 1, 1) := by decide +kernel
theorem d_Ck_begin_83 : decode b_Ck_begin 83 = .ok (.invokevirtual 51, 3) := by decide +kernel
theorem d_Ck_begin_86 : decode b_Ck_begin 86 = .ok (.ifCond .eq 16, 3) := by decide +kernel
theorem d_Ck_begin_89 : decode b_Ck_begin 89 = .ok (.aload_n 0, 1) := by decide +kernel
theorem d_Ck_begin_90 : decode b_Ck_begin 90 = .ok (.aload_n 0, 1) := by decide +kernel
theorem d_Ck_begin_91 : decode b_Ck_begin 91 = .ok (.getfield 15, 3) := by decide +kernel
theorem d_Ck_begin_94 : decode b_Ck_begin 94 = .ok (.iconst 1, 1) := by decide +kernel
theorem d_Ck_begin_95 : decode b_Ck_begin 95 = .ok (.iadd, 1) := by decide +kernel
theorem d_Ck_begin_96 : decode b_Ck_begin 96 = .ok (.iload 5, 2) := by decide +kernel
theorem d_Ck_begin_98 : decode b_Ck_begin 98 = .ok (.iadd, 1) := by decide +kernel
theorem d_Ck_begin_99 : decode b_Ck_begin 99 = .ok (.putfield 22, 3) := by decide +kernel
theorem d_Ck_begin_102 : decode b_Ck_begin 102 = .ok (.return_, 1) := by decide +kernel
theorem d_Ck_beginning_0 : decode b_Ck_beginning 0 = .ok (.aload_n 0, 1) := by decide +kernel
theorem d_Ck_beginning_1 : decode b_Ck_beginning 1 = .ok (.getfield 15, 3) := by decide +kernel
theorem d_Ck_beginning_4 : decode b_Ck_beginning 4 = .ok (.iconst 1, 1) := by decide +kernel
theorem d_Ck_beginning_5 : decode b_Ck_beginning 5 = .ok (.iadd, 1) := by decide +kernel
theorem d_Ck_beginning_6 : decode b_Ck_beginning 6 = .ok (.iload_n 3, 1) := by decide +kernel
theorem d_Ck_beginning_7 : decode b_Ck_beginning 7 = .ok (.ifCond .eq 7, 3) := by decide +kernel
theorem d_Ck_beginning_10 : decode b_Ck_beginning 10 = .ok (.iconst 4, 1) := by decide +kernel
theorem d_Ck_beginning_11 : decode b_Ck_beginning 11 = .ok (.goto 4, 3) := by decide +kernel
theorem d_Ck_beginning_14 : decode b_Ck_beginning 14 = .ok (.iconst 0, 1) := by decide +kernel
theorem d_Ck_beginning_15 : decode b_Ck_beginning 15 = .ok (.iadd, 1) := by decide +kernel
theorem d_Ck_beginning_16 : decode b_Ck_beginning 16 = .ok (.aload_n 0, 1) := by decide +kernel
theorem d_Ck_beginning_17 : decode b_Ck_beginning 17 = .ok (.getfield 25, 3) := by decide +kernel
theorem d_Ck_beginning_20 : decode b_Ck_beginning 20 = .ok (.ifCond .eq 7, 3) := by decide +kernel
theorem d_Ck_beginning_23 : decode b_Ck_beginning 23 = .ok (.iconst 2, 1) := by decide +kernel
theorem d_Ck_beginning_24 : decode b_Ck_beginning 24 = .ok (.goto 4, 3) := by decide +kernel
theorem d_Ck_beginning_27 : decode b_Ck_beginning 27 = .ok (.iconst 0, 1) := by decide +kernel
theorem d_Ck_beginning_28 : decode b_Ck_beginning 28 = .ok (.iadd, 1) := by decide +kernel
theorem d_Ck_beginning_29 : decode b_Ck_beginning 29 = .ok (.istore 4, 2) := by decide +kernel
theorem d_Ck_beginning_31 : decode b_Ck_beginning 31 = .ok (.iload 4, 2) := by decide +kernel
theorem d_Ck_beginning_33 : decode b_Ck_beginning 33 = .ok (.aload_n 0, 1) := by decide +kernel
theorem d_Ck_beginning_34 : decode b_Ck_beginning 34 = .ok (.aload_n 1, 1) := by decide +kernel
theorem d_Ck_beginning_35 : decode b_Ck_beginning 35 = .ok (.getfield 55, 3) := by decide +kernel
theorem d_Ck_beginning_38 : decode b_Ck_beginning 38 = .ok (.invokevirtual 58, 3) := by decide +kernel
theorem d_Ck_beginning_41 : decode b_Ck_beginning 41 = .ok (.invokestatic 62, 3) := by decide +kernel
theorem d_Ck_beginning_44 : decode b_Ck_beginning 44 = .ok (.istore 4, 2) := by decide +kernel
theorem d_Ck_beginning_46 : decode b_Ck_beginning 46 = .ok (.iload 4, 2) := by decide +kernel
theorem d_Ck_beginning_48 : decode b_Ck_beginning 48 = .ok (.aload_n 0, 1) := by decide +kernel
theorem d_Ck_beginning_49 : decode b_Ck_beginning 49 = .ok (.aload_n 1, 1) := by decide +kernel
theorem d_Ck_beginning_50 : decode b_Ck_beginning 50 = .ok (.getfield 68, 3) := by decide +kernel
theorem d_Ck_beginning_53 : decode b_Ck_beginning 53 = .ok (.invokevirtual 58, 3) := by decide +kernel
theorem d_Ck_beginning_56 : decode b_Ck_beginning 56 = .ok (.invokestatic 62, 3) := by decide +kernel
theorem d_Ck_beginning_59 : decode b_Ck_beginning 59 = .ok (.istore 4, 2) := by decide +kernel
theorem d_Ck_beginning_61 : decode b_Ck_beginning 61 = .ok (.aload_n 1, 1) := by decide +kernel
theorem d_Ck_beginning_62 : decode b_Ck_beginning 62 = .ok (.getfield 48, 3) := by decide +kernel
theorem d_Ck_beginning_65 : decode b_Ck_beginning 65 = .ok (.bipush 13, 2) := by decide +kernel
theorem d_Ck_beginning_67 : decode b_Ck_beginning 67 = .ok (.if_icmp .ne 14, 3) := by decide +kernel
theorem d_Ck_beginning_70 : decode b_Ck_beginning 70 = .ok (.iload 4, 2) := by decide +kernel
theorem d_Ck_beginning_72 : decode b_Ck_beginning 72 = .ok (.aload_n 0, 1) := by decide +kernel
theorem d_Ck_beginning_73 : decode b_Ck_beginning 73 = .ok (.getfield 19, 3) := by decide +kernel
theorem d_Ck_beginning_76 : decode b_Ck_beginning 76 = .ok (.invokestatic 62, 3) := by decide +kernel
theorem d_Ck_beginning_79 : decode b_Ck_beginning 79 = .ok (.istore 4, 2) := by decide +kernel
theorem d_Ck_beginning_81 : decode b_Ck_beginning 81 = .ok (.aload_n 1, 1) := by decide +kernel
theorem d_Ck_beginning_82 : decode b_Ck_beginning 82 = .ok (.invokevirtual 51, 3) := by decide +kernel
theorem d_Ck_beginning_85 : decode b_Ck_beginning 85 = .ok (.ifCond .eq 14, 3) := by decide +kernel
theorem d_Ck_beginning_88 : decode b_Ck_beginning 88 = .ok (.iload 4, 2) := by decide +kernel
theorem d_Ck_beginning_90 : decode b_Ck_beginning 90 = .ok (.aload_n 0, 1) := by decide +kernel
theorem d_Ck_beginning_91 : decode b_Ck_beginning 91 = .ok (.getfield 22, 3) := by decide +kernel
theorem d_Ck_beginning_94 : decode b_Ck_beginning 94 = .ok (.invokestatic 62, 3) := by decide +kernel
theorem d_Ck_beginning_97 : decode b_Ck_beginning 97 = .ok (.istore 4, 2) := by decide +kernel
theorem d_Ck_beginning_99 : decode b_Ck_beginning 99 = .ok (.iload 4, 2) := by decide +kernel
theorem d_Ck_beginning_101 : decode b_Ck_beginning 101 = .ok (.aload_n 0, 1) := by decide +kernel
theorem d_Ck_beginning_102 : decode b_Ck_beginning 102 = .ok (.aload_n 1, 1) := by decide +kernel
theorem d_Ck_beginning_103 : decode b_Ck_beginning 103 = .ok (.getfield 45, 3) := by decide +kernel
theorem d_Ck_beginning_106 : decode b_Ck_beginning 106 = .ok (.invokevirtual 58, 3) := by decide +kernel
theorem d_Ck_beginning_109 : decode b_Ck_beginning 109 = .ok (.iload_n 2, 1) := by decide +kernel
theorem d_Ck_beginning_110 : decode b_Ck_beginning 110 = .ok (.isub, 1) := by decide +kernel
theorem d_Ck_beginning_111 : decode b_Ck_beginning 111 = .ok (.iconst 1, 1) := by decide +kernel
theorem d_Ck_beginning_112 : decode b_Ck_beginning 112 = .ok (.iadd, 1) := by decide +kernel
theorem d_Ck_beginning_113 : decode b_Ck_beginning 113 = .ok (.invokestatic 62, 3) := by decide +kernel
theorem d_Ck_beginning_116 : decode b_Ck_beginning 116 = .ok (.ireturn, 1) := by decide +kernel
theorem d_Ck_readyTime_0 : decode b_Ck_readyTime 0 = .ok (.iload_n 1, 1) := by decide +kernel
theorem d_Ck_readyTime_1 : decode b_Ck_readyTime 1 = .ok (.iconst (-1), 1) := by decide +kernel
theorem d_Ck_readyTime_2 : decode b_Ck_readyTime 2 = .ok (.if_icmp .ne 7, 3) := by decide +kernel
theorem d_Ck_readyTime_5 : decode b_Ck_readyTime 5 = .ok (.iconst 0, 1) := by decide +kernel
theorem d_Ck_readyTime_6 : decode b_Ck_readyTime 6 = .ok (.goto 9, 3) := by decide +kernel
theorem d_Ck_readyTime_9 : decode b_Ck_readyTime 9 = .ok (.aload_n 0, 1) := by decide +kernel
theorem d_Ck_readyTime_10 : decode b_Ck_readyTime 10 = .ok (.getfield 9, 3) := by decide +kernel
theorem d_Ck_readyTime_13 : decode b_Ck_readyTime 13 = .ok (.iload_n 1, 1) := by decide +kernel
theorem d_Ck_readyTime_14 : decode b_Ck_readyTime 14 = .ok (.iaload, 1) := by decide +kernel
theorem d_Ck_readyTime_15 : decode b_Ck_readyTime 15 = .ok (.ireturn, 1) := by decide +kernel
theorem d_Cc_init_0 : decode b_Cc_init 0 = .ok (.aload_n 0, 1) := by decide +kernel
theorem d_Cc_init_1 : decode b_Cc_init 1 = .ok (.invokespecial 3, 3) := by decide +kernel
theorem d_Cc_init_4 : decode b_Cc_init 4 = .ok (.aload_n 0, 1) := by decide +kernel
theorem d_Cc_init_5 : decode b_Cc_init 5 = .ok (.iconst 0, 1) := by decide +kernel
theorem d_Cc_init_6 : decode b_Cc_init 6 = .ok (.putfield 9, 3) := by decide +kernel
theorem d_Cc_init_9 : decode b_Cc_init 9 = .ok (.aload_n 0, 1) := by decide +kernel
theorem d_Cc_init_10 : decode b_Cc_init 10 = .ok (.iconst 2, 1) := by decide +kernel
theorem d_Cc_init_11 : decode b_Cc_init 11 = .ok (.newarray .int, 2) := by decide +kernel
theorem d_Cc_init_13 : decode b_Cc_init 13 = .ok (.putfield 15, 3) := by decide +kernel
theorem d_Cc_init_16 : decode b_Cc_init 16 = .ok (.aload_n 0, 1) := by decide +kernel
theorem d_Cc_init_17 : decode b_Cc_init 17 = .ok (.invokevirtual 19, 3) := by decide +kernel
theorem d_Cc_init_20 : decode b_Cc_init 20 = .ok (.return_, 1) := by decide +kernel
theorem d_Cc_empty_0 : decode b_Cc_empty 0 = .ok (.aload_n 0, 1) := by decide +kernel
theorem d_Cc_empty_1 : decode b_Cc_empty 1 = .ok (.getfield 15, 3) := by decide +kernel
theorem d_Cc_empty_4 : decode b_Cc_empty 4 = .ok (.iconst (-1), 1) := by decide +kernel
theorem d_Cc_empty_5 : decode b_Cc_empty 5 = .ok (.invokestatic 22, 3) := by decide +kernel
theorem d_Cc_empty_8 : decode b_Cc_empty 8 = .ok (.aload_n 0, 1) := by decide +kernel
theorem d_Cc_empty_9 : decode b_Cc_empty 9 = .ok (.iconst 0, 1) := by decide +kernel
theorem d_Cc_empty_10 : decode b_Cc_empty 10 = .ok (.putfield 9, 3) := by decide +kernel
theorem d_Cc_empty_13 : decode b_Cc_empty 13 = .ok (.return_, 1) := by decide +kernel
theorem d_Cc_misses_0 : decode b_Cc_misses 0 = .ok (.iload_n 1, 1) := by decide +kernel
theorem d_Cc_misses_1 : decode b_Cc_misses 1 = .ok (.iconst 2, 1) := by decide +kernel
theorem d_Cc_misses_2 : decode b_Cc_misses 2 = .ok (.irem, 1) := by decide +kernel
theorem d_Cc_misses_3 : decode b_Cc_misses 3 = .ok (.istore_n 2, 1) := by decide +kernel
theorem d_Cc_misses_4 : decode b_Cc_misses 4 = .ok (.aload_n 0, 1) := by decide +kernel
theorem d_Cc_misses_5 : decode b_Cc_misses 5 = .ok (.getfield 15, 3) := by decide +kernel
theorem d_Cc_misses_8 : decode b_Cc_misses 8 = .ok (.iload_n 2, 1) := by decide +kernel
theorem d_Cc_misses_9 : decode b_Cc_misses 9 = .ok (.iaload, 1) := by decide +kernel
theorem d_Cc_misses_10 : decode b_Cc_misses 10 = .ok (.iload_n 1, 1) := by decide +kernel
theorem d_Cc_misses_11 : decode b_Cc_misses 11 = .ok (.if_icmp .ne 5, 3) := by decide +kernel
theorem d_Cc_misses_14 : decode b_Cc_misses 14 = .ok (.iconst 0, 1) := by decide +kernel
theorem d_Cc_misses_15 : decode b_Cc_misses 15 = .ok (.ireturn, 1) := by decide +kernel
theorem d_Cc_misses_16 : decode b_Cc_misses 16 = .ok (.aload_n 0, 1) := by decide +kernel
theorem d_Cc_misses_17 : decode b_Cc_misses 17 = .ok (.getfield 15, 3) := by decide +kernel
theorem d_Cc_misses_20 : decode b_Cc_misses 20 = .ok (.iload_n 2, 1) := by decide +kernel
theorem d_Cc_misses_21 : decode b_Cc_misses 21 = .ok (.iload_n 1, 1) := by decide +kernel
theorem d_Cc_misses_22 : decode b_Cc_misses 22 = .ok (.iastore, 1) := by decide +kernel
theorem d_Cc_misses_23 : decode b_Cc_misses 23 = .ok (.aload_n 0, 1) := by decide +kernel
theorem d_Cc_misses_24 : decode b_Cc_misses 24 = .ok (.dup, 1) := by decide +kernel
theorem d_Cc_misses_25 : decode b_Cc_misses 25 = .ok (.getfield 9, 3) := by decide +kernel
theorem d_Cc_misses_28 : decode b_Cc_misses 28 = .ok (.iconst 1, 1) := by decide +kernel
theorem d_Cc_misses_29 : decode b_Cc_misses 29 = .ok (.iadd, 1) := by decide +kernel
theorem d_Cc_misses_30 : decode b_Cc_misses 30 = .ok (.putfield 9, 3) := by decide +kernel
theorem d_Cc_misses_33 : decode b_Cc_misses 33 = .ok (.iconst 1, 1) := by decide +kernel
theorem d_Cc_misses_34 : decode b_Cc_misses 34 = .ok (.ireturn, 1) := by decide +kernel
theorem d_Dc_init_0 : decode b_Dc_init 0 = .ok (.aload_n 0, 1) := by decide +kernel
theorem d_Dc_init_1 : decode b_Dc_init 1 = .ok (.invokespecial 3, 3) := by decide +kernel
theorem d_Dc_init_4 : decode b_Dc_init 4 = .ok (.aload_n 0, 1) := by decide +kernel
theorem d_Dc_init_5 : decode b_Dc_init 5 = .ok (.iconst 0, 1) := by decide +kernel
theorem d_Dc_init_6 : decode b_Dc_init 6 = .ok (.putfield 9, 3) := by decide +kernel
theorem d_Dc_init_9 : decode b_Dc_init 9 = .ok (.aload_n 0, 1) := by decide +kernel
theorem d_Dc_init_10 : decode b_Dc_init 10 = .ok (.iconst 4, 1) := by decide +kernel
theorem d_Dc_init_11 : decode b_Dc_init 11 = .ok (.newarray .int, 2) := by decide +kernel
theorem d_Dc_init_13 : decode b_Dc_init 13 = .ok (.putfield 15, 3) := by decide +kernel
theorem d_Dc_init_16 : decode b_Dc_init 16 = .ok (.aload_n 0, 1) := by decide +kernel
theorem d_Dc_init_17 : decode b_Dc_init 17 = .ok (.iconst 4, 1) := by decide +kernel
theorem d_Dc_init_18 : decode b_Dc_init 18 = .ok (.newarray .int, 2) := by decide +kernel
theorem d_Dc_init_20 : decode b_Dc_init 20 = .ok (.putfield 19, 3) := by decide +kernel
theorem d_Dc_init_23 : decode b_Dc_init 23 = .ok (.aload_n 0, 1) := by decide +kernel
theorem d_Dc_init_24 : decode b_Dc_init 24 = .ok (.iconst 0, 1) := by decide +kernel
theorem d_Dc_init_25 : decode b_Dc_init 25 = .ok (.putfield 22, 3) := by decide +kernel
theorem d_Dc_init_28 : decode b_Dc_init 28 = .ok (.aload_n 0, 1) := by decide +kernel
theorem d_Dc_init_29 : decode b_Dc_init 29 = .ok (.invokevirtual 25, 3) := by decide +kernel
theorem d_Dc_init_32 : decode b_Dc_init 32 = .ok (.return_, 1) := by decide +kernel
theorem d_Dc_empty_0 : decode b_Dc_empty 0 = .ok (.aload_n 0, 1) := by decide +kernel
theorem d_Dc_empty_1 : decode b_Dc_empty 1 = .ok (.getfield 15, 3) := by decide +kernel
theorem d_Dc_empty_4 : decode b_Dc_empty 4 = .ok (.iconst (-1), 1) := by decide +kernel
theorem d_Dc_empty_5 : decode b_Dc_empty 5 = .ok (.invokestatic 28, 3) := by decide +kernel
theorem d_Dc_empty_8 : decode b_Dc_empty 8 = .ok (.aload_n 0, 1) := by decide +kernel
theorem d_Dc_empty_9 : decode b_Dc_empty 9 = .ok (.getfield 19, 3) := by decide +kernel
theorem d_Dc_empty_12 : decode b_Dc_empty 12 = .ok (.iconst 0, 1) := by decide +kernel
theorem d_Dc_empty_13 : decode b_Dc_empty 13 = .ok (.invokestatic 28, 3) := by decide +kernel
theorem d_Dc_empty_16 : decode b_Dc_empty 16 = .ok (.aload_n 0, 1) := by decide +kernel
theorem d_Dc_empty_17 : decode b_Dc_empty 17 = .ok (.iconst 0, 1) := by decide +kernel
theorem d_Dc_empty_18 : decode b_Dc_empty 18 = .ok (.putfield 22, 3) := by decide +kernel
theorem d_Dc_empty_21 : decode b_Dc_empty 21 = .ok (.aload_n 0, 1) := by decide +kernel
theorem d_Dc_empty_22 : decode b_Dc_empty 22 = .ok (.iconst 0, 1) := by decide +kernel
theorem d_Dc_empty_23 : decode b_Dc_empty 23 = .ok (.putfield 9, 3) := by decide +kernel
theorem d_Dc_empty_26 : decode b_Dc_empty 26 = .ok (.return_, 1) := by decide +kernel
theorem d_Dc_misses_0 : decode b_Dc_misses 0 = .ok (.iload_n 1, 1) := by decide +kernel
theorem d_Dc_misses_1 : decode b_Dc_misses 1 = .ok (.iconst 2, 1) := by decide +kernel
theorem d_Dc_misses_2 : decode b_Dc_misses 2 = .ok (.irem, 1) := by decide +kernel
theorem d_Dc_misses_3 : decode b_Dc_misses 3 = .ok (.iconst 2, 1) := by decide +kernel
theorem d_Dc_misses_4 : decode b_Dc_misses 4 = .ok (.imul, 1) := by decide +kernel
theorem d_Dc_misses_5 : decode b_Dc_misses 5 = .ok (.istore_n 2, 1) := by decide +kernel
theorem d_Dc_misses_6 : decode b_Dc_misses 6 = .ok (.iload_n 2, 1) := by decide +kernel
theorem d_Dc_misses_7 : decode b_Dc_misses 7 = .ok (.iconst 1, 1) := by decide +kernel
theorem d_Dc_misses_8 : decode b_Dc_misses 8 = .ok (.iadd, 1) := by decide +kernel
theorem d_Dc_misses_9 : decode b_Dc_misses 9 = .ok (.istore_n 3, 1) := by decide +kernel
theorem d_Dc_misses_10 : decode b_Dc_misses 10 = .ok (.aload_n 0, 1) := by decide +kernel
theorem d_Dc_misses_11 : decode b_Dc_misses 11 = .ok (.dup, 1) := by decide +kernel
theorem d_Dc_misses_12 : decode b_Dc_misses 12 = .ok (.getfield 22, 3) := by decide +kernel
theorem d_Dc_misses_15 : decode b_Dc_misses 15 = .ok (.iconst 1, 1) := by decide +kernel
theorem d_Dc_misses_16 : decode b_Dc_misses 16 = .ok (.iadd, 1) := by decide +kernel
theorem d_Dc_misses_17 : decode b_Dc_misses 17 = .ok (.putfield 22, 3) := by decide +kernel
theorem d_Dc_misses_20 : decode b_Dc_misses 20 = .ok (.aload_n 0, 1) := by decide +kernel
theorem d_Dc_misses_21 : decode b_Dc_misses 21 = .ok (.getfield 15, 3) := by decide +kernel
theorem d_Dc_misses_24 : decode b_Dc_misses 24 = .ok (.iload_n 2, 1) := by decide +kernel
theorem d_Dc_misses_25 : decode b_Dc_misses 25 = .ok (.iaload, 1) := by decide +kernel
theorem d_Dc_misses_26 : decode b_Dc_misses 26 = .ok (.iload_n 1, 1) := by decide +kernel
theorem d_Dc_misses_27 : decode b_Dc_misses 27 = .ok (.if_icmp .eq 13, 3) := by decide +kernel
theorem d_Dc_misses_30 : decode b_Dc_misses 30 = .ok (.aload_n 0, 1) := by decide +kernel
theorem d_Dc_misses_31 : decode b_Dc_misses 31 = .ok (.getfield 15, 3) := by decide +kernel
theorem d_Dc_misses_34 : decode b_Dc_misses 34 = .ok (.iload_n 3, 1) := by decide +kernel
theorem d_Dc_misses_35 : decode b_Dc_misses 35 = .ok (.iaload, 1) := by decide +kernel
theorem d_Dc_misses_36 : decode b_Dc_misses 36 = .ok (.iload_n 1, 1) := by decide +kernel
theorem d_Dc_misses_37 : decode b_Dc_misses 37 = .ok (.if_icmp .ne 29, 3) := by decide +kernel
theorem d_Dc_misses_40 : decode b_Dc_misses 40 = .ok (.aload_n 0, 1) := by decide +kernel
theorem d_Dc_misses_41 : decode b_Dc_misses 41 = .ok (.getfield 19, 3) := by decide +kernel
theorem d_Dc_misses_44 : decode b_Dc_misses 44 = .ok (.aload_n 0, 1) := by decide +kernel
theorem d_Dc_misses_45 : decode b_Dc_misses 45 = .ok (.getfield 15, 3) := by decide +kernel
theorem d_Dc_misses_48 : decode b_Dc_misses 48 = .ok (.iload_n 2, 1) := by decide +kernel
theorem d_Dc_misses_49 : decode b_Dc_misses 49 = .ok (.iaload, 1) := by decide +kernel
theorem d_Dc_misses_50 : decode b_Dc_misses 50 = .ok (.iload_n 1, 1) := by decide +kernel
theorem d_Dc_misses_51 : decode b_Dc_misses 51 = .ok (.if_icmp .ne 7, 3) := by decide +kernel
theorem d_Dc_misses_54 : decode b_Dc_misses 54 = .ok (.iload_n 2, 1) := by decide +kernel
theorem d_Dc_misses_55 : decode b_Dc_misses 55 = .ok (.goto 4, 3) := by decide +kernel
theorem d_Dc_misses_58 : decode b_Dc_misses 58 = .ok (.iload_n 3, 1) := by decide +kernel
theorem d_Dc_misses_59 : decode b_Dc_misses 59 = .ok (.aload_n 0, 1) := by decide +kernel
theorem d_Dc_misses_60 : decode b_Dc_misses 60 = .ok (.getfield 22, 3) := by decide +kernel
theorem d_Dc_misses_63 : decode b_Dc_misses 63 = .ok (.iastore, 1) := by decide +kernel
theorem d_Dc_misses_64 : decode b_Dc_misses 64 = .ok (.iconst 0, 1) := by decide +kernel
theorem d_Dc_misses_65 : decode b_Dc_misses 65 = .ok (.ireturn, 1) := by decide +kernel
theorem d_Dc_misses_66 : decode b_Dc_misses 66 = .ok (.aload_n 0, 1) := by decide +kernel
theorem d_Dc_misses_67 : decode b_Dc_misses 67 = .ok (.getfield 19, 3) := by decide +kernel
theorem d_Dc_misses_70 : decode b_Dc_misses 70 = .ok (.iload_n 2, 1) := by decide +kernel
theorem d_Dc_misses_71 : decode b_Dc_misses 71 = .ok (.iaload, 1) := by decide +kernel
theorem d_Dc_misses_72 : decode b_Dc_misses 72 = .ok (.aload_n 0, 1) := by decide +kernel
theorem d_Dc_misses_73 : decode b_Dc_misses 73 = .ok (.getfield 19, 3) := by decide +kernel
theorem d_Dc_misses_76 : decode b_Dc_misses 76 = .ok (.iload_n 3, 1) := by decide +kernel
theorem d_Dc_misses_77 : decode b_Dc_misses 77 = .ok (.iaload, 1) := by decide +kernel
theorem d_Dc_misses_78 : decode b_Dc_misses 78 = .ok (.if_icmp .gt 7, 3) := by decide +kernel
theorem d_Dc_misses_81 : decode b_Dc_misses 81 = .ok (.iload_n 2, 1) := by decide +kernel
theorem d_Dc_misses_82 : decode b_Dc_misses 82 = .ok (.goto 4, 3) := by decide +kernel
theorem d_Dc_misses_85 : decode b_Dc_misses 85 = .ok (.iload_n 3, 1) := by decide +kernel
theorem d_Dc_misses_86 : decode b_Dc_misses 86 = .ok (.istore 4, 2) := by decide +kernel
theorem d_Dc_misses_88 : decode b_Dc_misses 88 = .ok (.aload_n 0, 1) := by decide +kernel
theorem d_Dc_misses_89 : decode b_Dc_misses 89 = .ok (.getfield 15, 3) := by decide +kernel
theorem d_Dc_misses_92 : decode b_Dc_misses 92 = .ok (.iload 4, 2) := by decide +kernel
theorem d_Dc_misses_94 : decode b_Dc_misses 94 = .ok (.iload_n 1, 1) := by decide +kernel
theorem d_Dc_misses_95 : decode b_Dc_misses 95 = .ok (.iastore, 1) := by decide +kernel
theorem d_Dc_misses_96 : decode b_Dc_misses 96 = .ok (.aload_n 0, 1) := by decide +kernel
theorem d_Dc_misses_97 : decode b_Dc_misses 97 = .ok (.getfield 19, 3) := by decide +kernel
theorem d_Dc_misses_100 : decode b_Dc_misses 100 = .ok (.iload 4, 2) := by decide +kernel
theorem d_Dc_misses_102 : decode b_Dc_misses 102 = .ok (.aload_n 0, 1) := by decide +kernel
theorem d_Dc_misses_103 : decode b_Dc_misses 103 = .ok (.getfield 22, 3) := by decide +kernel
theorem d_Dc_misses_106 : decode b_Dc_misses 106 = .ok (.iastore, 1) := by decide +kernel
theorem d_Dc_misses_107 : decode b_Dc_misses 107 = .ok (.aload_n 0, 1) := by decide +kernel
theorem d_Dc_misses_108 : decode b_Dc_misses 108 = .ok (.dup, 1) := by decide +kernel
theorem d_Dc_misses_109 : decode b_Dc_misses 109 = .ok (.getfield 9, 3) := by decide +kernel
theorem d_Dc_misses_112 : decode b_Dc_misses 112 = .ok (.iconst 1, 1) := by decide +kernel
theorem d_Dc_misses_113 : decode b_Dc_misses 113 = .ok (.iadd, 1) := by decide +kernel
theorem d_Dc_misses_114 : decode b_Dc_misses 114 = .ok (.putfield 9, 3) := by decide +kernel
theorem d_Dc_misses_117 : decode b_Dc_misses 117 = .ok (.iconst 1, 1) := by decide +kernel
theorem d_Dc_misses_118 : decode b_Dc_misses 118 = .ok (.ireturn, 1) := by decide +kernel
theorem d_In_init_0 : decode b_In_init 0 = .ok (.aload_n 0, 1) := by decide +kernel
theorem d_In_init_1 : decode b_In_init 1 = .ok (.invokespecial 3, 3) := by decide +kernel
theorem d_In_init_4 : decode b_In_init 4 = .ok (.aload_n 0, 1) := by decide +kernel
theorem d_In_init_5 : decode b_In_init 5 = .ok (.iconst 0, 1) := by decide +kernel
theorem d_In_init_6 : decode b_In_init 6 = .ok (.putfield 9, 3) := by decide +kernel
theorem d_In_init_9 : decode b_In_init 9 = .ok (.aload_n 0, 1) := by decide +kernel
theorem d_In_init_10 : decode b_In_init 10 = .ok (.iconst 0, 1) := by decide +kernel
theorem d_In_init_11 : decode b_In_init 11 = .ok (.putfield 15, 3) := by decide +kernel
theorem d_In_init_14 : decode b_In_init 14 = .ok (.aload_n 0, 1) := by decide +kernel
theorem d_In_init_15 : decode b_In_init 15 = .ok (.iconst 0, 1) := by decide +kernel
theorem d_In_init_16 : decode b_In_init 16 = .ok (.putfield 18, 3) := by decide +kernel
theorem d_In_init_19 : decode b_In_init 19 = .ok (.aload_n 0, 1) := by decide +kernel
theorem d_In_init_20 : decode b_In_init 20 = .ok (.iconst 0, 1) := by decide +kernel
theorem d_In_init_21 : decode b_In_init 21 = .ok (.putfield 21, 3) := by decide +kernel
theorem d_In_init_24 : decode b_In_init 24 = .ok (.aload_n 0, 1) := by decide +kernel
theorem d_In_init_25 : decode b_In_init 25 = .ok (.iconst 0, 1) := by decide +kernel
theorem d_In_init_26 : decode b_In_init 26 = .ok (.putfield 24, 3) := by decide +kernel
theorem d_In_init_29 : decode b_In_init 29 = .ok (.aload_n 0, 1) := by decide +kernel
theorem d_In_init_30 : decode b_In_init 30 = .ok (.iconst (-1), 1) := by decide +kernel
theorem d_In_init_31 : decode b_In_init 31 = .ok (.putfield 27, 3) := by decide +kernel
theorem d_In_init_34 : decode b_In_init 34 = .ok (.aload_n 0, 1) := by decide +kernel
theorem d_In_init_35 : decode b_In_init 35 = .ok (.iconst (-1), 1) := by decide +kernel
theorem d_In_init_36 : decode b_In_init 36 = .ok (.putfield 30, 3) := by decide +kernel
theorem d_In_init_39 : decode b_In_init 39 = .ok (.aload_n 0, 1) := by decide +kernel
theorem d_In_init_40 : decode b_In_init 40 = .ok (.iconst (-1), 1) := by decide +kernel
theorem d_In_init_41 : decode b_In_init 41 = .ok (.putfield 33, 3) := by decide +kernel
theorem d_In_init_44 : decode b_In_init 44 = .ok (.return_, 1) := by decide +kernel
theorem d_In_become_0 : decode b_In_become 0 = .ok (.aload_n 0, 1) := by decide +kernel
theorem d_In_become_1 : decode b_In_become 1 = .ok (.iload_n 1, 1) := by decide +kernel
theorem d_In_become_2 : decode b_In_become 2 = .ok (.putfield 9, 3) := by decide +kernel
theorem d_In_become_5 : decode b_In_become 5 = .ok (.aload_n 0, 1) := by decide +kernel
theorem d_In_become_6 : decode b_In_become 6 = .ok (.iload_n 2, 1) := by decide +kernel
theorem d_In_become_7 : decode b_In_become 7 = .ok (.putfield 15, 3) := by decide +kernel
theorem d_In_become_10 : decode b_In_become 10 = .ok (.aload_n 0, 1) := by decide +kernel
theorem d_In_become_11 : decode b_In_become 11 = .ok (.iload_n 3, 1) := by decide +kernel
theorem d_In_become_12 : decode b_In_become 12 = .ok (.putfield 18, 3) := by decide +kernel
theorem d_In_become_15 : decode b_In_become 15 = .ok (.aload_n 0, 1) := by decide +kernel
theorem d_In_become_16 : decode b_In_become 16 = .ok (.iload 4, 2) := by decide +kernel
theorem d_In_become_18 : decode b_In_become 18 = .ok (.putfield 21, 3) := by decide +kernel
theorem d_In_become_21 : decode b_In_become 21 = .ok (.aload_n 0, 1) := by decide +kernel
theorem d_In_become_22 : decode b_In_become 22 = .ok (.iload 5, 2) := by decide +kernel
theorem d_In_become_24 : decode b_In_become 24 = .ok (.putfield 24, 3) := by decide +kernel
theorem d_In_become_27 : decode b_In_become 27 = .ok (.aload_n 0, 1) := by decide +kernel
theorem d_In_become_28 : decode b_In_become 28 = .ok (.getstatic 36, 3) := by decide +kernel
theorem d_In_become_31 : decode b_In_become 31 = .ok (.aload_n 0, 1) := by decide +kernel
theorem d_In_become_32 : decode b_In_become 32 = .ok (.getfield 9, 3) := by decide +kernel
theorem d_In_become_35 : decode b_In_become 35 = .ok (.iaload, 1) := by decide +kernel
theorem d_In_become_36 : decode b_In_become 36 = .ok (.aload_n 0, 1) := by decide +kernel
theorem d_In_become_37 : decode b_In_become 37 = .ok (.getfield 15, 3) := by decide +kernel
theorem d_In_become_40 : decode b_In_become 40 = .ok (.invokestatic 40, 3) := by decide +kernel
theorem d_In_become_43 : decode b_In_become 43 = .ok (.putfield 27, 3) := by decide +kernel
theorem d_In_become_46 : decode b_In_become 46 = .ok (.aload_n 0, 1) := by decide +kernel
theorem d_In_become_47 : decode b_In_become 47 = .ok (.getstatic 44, 3) := by decide +kernel
theorem d_In_become_50 : decode b_In_become 50 = .ok (.aload_n 0, 1) := by decide +kernel
theorem d_In_become_51 : decode b_In_become 51 = .ok (.getfield 9, 3) := by decide +kernel
theorem d_In_become_54 : decode b_In_become 54 = .ok (.iaload, 1) := by decide +kernel
theorem d_In_become_55 : decode b_In_become 55 = .ok (.aload_n 0, 1) := by decide +kernel
theorem d_In_become_56 : decode b_In_become 56 = .ok (.getfield 18, 3) := by decide +kernel
theorem d_In_become_59 : decode b_In_become 59 = .ok (.invokestatic 40, 3) := by decide +kernel
theorem d_In_become_62 : decode b_In_become 62 = .ok (.putfield 30, 3) := by decide +kernel
theorem d_In_become_65 : decode b_In_become 65 = .ok (.aload_n 0, 1) := by decide +kernel
theorem d_In_become_66 : decode b_In_become 66 = .ok (.getstatic 47, 3) := by decide +kernel
theorem d_In_become_69 : decode b_In_become 69 = .ok (.aload_n 0, 1) := by decide +kernel
theorem d_In_become_70 : decode b_In_become 70 = .ok (.getfield 9, 3) := by decide +kernel
theorem d_In_become_73 : decode b_In_become 73 = .ok (.iaload, 1) := by decide +kernel
theorem d_In_become_74 : decode b_In_become 74 = .ok (.aload_n 0, 1) := by decide +kernel
theorem d_In_become_75 : decode b_In_become 75 = .ok (.getfield 21, 3) := by decide +kernel
theorem d_In_become_78 : decode b_In_become 78 = .ok (.invokestatic 40, 3) := by decide +kernel
theorem d_In_become_81 : decode b_In_become 81 = .ok (.putfield 33, 3) := by decide +kernel
theorem d_In_become_84 : decode b_In_become 84 = .ok (.return_, 1) := by decide +kernel
theorem d_In_readsWhatIsWrittenBy_0 : decode b_In_readsWhatIsWrittenBy 0 = .ok (.aload_n 1, 1) := by decide +kernel
theorem d_In_readsWhatIsWrittenBy_1 : decode b_In_readsWhatIsWrittenBy 1 = .ok (.getfield 27, 3) := by decide +kernel
theorem d_In_readsWhatIsWrittenBy_4 : decode b_In_readsWhatIsWrittenBy 4 = .ok (.istore_n 2, 1) := by decide +kernel
theorem d_In_readsWhatIsWrittenBy_5 : decode b_In_readsWhatIsWrittenBy 5 = .ok (.iload_n 2, 1) := by decide +kernel
theorem d_In_readsWhatIsWrittenBy_6 : decode b_In_readsWhatIsWrittenBy 6 = .ok (.iconst (-1), 1) := by decide +kernel
theorem d_In_readsWhatIsWrittenBy_7 : decode b_In_readsWhatIsWrittenBy 7 = .ok (.if_icmp .eq 23, 3) := by decide +kernel
theorem d_In_readsWhatIsWrittenBy_10 : decode b_In_readsWhatIsWrittenBy 10 = .ok (.aload_n 0, 1) := by decide +kernel
theorem d_In_readsWhatIsWrittenBy_11 : decode b_In_readsWhatIsWrittenBy 11 = .ok (.getfield 30, 3) := by decide +kernel
theorem d_In_readsWhatIsWrittenBy_14 : decode b_In_readsWhatIsWrittenBy 14 = .ok (.iload_n 2, 1) := by decide +kernel
theorem d_In_readsWhatIsWrittenBy_15 : decode b_In_readsWhatIsWrittenBy 15 = .ok (.if_icmp .eq 11, 3) := by decide +kernel
theorem d_In_readsWhatIsWrittenBy_18 : decode b_In_readsWhatIsWrittenBy 18 = .ok (.aload_n 0, 1) := by decide +kernel
theorem d_In_readsWhatIsWrittenBy_19 : decode b_In_readsWhatIsWrittenBy 19 = .ok (.getfield 33, 3) := by decide +kernel
theorem d_In_readsWhatIsWrittenBy_22 : decode b_In_readsWhatIsWrittenBy 22 = .ok (.iload_n 2, 1) := by decide +kernel
theorem d_In_readsWhatIsWrittenBy_23 : decode b_In_readsWhatIsWrittenBy 23 = .ok (.if_icmp .ne 7, 3) := by decide +kernel
theorem d_In_readsWhatIsWrittenBy_26 : decode b_In_readsWhatIsWrittenBy 26 = .ok (.iconst 1, 1) := by decide +kernel
theorem d_In_readsWhatIsWrittenBy_27 : decode b_In_readsWhatIsWrittenBy 27 = .ok (.goto 4, 3) := by decide +kernel
theorem d_In_readsWhatIsWrittenBy_30 : decode b_In_readsWhatIsWrittenBy 30 = .ok (.iconst 0, 1) := by decide +kernel
theorem d_In_readsWhatIsWrittenBy_31 : decode b_In_readsWhatIsWrittenBy 31 = .ok (.ireturn, 1) := by decide +kernel
theorem d_In_mustStayBehind_0 : decode b_In_mustStayBehind 0 = .ok (.aload_n 0, 1) := by decide +kernel
theorem d_In_mustStayBehind_1 : decode b_In_mustStayBehind 1 = .ok (.getfield 27, 3) := by decide +kernel
theorem d_In_mustStayBehind_4 : decode b_In_mustStayBehind 4 = .ok (.iconst (-1), 1) := by decide +kernel
theorem d_In_mustStayBehind_5 : decode b_In_mustStayBehind 5 = .ok (.if_icmp .eq 18, 3) := by decide +kernel
theorem d_In_mustStayBehind_8 : decode b_In_mustStayBehind 8 = .ok (.aload_n 0, 1) := by decide +kernel
theorem d_In_mustStayBehind_9 : decode b_In_mustStayBehind 9 = .ok (.getfield 27, 3) := by decide +kernel
theorem d_In_mustStayBehind_12 : decode b_In_mustStayBehind 12 = .ok (.aload_n 1, 1) := by decide +kernel
theorem d_In_mustStayBehind_13 : decode b_In_mustStayBehind 13 = .ok (.getfield 27, 3) := by decide +kernel
theorem d_In_mustStayBehind_16 : decode b_In_mustStayBehind 16 = .ok (.if_icmp .ne 7, 3) := by decide +kernel
theorem d_In_mustStayBehind_19 : decode b_In_mustStayBehind 19 = .ok (.iconst 1, 1) := by decide +kernel
theorem d_In_mustStayBehind_20 : decode b_In_mustStayBehind 20 = .ok (.goto 4, 3) := by decide +kernel
theorem d_In_mustStayBehind_23 : decode b_In_mustStayBehind 23 = .ok (.iconst 0, 1) := by decide +kernel
theorem d_In_mustStayBehind_24 : decode b_In_mustStayBehind 24 = .ok (.istore_n 2, 1) := by decide +kernel
theorem d_In_mustStayBehind_25 : decode b_In_mustStayBehind 25 = .ok (.iload_n 2, 1) := by decide +kernel
theorem d_In_mustStayBehind_26 : decode b_In_mustStayBehind 26 = .ok (.ifCond .ne 33, 3) := by decide +kernel
theorem d_In_mustStayBehind_29 : decode b_In_mustStayBehind 29 = .ok (.aload_n 0, 1) := by decide +kernel
theorem d_In_mustStayBehind_30 : decode b_In_mustStayBehind 30 = .ok (.aload_n 1, 1) := by decide +kernel
theorem d_In_mustStayBehind_31 : decode b_In_mustStayBehind 31 = .ok (.invokevirtual 50, 3) := by decide +kernel
theorem d_In_mustStayBehind_34 : decode b_In_mustStayBehind 34 = .ok (.ifCond .ne 25, 3) := by decide +kernel
theorem d_In_mustStayBehind_37 : decode b_In_mustStayBehind 37 = .ok (.aload_n 1, 1) := by decide +kernel
theorem d_In_mustStayBehind_38 : decode b_In_mustStayBehind 38 = .ok (.aload_n 0, 1) := by decide +kernel
theorem d_In_mustStayBehind_39 : decode b_In_mustStayBehind 39 = .ok (.invokevirtual 50, 3) := by decide +kernel
theorem d_In_mustStayBehind_42 : decode b_In_mustStayBehind 42 = .ok (.ifCond .ne 17, 3) := by decide +kernel
theorem d_In_mustStayBehind_45 : decode b_In_mustStayBehind 45 = .ok (.aload_n 0, 1) := by decide +kernel
theorem d_In_mustStayBehind_46 : decode b_In_mustStayBehind 46 = .ok (.invokevirtual 54, 3) := by decide +kernel
theorem d_In_mustStayBehind_49 : decode b_In_mustStayBehind 49 = .ok (.ifCond .eq 14, 3) := by decide +kernel
theorem d_In_mustStayBehind_52 : decode b_In_mustStayBehind 52 = .ok (.aload_n 1, 1) := by decide +kernel
theorem d_In_mustStayBehind_53 : decode b_In_mustStayBehind 53 = .ok (.invokevirtual 54, 3) := by decide +kernel
theorem d_In_mustStayBehind_56 : decode b_In_mustStayBehind 56 = .ok (.ifCond .eq 7, 3) := by decide +kernel
theorem d_In_mustStayBehind_59 : decode b_In_mustStayBehind 59 = .ok (.iconst 1, 1) := by decide +kernel
theorem d_In_mustStayBehind_60 : decode b_In_mustStayBehind 60 = .ok (.goto 4, 3) := by decide +kernel
theorem d_In_mustStayBehind_63 : decode b_In_mustStayBehind 63 = .ok (.iconst 0, 1) := by decide +kernel
theorem d_In_mustStayBehind_64 : decode b_In_mustStayBehind 64 = .ok (.ireturn, 1) := by decide +kernel
theorem d_In_goesToMemory_0 : decode b_In_goesToMemory 0 = .ok (.aload_n 0, 1) := by decide +kernel
theorem d_In_goesToMemory_1 : decode b_In_goesToMemory 1 = .ok (.getfield 9, 3) := by decide +kernel
theorem d_In_goesToMemory_4 : decode b_In_goesToMemory 4 = .ok (.bipush 6, 2) := by decide +kernel
theorem d_In_goesToMemory_6 : decode b_In_goesToMemory 6 = .ok (.if_icmp .lt 16, 3) := by decide +kernel
theorem d_In_goesToMemory_9 : decode b_In_goesToMemory 9 = .ok (.aload_n 0, 1) := by decide +kernel
theorem d_In_goesToMemory_10 : decode b_In_goesToMemory 10 = .ok (.getfield 9, 3) := by decide +kernel
theorem d_In_goesToMemory_13 : decode b_In_goesToMemory 13 = .ok (.bipush 9, 2) := by decide +kernel
theorem d_In_goesToMemory_15 : decode b_In_goesToMemory 15 = .ok (.if_icmp .gt 7, 3) := by decide +kernel
theorem d_In_goesToMemory_18 : decode b_In_goesToMemory 18 = .ok (.iconst 1, 1) := by decide +kernel
theorem d_In_goesToMemory_19 : decode b_In_goesToMemory 19 = .ok (.goto 4, 3) := by decide +kernel
theorem d_In_goesToMemory_22 : decode b_In_goesToMemory 22 = .ok (.iconst 0, 1) := by decide +kernel
theorem d_In_goesToMemory_23 : decode b_In_goesToMemory 23 = .ok (.ireturn, 1) := by decide +kernel
theorem d_In_hasTarget_0 : decode b_In_hasTarget 0 = .ok (.aload_n 0, 1) := by decide +kernel
theorem d_In_hasTarget_1 : decode b_In_hasTarget 1 = .ok (.getfield 9, 3) := by decide +kernel
theorem d_In_hasTarget_4 : decode b_In_hasTarget 4 = .ok (.bipush 17, 2) := by decide +kernel
theorem d_In_hasTarget_6 : decode b_In_hasTarget 6 = .ok (.if_icmp .lt 7, 3) := by decide +kernel
theorem d_In_hasTarget_9 : decode b_In_hasTarget 9 = .ok (.iconst 1, 1) := by decide +kernel
theorem d_In_hasTarget_10 : decode b_In_hasTarget 10 = .ok (.goto 4, 3) := by decide +kernel
theorem d_In_hasTarget_13 : decode b_In_hasTarget 13 = .ok (.iconst 0, 1) := by decide +kernel
theorem d_In_hasTarget_14 : decode b_In_hasTarget 14 = .ok (.ireturn, 1) := by decide +kernel
theorem d_In_endsBlock_0 : decode b_In_endsBlock 0 = .ok (.aload_n 0, 1) := by decide +kernel
theorem d_In_endsBlock_1 : decode b_In_endsBlock 1 = .ok (.getfield 9, 3) := by decide +kernel
theorem d_In_endsBlock_4 : decode b_In_endsBlock 4 = .ok (.ifCond .eq 10, 3) := by decide +kernel
theorem d_In_endsBlock_7 : decode b_In_endsBlock 7 = .ok (.aload_n 0, 1) := by decide +kernel
theorem d_In_endsBlock_8 : decode b_In_endsBlock 8 = .ok (.invokevirtual 58, 3) := by decide +kernel
theorem d_In_endsBlock_11 : decode b_In_endsBlock 11 = .ok (.ifCond .eq 7, 3) := by decide +kernel
theorem d_In_endsBlock_14 : decode b_In_endsBlock 14 = .ok (.iconst 1, 1) := by decide +kernel
theorem d_In_endsBlock_15 : decode b_In_endsBlock 15 = .ok (.goto 4, 3) := by decide +kernel
theorem d_In_endsBlock_18 : decode b_In_endsBlock 18 = .ok (.iconst 0, 1) := by decide +kernel
theorem d_In_endsBlock_19 : decode b_In_endsBlock 19 = .ok (.ireturn, 1) := by decide +kernel
theorem d_In_target_0 : decode b_In_target 0 = .ok (.aload_n 0, 1) := by decide +kernel
theorem d_In_target_1 : decode b_In_target 1 = .ok (.getfield 24, 3) := by decide +kernel
theorem d_In_target_4 : decode b_In_target 4 = .ok (.bipush 24, 2) := by decide +kernel
theorem d_In_target_6 : decode b_In_target 6 = .ok (.invokestatic 61, 3) := by decide +kernel
theorem d_In_target_9 : decode b_In_target 9 = .ok (.ireturn, 1) := by decide +kernel
theorem d_In_latency_0 : decode b_In_latency 0 = .ok (.getstatic 66, 3) := by decide +kernel
theorem d_In_latency_3 : decode b_In_latency 3 = .ok (.aload_n 0, 1) := by decide +kernel
theorem d_In_latency_4 : decode b_In_latency 4 = .ok (.getfield 9, 3) := by decide +kernel
theorem d_In_latency_7 : decode b_In_latency 7 = .ok (.iaload, 1) := by decide +kernel
theorem d_In_latency_8 : decode b_In_latency 8 = .ok (.ireturn, 1) := by decide +kernel
theorem d_In_keepsItsTurn_0 : decode b_In_keepsItsTurn 0 = .ok (.aload_n 0, 1) := by decide +kernel
theorem d_In_keepsItsTurn_1 : decode b_In_keepsItsTurn 1 = .ok (.getfield 9, 3) := by decide +kernel
theorem d_In_keepsItsTurn_4 : decode b_In_keepsItsTurn 4 = .ok (.bipush 6, 2) := by decide +kernel
theorem d_In_keepsItsTurn_6 : decode b_In_keepsItsTurn 6 = .ok (.if_icmp .lt 16, 3) := by decide +kernel
theorem d_In_keepsItsTurn_9 : decode b_In_keepsItsTurn 9 = .ok (.aload_n 0, 1) := by decide +kernel
theorem d_In_keepsItsTurn_10 : decode b_In_keepsItsTurn 10 = .ok (.getfield 9, 3) := by decide +kernel
theorem d_In_keepsItsTurn_13 : decode b_In_keepsItsTurn 13 = .ok (.bipush 13, 2) := by decide +kernel
theorem d_In_keepsItsTurn_15 : decode b_In_keepsItsTurn 15 = .ok (.if_icmp .gt 7, 3) := by decide +kernel
theorem d_In_keepsItsTurn_18 : decode b_In_keepsItsTurn 18 = .ok (.iconst 1, 1) := by decide +kernel
theorem d_In_keepsItsTurn_19 : decode b_In_keepsItsTurn 19 = .ok (.goto 4, 3) := by decide +kernel
theorem d_In_keepsItsTurn_22 : decode b_In_keepsItsTurn 22 = .ok (.iconst 0, 1) := by decide +kernel
theorem d_In_keepsItsTurn_23 : decode b_In_keepsItsTurn 23 = .ok (.ireturn, 1) := by decide +kernel
theorem d_In_register_0 : decode b_In_register 0 = .ok (.iload_n 0, 1) := by decide +kernel
theorem d_In_register_1 : decode b_In_register 1 = .ok (.iconst 2, 1) := by decide +kernel
theorem d_In_register_2 : decode b_In_register 2 = .ok (.if_icmp .ne 10, 3) := by decide +kernel
theorem d_In_register_5 : decode b_In_register 5 = .ok (.bipush 8, 2) := by decide +kernel
theorem d_In_register_7 : decode b_In_register 7 = .ok (.iload_n 1, 1) := by decide +kernel
theorem d_In_register_8 : decode b_In_register 8 = .ok (.iconst 4, 1) := by decide +kernel
theorem d_In_register_9 : decode b_In_register 9 = .ok (.irem, 1) := by decide +kernel
theorem d_In_register_10 : decode b_In_register 10 = .ok (.iadd, 1) := by decide +kernel
theorem d_In_register_11 : decode b_In_register 11 = .ok (.ireturn, 1) := by decide +kernel
theorem d_In_register_12 : decode b_In_register 12 = .ok (.iload_n 0, 1) := by decide +kernel
theorem d_In_register_13 : decode b_In_register 13 = .ok (.iconst 1, 1) := by decide +kernel
theorem d_In_register_14 : decode b_In_register 14 = .ok (.if_icmp .ne 11, 3) := by decide +kernel
theorem d_In_register_17 : decode b_In_register 17 = .ok (.iload_n 1, 1) := by decide +kernel
theorem d_In_register_18 : decode b_In_register 18 = .ok (.ifCond .eq 7, 3) := by decide +kernel
theorem d_In_register_21 : decode b_In_register 21 = .ok (.iload_n 1, 1) := by decide +kernel
theorem d_In_register_22 : decode b_In_register 22 = .ok (.goto 4, 3) := by decide +kernel
theorem d_In_register_25 : decode b_In_register 25 = .ok (.iconst (-1), 1) := by decide +kernel
theorem d_In_register_26 : decode b_In_register 26 = .ok (.ireturn, 1) := by decide +kernel
theorem d_Pr_init_0 : decode b_Pr_init 0 = .ok (.aload_n 0, 1) := by decide +kernel
theorem d_Pr_init_1 : decode b_Pr_init 1 = .ok (.invokespecial 1, 3) := by decide +kernel
theorem d_Pr_init_4 : decode b_Pr_init 4 = .ok (.aload_n 0, 1) := by decide +kernel
theorem d_Pr_init_5 : decode b_Pr_init 5 = .ok (.iconst 0, 1) := by decide +kernel
theorem d_Pr_init_6 : decode b_Pr_init 6 = .ok (.putfield 7, 3) := by decide +kernel
theorem d_Pr_init_9 : decode b_Pr_init 9 = .ok (.aload_n 0, 1) := by decide +kernel
theorem d_Pr_init_10 : decode b_Pr_init 10 = .ok (.bipush 8, 2) := by decide +kernel
theorem d_Pr_init_12 : decode b_Pr_init 12 = .ok (.newarray .int, 2) := by decide +kernel
theorem d_Pr_init_14 : decode b_Pr_init 14 = .ok (.putfield 13, 3) := by decide +kernel
theorem d_Pr_init_17 : decode b_Pr_init 17 = .ok (.aload_n 0, 1) := by decide +kernel
theorem d_Pr_init_18 : decode b_Pr_init 18 = .ok (.invokevirtual 17, 3) := by decide +kernel
theorem d_Pr_init_21 : decode b_Pr_init 21 = .ok (.return_, 1) := by decide +kernel
theorem d_Pr_reset_0 : decode b_Pr_reset 0 = .ok (.aload_n 0, 1) := by decide +kernel
theorem d_Pr_reset_1 : decode b_Pr_reset 1 = .ok (.getfield 13, 3) := by decide +kernel
theorem d_Pr_reset_4 : decode b_Pr_reset 4 = .ok (.iconst 1, 1) := by decide +kernel
theorem d_Pr_reset_5 : decode b_Pr_reset 5 = .ok (.invokestatic 20, 3) := by decide +kernel
theorem d_Pr_reset_8 : decode b_Pr_reset 8 = .ok (.aload_n 0, 1) := by decide +kernel
theorem d_Pr_reset_9 : decode b_Pr_reset 9 = .ok (.iconst 0, 1) := by decide +kernel
theorem d_Pr_reset_10 : decode b_Pr_reset 10 = .ok (.putfield 7, 3) := by decide +kernel
theorem d_Pr_reset_13 : decode b_Pr_reset 13 = .ok (.return_, 1) := by decide +kernel
theorem d_Pr_guessesWrong_0 : decode b_Pr_guessesWrong 0 = .ok (.iload_n 1, 1) := by decide +kernel
theorem d_Pr_guessesWrong_1 : decode b_Pr_guessesWrong 1 = .ok (.bipush 8, 2) := by decide +kernel
theorem d_Pr_guessesWrong_3 : decode b_Pr_guessesWrong 3 = .ok (.irem, 1) := by decide +kernel
theorem d_Pr_guessesWrong_4 : decode b_Pr_guessesWrong 4 = .ok (.istore_n 3, 1) := by decide +kernel
theorem d_Pr_guessesWrong_5 : decode b_Pr_guessesWrong 5 = .ok (.aload_n 0, 1) := by decide +kernel
theorem d_Pr_guessesWrong_6 : decode b_Pr_guessesWrong 6 = .ok (.getfield 13, 3) := by decide +kernel
theorem d_Pr_guessesWrong_9 : decode b_Pr_guessesWrong 9 = .ok (.iload_n 3, 1) := by decide +kernel
theorem d_Pr_guessesWrong_10 : decode b_Pr_guessesWrong 10 = .ok (.iaload, 1) := by decide +kernel
theorem d_Pr_guessesWrong_11 : decode b_Pr_guessesWrong 11 = .ok (.iconst 2, 1) := by decide +kernel
theorem d_Pr_guessesWrong_12 : decode b_Pr_guessesWrong 12 = .ok (.if_icmp .lt 7, 3) := by decide +kernel
theorem d_Pr_guessesWrong_15 : decode b_Pr_guessesWrong 15 = .ok (.iconst 1, 1) := by decide +kernel
theorem d_Pr_guessesWrong_16 : decode b_Pr_guessesWrong 16 = .ok (.goto 4, 3) := by decide +kernel
theorem d_Pr_guessesWrong_19 : decode b_Pr_guessesWrong 19 = .ok (.iconst 0, 1) := by decide +kernel
theorem d_Pr_guessesWrong_20 : decode b_Pr_guessesWrong 20 = .ok (.iload_n 2, 1) := by decide +kernel
theorem d_Pr_guessesWrong_21 : decode b_Pr_guessesWrong 21 = .ok (.if_icmp .eq 7, 3) := by decide +kernel
theorem d_Pr_guessesWrong_24 : decode b_Pr_guessesWrong 24 = .ok (.iconst 1, 1) := by decide +kernel
theorem d_Pr_guessesWrong_25 : decode b_Pr_guessesWrong 25 = .ok (.goto 4, 3) := by decide +kernel
theorem d_Pr_guessesWrong_28 : decode b_Pr_guessesWrong 28 = .ok (.iconst 0, 1) := by decide +kernel
theorem d_Pr_guessesWrong_29 : decode b_Pr_guessesWrong 29 = .ok (.istore 4, 2) := by decide +kernel
theorem d_Pr_guessesWrong_31 : decode b_Pr_guessesWrong 31 = .ok (.aload_n 0, 1) := by decide +kernel
theorem d_Pr_guessesWrong_32 : decode b_Pr_guessesWrong 32 = .ok (.getfield 13, 3) := by decide +kernel
theorem d_Pr_guessesWrong_35 : decode b_Pr_guessesWrong 35 = .ok (.iload_n 3, 1) := by decide +kernel
theorem d_Pr_guessesWrong_36 : decode b_Pr_guessesWrong 36 = .ok (.iload_n 2, 1) := by decide +kernel
theorem d_Pr_guessesWrong_37 : decode b_Pr_guessesWrong 37 = .ok (.ifCond .eq 18, 3) := by decide +kernel
theorem d_Pr_guessesWrong_40 : decode b_Pr_guessesWrong 40 = .ok (.aload_n 0, 1) := by decide +kernel
theorem d_Pr_guessesWrong_41 : decode b_Pr_guessesWrong 41 = .ok (.getfield 13, 3) := by decide +kernel
theorem d_Pr_guessesWrong_44 : decode b_Pr_guessesWrong 44 = .ok (.iload_n 3, 1) := by decide +kernel
theorem d_Pr_guessesWrong_45 : decode b_Pr_guessesWrong 45 = .ok (.iaload, 1) := by decide +kernel
theorem d_Pr_guessesWrong_46 : decode b_Pr_guessesWrong 46 = .ok (.iconst 1, 1) := by decide +kernel
theorem d_Pr_guessesWrong_47 : decode b_Pr_guessesWrong 47 = .ok (.iadd, 1) := by decide +kernel
theorem d_Pr_guessesWrong_48 : decode b_Pr_guessesWrong 48 = .ok (.iconst 3, 1) := by decide +kernel
theorem d_Pr_guessesWrong_49 : decode b_Pr_guessesWrong 49 = .ok (.invokestatic 26, 3) := by decide +kernel
theorem d_Pr_guessesWrong_52 : decode b_Pr_guessesWrong 52 = .ok (.goto 15, 3) := by decide +kernel
theorem d_Pr_guessesWrong_55 : decode b_Pr_guessesWrong 55 = .ok (.aload_n 0, 1) := by decide +kernel
theorem d_Pr_guessesWrong_56 : decode b_Pr_guessesWrong 56 = .ok (.getfield 13, 3) := by decide +kernel
theorem d_Pr_guessesWrong_59 : decode b_Pr_guessesWrong 59 = .ok (.iload_n 3, 1) := by decide +kernel
theorem d_Pr_guessesWrong_60 : decode b_Pr_guessesWrong 60 = .ok (.iaload, 1) := by decide +kernel
theorem d_Pr_guessesWrong_61 : decode b_Pr_guessesWrong 61 = .ok (.iconst 1, 1) := by decide +kernel
theorem d_Pr_guessesWrong_62 : decode b_Pr_guessesWrong 62 = .ok (.isub, 1) := by decide +kernel
theorem d_Pr_guessesWrong_63 : decode b_Pr_guessesWrong 63 = .ok (.iconst 0, 1) := by decide +kernel
theorem d_Pr_guessesWrong_64 : decode b_Pr_guessesWrong 64 = .ok (.invokestatic 32, 3) := by decide +kernel
theorem d_Pr_guessesWrong_67 : decode b_Pr_guessesWrong 67 = .ok (.iastore, 1) := by decide +kernel
theorem d_Pr_guessesWrong_68 : decode b_Pr_guessesWrong 68 = .ok (.iload 4, 2) := by decide +kernel
theorem d_Pr_guessesWrong_70 : decode b_Pr_guessesWrong 70 = .ok (.ifCond .eq 13, 3) := by decide +kernel
theorem d_Pr_guessesWrong_73 : decode b_Pr_guessesWrong 73 = .ok (.aload_n 0, 1) := by decide +kernel
theorem d_Pr_guessesWrong_74 : decode b_Pr_guessesWrong 74 = .ok (.dup, 1) := by decide +kernel
theorem d_Pr_guessesWrong_75 : decode b_Pr_guessesWrong 75 = .ok (.getfield 7, 3) := by decide +kernel
theorem d_Pr_guessesWrong_78 : decode b_Pr_guessesWrong 78 = .ok (.iconst 1, 1) := by decide +kernel
theorem d_Pr_guessesWrong_79 : decode b_Pr_guessesWrong 79 = .ok (.iadd, 1) := by decide +kernel
theorem d_Pr_guessesWrong_80 : decode b_Pr_guessesWrong 80 = .ok (.putfield 7, 3) := by decide +kernel
theorem d_Pr_guessesWrong_83 : decode b_Pr_guessesWrong 83 = .ok (.iload 4, 2) := by decide +kernel
theorem d_Pr_guessesWrong_85 : decode b_Pr_guessesWrong 85 = .ok (.ireturn, 1) := by decide +kernel
theorem d_Sc_init_0 : decode b_Sc_init 0 = .ok (.aload_n 0, 1) := by decide +kernel
theorem d_Sc_init_1 : decode b_Sc_init 1 = .ok (.invokespecial 3, 3) := by decide +kernel
theorem d_Sc_init_4 : decode b_Sc_init 4 = .ok (.aload_n 0, 1) := by decide +kernel
theorem d_Sc_init_5 : decode b_Sc_init 5 = .ok (.bipush 24, 2) := by decide +kernel
theorem d_Sc_init_7 : decode b_Sc_init 7 = .ok (.anewarray 9, 3) := by decide +kernel
theorem d_Sc_init_10 : decode b_Sc_init 10 = .ok (.putfield 11, 3) := by decide +kernel
theorem d_Sc_init_13 : decode b_Sc_init 13 = .ok (.aload_n 0, 1) := by decide +kernel
theorem d_Sc_init_14 : decode b_Sc_init 14 = .ok (.bipush 24, 2) := by decide +kernel
theorem d_Sc_init_16 : decode b_Sc_init 16 = .ok (.newarray .boolean, 2) := by decide +kernel
theorem d_Sc_init_18 : decode b_Sc_init 18 = .ok (.putfield 17, 3) := by decide +kernel
theorem d_Sc_init_21 : decode b_Sc_init 21 = .ok (.aload_n 0, 1) := by decide +kernel
theorem d_Sc_init_22 : decode b_Sc_init 22 = .ok (.bipush 24, 2) := by decide +kernel
theorem d_Sc_init_24 : decode b_Sc_init 24 = .ok (.newarray .int, 2) := by decide +kernel
theorem d_Sc_init_26 : decode b_Sc_init 26 = .ok (.putfield 21, 3) := by decide +kernel
theorem d_Sc_init_29 : decode b_Sc_init 29 = .ok (.aload_n 0, 1) := by decide +kernel
theorem d_Sc_init_30 : decode b_Sc_init 30 = .ok (.bipush 24, 2) := by decide +kernel
theorem d_Sc_init_32 : decode b_Sc_init 32 = .ok (.newarray .int, 2) := by decide +kernel
theorem d_Sc_init_34 : decode b_Sc_init 34 = .ok (.putfield 25, 3) := by decide +kernel
theorem d_Sc_init_37 : decode b_Sc_init 37 = .ok (.return_, 1) := by decide +kernel
theorem d_Sc_reorder_0 : decode b_Sc_reorder 0 = .ok (.iconst 0, 1) := by decide +kernel
theorem d_Sc_reorder_1 : decode b_Sc_reorder 1 = .ok (.istore_n 2, 1) := by decide +kernel
theorem d_Sc_reorder_2 : decode b_Sc_reorder 2 = .ok (.iload_n 2, 1) := by decide +kernel
theorem d_Sc_reorder_3 : decode b_Sc_reorder 3 = .ok (.bipush 24, 2) := by decide +kernel
theorem d_Sc_reorder_5 : decode b_Sc_reorder 5 = .ok (.if_icmp .ge 18, 3) := by decide +kernel
theorem d_Sc_reorder_8 : decode b_Sc_reorder 8 = .ok (.aload_n 0, 1) := by decide +kernel
theorem d_Sc_reorder_9 : decode b_Sc_reorder 9 = .ok (.getfield 11, 3) := by decide +kernel
theorem d_Sc_reorder_12 : decode b_Sc_reorder 12 = .ok (.iload_n 2, 1) := by decide +kernel
theorem d_Sc_reorder_13 : decode b_Sc_reorder 13 = .ok (.aload_n 1, 1) := by decide +kernel
theorem d_Sc_reorder_14 : decode b_Sc_reorder 14 = .ok (.iload_n 2, 1) := by decide +kernel
theorem d_Sc_reorder_15 : decode b_Sc_reorder 15 = .ok (.aaload, 1) := by decide +kernel
theorem d_Sc_reorder_16 : decode b_Sc_reorder 16 = .ok (.aastore, 1) := by decide +kernel
theorem d_Sc_reorder_17 : decode b_Sc_reorder 17 = .ok (.iinc 2 1, 3) := by decide +kernel
theorem d_Sc_reorder_20 : decode b_Sc_reorder 20 = .ok (.goto (-18), 3) := by decide +kernel
theorem d_Sc_reorder_23 : decode b_Sc_reorder 23 = .ok (.aload_n 0, 1) := by decide +kernel
theorem d_Sc_reorder_24 : decode b_Sc_reorder 24 = .ok (.invokevirtual 28, 3) := by decide +kernel
theorem d_Sc_reorder_27 : decode b_Sc_reorder 27 = .ok (.iconst 0, 1) := by decide +kernel
theorem d_Sc_reorder_28 : decode b_Sc_reorder 28 = .ok (.istore_n 2, 1) := by decide +kernel
theorem d_Sc_reorder_29 : decode b_Sc_reorder 29 = .ok (.iconst 0, 1) := by decide +kernel
theorem d_Sc_reorder_30 : decode b_Sc_reorder 30 = .ok (.istore_n 3, 1) := by decide +kernel
theorem d_Sc_reorder_31 : decode b_Sc_reorder 31 = .ok (.iload_n 3, 1) := by decide +kernel
theorem d_Sc_reorder_32 : decode b_Sc_reorder 32 = .ok (.bipush 24, 2) := by decide +kernel
theorem d_Sc_reorder_34 : decode b_Sc_reorder 34 = .ok (.if_icmp .ge 32, 3) := by decide +kernel
theorem d_Sc_reorder_37 : decode b_Sc_reorder 37 = .ok (.aload_n 0, 1) := by decide +kernel
theorem d_Sc_reorder_38 : decode b_Sc_reorder 38 = .ok (.getfield 17, 3) := by decide +kernel
theorem d_Sc_reorder_41 : decode b_Sc_reorder 41 = .ok (.iload_n 3, 1) := by decide +kernel
theorem d_Sc_reorder_42 : decode b_Sc_reorder 42 = .ok (.baload, 1) := by decide +kernel
theorem d_Sc_reorder_43 : decode b_Sc_reorder 43 = .ok (.ifCond .eq 17, 3) := by decide +kernel
theorem d_Sc_reorder_46 : decode b_Sc_reorder 46 = .ok (.iload_n 2, 1) := by decide +kernel
theorem d_Sc_reorder_47 : decode b_Sc_reorder 47 = .ok (.aload_n 0, 1) := by decide +kernel
theorem d_Sc_reorder_48 : decode b_Sc_reorder 48 = .ok (.aload_n 1, 1) := by decide +kernel
theorem d_Sc_reorder_49 : decode b_Sc_reorder 49 = .ok (.iload_n 3, 1) := by decide +kernel
theorem d_Sc_reorder_50 : decode b_Sc_reorder 50 = .ok (.aload_n 0, 1) := by decide +kernel
theorem d_Sc_reorder_51 : decode b_Sc_reorder 51 = .ok (.iload_n 3, 1) := by decide +kernel
theorem d_Sc_reorder_52 : decode b_Sc_reorder 52 = .ok (.invokevirtual 31, 3) := by decide +kernel
theorem d_Sc_reorder_55 : decode b_Sc_reorder 55 = .ok (.invokevirtual 35, 3) := by decide +kernel
theorem d_Sc_reorder_58 : decode b_Sc_reorder 58 = .ok (.iadd, 1) := by decide +kernel
theorem d_Sc_reorder_59 : decode b_Sc_reorder 59 = .ok (.istore_n 2, 1) := by decide +kernel
theorem d_Sc_reorder_60 : decode b_Sc_reorder 60 = .ok (.iinc 3 1, 3) := by decide +kernel
theorem d_Sc_reorder_63 : decode b_Sc_reorder 63 = .ok (.goto (-32), 3) := by decide +kernel
theorem d_Sc_reorder_66 : decode b_Sc_reorder 66 = .ok (.iload_n 2, 1) := by decide +kernel
theorem d_Sc_reorder_67 : decode b_Sc_reorder 67 = .ok (.ireturn, 1) := by decide +kernel
theorem d_Sc_findLeaders_0 : decode b_Sc_findLeaders 0 = .ok (.iconst 0, 1) := by decide +kernel
theorem d_Sc_findLeaders_1 : decode b_Sc_findLeaders 1 = .ok (.istore_n 1, 1) := by decide +kernel
theorem d_Sc_findLeaders_2 : decode b_Sc_findLeaders 2 = .ok (.iload_n 1, 1) := by decide +kernel
theorem d_Sc_findLeaders_3 : decode b_Sc_findLeaders 3 = .ok (.bipush 24, 2) := by decide +kernel
theorem d_Sc_findLeaders_5 : decode b_Sc_findLeaders 5 = .ok (.if_icmp .ge 38, 3) := by decide +kernel
theorem d_Sc_findLeaders_8 : decode b_Sc_findLeaders 8 = .ok (.aload_n 0, 1) := by decide +kernel
theorem d_Sc_findLeaders_9 : decode b_Sc_findLeaders 9 = .ok (.getfield 17, 3) := by decide +kernel
theorem d_Sc_findLeaders_12 : decode b_Sc_findLeaders 12 = .ok (.iload_n 1, 1) := by decide +kernel
theorem d_Sc_findLeaders_13 : decode b_Sc_findLeaders 13 = .ok (.iload_n 1, 1) := by decide +kernel
theorem d_Sc_findLeaders_14 : decode b_Sc_findLeaders 14 = .ok (.ifCond .eq 17, 3) := by decide +kernel
theorem d_Sc_findLeaders_17 : decode b_Sc_findLeaders 17 = .ok (.aload_n 0, 1) := by decide +kernel
theorem d_Sc_findLeaders_18 : decode b_Sc_findLeaders 18 = .ok (.getfield 11, 3) := by decide +kernel
theorem d_Sc_findLeaders_21 : decode b_Sc_findLeaders 21 = .ok (.iload_n 1, 1) := by decide +kernel
theorem d_Sc_findLeaders_22 : decode b_Sc_findLeaders 22 = .ok (.iconst 1, 1) := by decide +kernel
theorem d_Sc_findLeaders_23 : decode b_Sc_findLeaders 23 = .ok (.isub, 1) := by decide +kernel
theorem d_Sc_findLeaders_24 : decode b_Sc_findLeaders 24 = .ok (.aaload, 1) := by decide +kernel
theorem d_Sc_findLeaders_25 : decode b_Sc_findLeaders 25 = .ok (.invokevirtual 39, 3) := by decide +kernel
theorem d_Sc_findLeaders_28 : decode b_Sc_findLeaders 28 = .ok (.ifCond .eq 7, 3) := by decide +kernel
theorem d_Sc_findLeaders_31 : decode b_Sc_findLeaders 31 = .ok (.iconst 1, 1) := by decide +kernel
theorem d_Sc_findLeaders_32 : decode b_Sc_findLeaders 32 = .ok (.goto 4, 3) := by decide +kernel
theorem d_Sc_findLeaders_35 : decode b_Sc_findLeaders 35 = .ok (.iconst 0, 1) := by decide +kernel
theorem d_Sc_findLeaders_36 : decode b_Sc_findLeaders 36 = .ok (.bastore, 1) := by decide +kernel
theorem d_Sc_findLeaders_37 : decode b_Sc_findLeaders 37 = .ok (.iinc 1 1, 3) := by decide +kernel
theorem d_Sc_findLeaders_40 : decode b_Sc_findLeaders 40 = .ok (.goto (-38), 3) := by decide +kernel
theorem d_Sc_findLeaders_43 : decode b_Sc_findLeaders 43 = .ok (.iconst 0, 1) := by decide +kernel
theorem d_Sc_findLeaders_44 : decode b_Sc_findLeaders 44 = .ok (.istore_n 1, 1) := by decide +kernel
theorem d_Sc_findLeaders_45 : decode b_Sc_findLeaders 45 = .ok (.iload_n 1, 1) := by decide +kernel
theorem d_Sc_findLeaders_46 : decode b_Sc_findLeaders 46 = .ok (.bipush 24, 2) := by decide +kernel
theorem d_Sc_findLeaders_48 : decode b_Sc_findLeaders 48 = .ok (.if_icmp .ge 36, 3) := by decide +kernel
theorem d_Sc_findLeaders_51 : decode b_Sc_findLeaders 51 = .ok (.aload_n 0, 1) := by decide +kernel
theorem d_Sc_findLeaders_52 : decode b_Sc_findLeaders 52 = .ok (.getfield 11, 3) := by decide +kernel
theorem d_Sc_findLeaders_55 : decode b_Sc_findLeaders 55 = .ok (.iload_n 1, 1) := by decide +kernel
theorem d_Sc_findLeaders_56 : decode b_Sc_findLeaders 56 = .ok (.aaload, 1) := by decide +kernel
theorem d_Sc_findLeaders_57 : decode b_Sc_findLeaders 57 = .ok (.invokevirtual 43, 3) := by decide +kernel
theorem d_Sc_findLeaders_60 : decode b_Sc_findLeaders 60 = .ok (.ifCond .eq 18, 3) := by decide +kernel
theorem d_Sc_findLeaders_63 : decode b_Sc_findLeaders 63 = .ok (.aload_n 0, 1) := by decide +kernel
theorem d_Sc_findLeaders_64 : decode b_Sc_findLeaders 64 = .ok (.getfield 17, 3) := by decide +kernel
theorem d_Sc_findLeaders_67 : decode b_Sc_findLeaders 67 = .ok (.aload_n 0, 1) := by decide +kernel
theorem d_Sc_findLeaders_68 : decode b_Sc_findLeaders 68 = .ok (.getfield 11, 3) := by decide +kernel
theorem d_Sc_findLeaders_71 : decode b_Sc_findLeaders 71 = .ok (.iload_n 1, 1) := by decide +kernel
theorem d_Sc_findLeaders_72 : decode b_Sc_findLeaders 72 = .ok (.aaload, 1) := by decide +kernel
theorem d_Sc_findLeaders_73 : decode b_Sc_findLeaders 73 = .ok (.invokevirtual 46, 3) := by decide +kernel
theorem d_Sc_findLeaders_76 : decode b_Sc_findLeaders 76 = .ok (.iconst 1, 1) := by decide +kernel
theorem d_Sc_findLeaders_77 : decode b_Sc_findLeaders 77 = .ok (.bastore, 1) := by decide +kernel
theorem d_Sc_findLeaders_78 : decode b_Sc_findLeaders 78 = .ok (.iinc 1 1, 3) := by decide +kernel
theorem d_Sc_findLeaders_81 : decode b_Sc_findLeaders 81 = .ok (.goto (-36), 3) := by decide +kernel
theorem d_Sc_findLeaders_84 : decode b_Sc_findLeaders 84 = .ok (.return_, 1) := by decide +kernel
theorem d_Sc_endOfBlock_0 : decode b_Sc_endOfBlock 0 = .ok (.iload_n 1, 1) := by decide +kernel
theorem d_Sc_endOfBlock_1 : decode b_Sc_endOfBlock 1 = .ok (.istore_n 2, 1) := by decide +kernel
theorem d_Sc_endOfBlock_2 : decode b_Sc_endOfBlock 2 = .ok (.iload_n 2, 1) := by decide +kernel
theorem d_Sc_endOfBlock_3 : decode b_Sc_endOfBlock 3 = .ok (.bipush 24, 2) := by decide +kernel
theorem d_Sc_endOfBlock_5 : decode b_Sc_endOfBlock 5 = .ok (.if_icmp .ge 35, 3) := by decide +kernel
theorem d_Sc_endOfBlock_8 : decode b_Sc_endOfBlock 8 = .ok (.aload_n 0, 1) := by decide +kernel
theorem d_Sc_endOfBlock_9 : decode b_Sc_endOfBlock 9 = .ok (.getfield 11, 3) := by decide +kernel
theorem d_Sc_endOfBlock_12 : decode b_Sc_endOfBlock 12 = .ok (.iload_n 2, 1) := by decide +kernel
theorem d_Sc_endOfBlock_13 : decode b_Sc_endOfBlock 13 = .ok (.aaload, 1) := by decide +kernel
theorem d_Sc_endOfBlock_14 : decode b_Sc_endOfBlock 14 = .ok (.invokevirtual 39, 3) := by decide +kernel
theorem d_Sc_endOfBlock_17 : decode b_Sc_endOfBlock 17 = .ok (.ifCond .ne 23, 3) := by decide +kernel
theorem d_Sc_endOfBlock_20 : decode b_Sc_endOfBlock 20 = .ok (.iload_n 2, 1) := by decide +kernel
theorem d_Sc_endOfBlock_21 : decode b_Sc_endOfBlock 21 = .ok (.iload_n 1, 1) := by decide +kernel
theorem d_Sc_endOfBlock_22 : decode b_Sc_endOfBlock 22 = .ok (.if_icmp .eq 12, 3) := by decide +kernel
theorem d_Sc_endOfBlock_25 : decode b_Sc_endOfBlock 25 = .ok (.aload_n 0, 1) := by decide +kernel
theorem d_Sc_endOfBlock_26 : decode b_Sc_endOfBlock 26 = .ok (.getfield 17, 3) := by decide +kernel
theorem d_Sc_endOfBlock_29 : decode b_Sc_endOfBlock 29 = .ok (.iload_n 2, 1) := by decide +kernel
theorem d_Sc_endOfBlock_30 : decode b_Sc_endOfBlock 30 = .ok (.baload, 1) := by decide +kernel
theorem d_Sc_endOfBlock_31 : decode b_Sc_endOfBlock 31 = .ok (.ifCond .ne 9, 3) := by decide +kernel
theorem d_Sc_endOfBlock_34 : decode b_Sc_endOfBlock 34 = .ok (.iinc 2 1, 3) := by decide +kernel
theorem d_Sc_endOfBlock_37 : decode b_Sc_endOfBlock 37 = .ok (.goto (-35), 3) := by decide +kernel
theorem d_Sc_endOfBlock_40 : decode b_Sc_endOfBlock 40 = .ok (.iload_n 2, 1) := by decide +kernel
theorem d_Sc_endOfBlock_41 : decode b_Sc_endOfBlock 41 = .ok (.ireturn, 1) := by decide +kernel
theorem d_Sc_reorderBlock_0 : decode b_Sc_reorderBlock 0 = .ok (.aload_n 0, 1) := by decide +kernel
theorem d_Sc_reorderBlock_1 : decode b_Sc_reorderBlock 1 = .ok (.iload_n 2, 1) := by decide +kernel
theorem d_Sc_reorderBlock_2 : decode b_Sc_reorderBlock 2 = .ok (.iload_n 3, 1) := by decide +kernel
theorem d_Sc_reorderBlock_3 : decode b_Sc_reorderBlock 3 = .ok (.invokevirtual 50, 3) := by decide +kernel
theorem d_Sc_reorderBlock_6 : decode b_Sc_reorderBlock 6 = .ok (.iconst 0, 1) := by decide +kernel
theorem d_Sc_reorderBlock_7 : decode b_Sc_reorderBlock 7 = .ok (.istore 4, 2) := by decide +kernel
theorem d_Sc_reorderBlock_9 : decode b_Sc_reorderBlock 9 = .ok (.iload_n 2, 1) := by decide +kernel
theorem d_Sc_reorderBlock_10 : decode b_Sc_reorderBlock 10 = .ok (.istore 5, 2) := by decide +kernel
theorem d_Sc_reorderBlock_12 : decode b_Sc_reorderBlock 12 = .ok (.iload 5, 2) := by decide +kernel
theorem d_Sc_reorderBlock_14 : decode b_Sc_reorderBlock 14 = .ok (.iload_n 3, 1) := by decide +kernel
theorem d_Sc_reorderBlock_15 : decode b_Sc_reorderBlock 15 = .ok (.if_icmp .ge 18, 3) := by decide +kernel
theorem d_Sc_reorderBlock_18 : decode b_Sc_reorderBlock 18 = .ok (.iload 4, 2) := by decide +kernel
theorem d_Sc_reorderBlock_20 : decode b_Sc_reorderBlock 20 = .ok (.iconst 1, 1) := by decide +kernel
theorem d_Sc_reorderBlock_21 : decode b_Sc_reorderBlock 21 = .ok (.iload 5, 2) := by decide +kernel
theorem d_Sc_reorderBlock_23 : decode b_Sc_reorderBlock 23 = .ok (.ishl, 1) := by decide +kernel
theorem d_Sc_reorderBlock_24 : decode b_Sc_reorderBlock 24 = .ok (.ior, 1) := by decide +kernel
theorem d_Sc_reorderBlock_25 : decode b_Sc_reorderBlock 25 = .ok (.istore 4, 2) := by decide +kernel
theorem d_Sc_reorderBlock_27 : decode b_Sc_reorderBlock 27 = .ok (.iinc 5 1, 3) := by decide +kernel
theorem d_Sc_reorderBlock_30 : decode b_Sc_reorderBlock 30 = .ok (.goto (-18), 3) := by decide +kernel
theorem d_Sc_reorderBlock_33 : decode b_Sc_reorderBlock 33 = .ok (.iconst 0, 1) := by decide +kernel
theorem d_Sc_reorderBlock_34 : decode b_Sc_reorderBlock 34 = .ok (.istore 5, 2) := by decide +kernel
theorem d_Sc_reorderBlock_36 : decode b_Sc_reorderBlock 36 = .ok (.iload_n 2, 1) := by decide +kernel
theorem d_Sc_reorderBlock_37 : decode b_Sc_reorderBlock 37 = .ok (.istore 6, 2) := by decide +kernel
theorem d_Sc_reorderBlock_39 : decode b_Sc_reorderBlock 39 = .ok (.iload 6, 2) := by decide +kernel
theorem d_Sc_reorderBlock_41 : decode b_Sc_reorderBlock 41 = .ok (.iload_n 3, 1) := by decide +kernel
theorem d_Sc_reorderBlock_42 : decode b_Sc_reorderBlock 42 = .ok (.if_icmp .ge 51, 3) := by decide +kernel
theorem d_Sc_reorderBlock_45 : decode b_Sc_reorderBlock 45 = .ok (.aload_n 0, 1) := by decide +kernel
theorem d_Sc_reorderBlock_46 : decode b_Sc_reorderBlock 46 = .ok (.iload_n 2, 1) := by decide +kernel
theorem d_Sc_reorderBlock_47 : decode b_Sc_reorderBlock 47 = .ok (.iload_n 3, 1) := by decide +kernel
theorem d_Sc_reorderBlock_48 : decode b_Sc_reorderBlock 48 = .ok (.iload 4, 2) := by decide +kernel
theorem d_Sc_reorderBlock_50 : decode b_Sc_reorderBlock 50 = .ok (.invokevirtual 54, 3) := by decide +kernel
theorem d_Sc_reorderBlock_53 : decode b_Sc_reorderBlock 53 = .ok (.istore 7, 2) := by decide +kernel
theorem d_Sc_reorderBlock_55 : decode b_Sc_reorderBlock 55 = .ok (.iload 4, 2) := by decide +kernel
theorem d_Sc_reorderBlock_57 : decode b_Sc_reorderBlock 57 = .ok (.iconst 1, 1) := by decide +kernel
theorem d_Sc_reorderBlock_58 : decode b_Sc_reorderBlock 58 = .ok (.iload 7, 2) := by decide +kernel
theorem d_Sc_reorderBlock_60 : decode b_Sc_reorderBlock 60 = .ok (.ishl, 1) := by decide +kernel
theorem d_Sc_reorderBlock_61 : decode b_Sc_reorderBlock 61 = .ok (.iconst (-1), 1) := by decide +kernel
theorem d_Sc_reorderBlock_62 : decode b_Sc_reorderBlock 62 = .ok (.ixor, 1) := by decide +kernel
theorem d_Sc_reorderBlock_63 : decode b_Sc_reorderBlock 63 = .ok (.iand, 1) := by decide +kernel
theorem d_Sc_reorderBlock_64 : decode b_Sc_reorderBlock 64 = .ok (.istore 4, 2) := by decide +kernel
theorem d_Sc_reorderBlock_66 : decode b_Sc_reorderBlock 66 = .ok (.aload_n 1, 1) := by decide +kernel
theorem d_Sc_reorderBlock_67 : decode b_Sc_reorderBlock 67 = .ok (.iload 6, 2) := by decide +kernel
theorem d_Sc_reorderBlock_69 : decode b_Sc_reorderBlock 69 = .ok (.aload_n 0, 1) := by decide +kernel
theorem d_Sc_reorderBlock_70 : decode b_Sc_reorderBlock 70 = .ok (.getfield 11, 3) := by decide +kernel
theorem d_Sc_reorderBlock_73 : decode b_Sc_reorderBlock 73 = .ok (.iload 7, 2) := by decide +kernel
theorem d_Sc_reorderBlock_75 : decode b_Sc_reorderBlock 75 = .ok (.aaload, 1) := by decide +kernel
theorem d_Sc_reorderBlock_76 : decode b_Sc_reorderBlock 76 = .ok (.aastore, 1) := by decide +kernel
theorem d_Sc_reorderBlock_77 : decode b_Sc_reorderBlock 77 = .ok (.iload 7, 2) := by decide +kernel
theorem d_Sc_reorderBlock_79 : decode b_Sc_reorderBlock 79 = .ok (.iload 6, 2) := by decide +kernel
theorem d_Sc_reorderBlock_81 : decode b_Sc_reorderBlock 81 = .ok (.if_icmp .eq 6, 3) := by decide +kernel
theorem d_Sc_reorderBlock_84 : decode b_Sc_reorderBlock 84 = .ok (.iinc 5 1, 3) := by decide +kernel
theorem d_Sc_reorderBlock_87 : decode b_Sc_reorderBlock 87 = .ok (.iinc 6 1, 3) := by decide +kernel
theorem d_Sc_reorderBlock_90 : decode b_Sc_reorderBlock 90 = .ok (.goto (-51), 3) := by decide +kernel
theorem d_Sc_reorderBlock_93 : decode b_Sc_reorderBlock 93 = .ok (.iload 5, 2) := by decide +kernel
theorem d_Sc_reorderBlock_95 : decode b_Sc_reorderBlock 95 = .ok (.ireturn, 1) := by decide +kernel
theorem d_Sc_findHeights_0 : decode b_Sc_findHeights 0 = .ok (.iload_n 2, 1) := by decide +kernel
theorem d_Sc_findHeights_1 : decode b_Sc_findHeights 1 = .ok (.iconst 1, 1) := by decide +kernel
theorem d_Sc_findHeights_2 : decode b_Sc_findHeights 2 = .ok (.isub, 1) := by decide +kernel
theorem d_Sc_findHeights_3 : decode b_Sc_findHeights 3 = .ok (.istore_n 3, 1) := by decide +kernel
theorem d_Sc_findHeights_4 : decode b_Sc_findHeights 4 = .ok (.iload_n 3, 1) := by decide +kernel
theorem d_Sc_findHeights_5 : decode b_Sc_findHeights 5 = .ok (.iload_n 1, 1) := by decide +kernel
theorem d_Sc_findHeights_6 : decode b_Sc_findHeights 6 = .ok (.if_icmp .lt 131, 3) := by decide +kernel
theorem d_Sc_findHeights_9 : decode b_Sc_findHeights 9 = .ok (.aload_n 0, 1) := by decide +kernel
theorem d_Sc_findHeights_10 : decode b_Sc_findHeights 10 = .ok (.getfield 21, 3) := by decide +kernel
theorem d_Sc_findHeights_13 : decode b_Sc_findHeights 13 = .ok (.iload_n 3, 1) := by decide +kernel
theorem d_Sc_findHeights_14 : decode b_Sc_findHeights 14 = .ok (.iconst 0, 1) := by decide +kernel
theorem d_Sc_findHeights_15 : decode b_Sc_findHeights 15 = .ok (.iastore, 1) := by decide +kernel
theorem d_Sc_findHeights_16 : decode b_Sc_findHeights 16 = .ok (.aload_n 0, 1) := by decide +kernel
theorem d_Sc_findHeights_17 : decode b_Sc_findHeights 17 = .ok (.getfield 25, 3) := by decide +kernel
theorem d_Sc_findHeights_20 : decode b_Sc_findHeights 20 = .ok (.iload_n 3, 1) := by decide +kernel
theorem d_Sc_findHeights_21 : decode b_Sc_findHeights 21 = .ok (.iconst 0, 1) := by decide +kernel
theorem d_Sc_findHeights_22 : decode b_Sc_findHeights 22 = .ok (.iastore, 1) := by decide +kernel
theorem d_Sc_findHeights_23 : decode b_Sc_findHeights 23 = .ok (.iload_n 3, 1) := by decide +kernel
theorem d_Sc_findHeights_24 : decode b_Sc_findHeights 24 = .ok (.iconst 1, 1) := by decide +kernel
theorem d_Sc_findHeights_25 : decode b_Sc_findHeights 25 = .ok (.iadd, 1) := by decide +kernel
theorem d_Sc_findHeights_26 : decode b_Sc_findHeights 26 = .ok (.istore 4, 2) := by decide +kernel
theorem d_Sc_findHeights_28 : decode b_Sc_findHeights 28 = .ok (.iload 4, 2) := by decide +kernel
theorem d_Sc_findHeights_30 : decode b_Sc_findHeights 30 = .ok (.iload_n 2, 1) := by decide +kernel
theorem d_Sc_findHeights_31 : decode b_Sc_findHeights 31 = .ok (.if_icmp .ge 100, 3) := by decide +kernel
theorem d_Sc_findHeights_34 : decode b_Sc_findHeights 34 = .ok (.aload_n 0, 1) := by decide +kernel
theorem d_Sc_findHeights_35 : decode b_Sc_findHeights 35 = .ok (.getfield 11, 3) := by decide +kernel
theorem d_Sc_findHeights_38 : decode b_Sc_findHeights 38 = .ok (.iload 4, 2) := by decide +kernel
theorem d_Sc_findHeights_40 : decode b_Sc_findHeights 40 = .ok (.aaload, 1) := by decide +kernel
theorem d_Sc_findHeights_41 : decode b_Sc_findHeights 41 = .ok (.aload_n 0, 1) := by decide +kernel
theorem d_Sc_findHeights_42 : decode b_Sc_findHeights 42 = .ok (.getfield 11, 3) := by decide +kernel
theorem d_Sc_findHeights_45 : decode b_Sc_findHeights 45 = .ok (.iload_n 3, 1) := by decide +kernel
theorem d_Sc_findHeights_46 : decode b_Sc_findHeights 46 = .ok (.aaload, 1) := by decide +kernel
theorem d_Sc_findHeights_47 : decode b_Sc_findHeights 47 = .ok (.invokevirtual 58, 3) := by decide +kernel
theorem d_Sc_findHeights_50 : decode b_Sc_findHeights 50 = .ok (.ifCond .eq 75, 3) := by decide +kernel
theorem d_Sc_findHeights_53 : decode b_Sc_findHeights 53 = .ok (.aload_n 0, 1) := by decide +kernel
theorem d_Sc_findHeights_54 : decode b_Sc_findHeights 54 = .ok (.getfield 11, 3) := by decide +kernel
theorem d_Sc_findHeights_57 : decode b_Sc_findHeights 57 = .ok (.iload 4, 2) := by decide +kernel
theorem d_Sc_findHeights_59 : decode b_Sc_findHeights 59 = .ok (.aaload, 1) := by decide +kernel
theorem d_Sc_findHeights_60 : decode b_Sc_findHeights 60 = .ok (.aload_n 0, 1) := by decide +kernel
theorem d_Sc_findHeights_61 : decode b_Sc_findHeights 61 = .ok (.getfield 11, 3) := by decide +kernel
theorem d_Sc_findHeights_64 : decode b_Sc_findHeights 64 = .ok (.iload_n 3, 1) := by decide +kernel
theorem d_Sc_findHeights_65 : decode b_Sc_findHeights 65 = .ok (.aaload, 1) := by decide +kernel
theorem d_Sc_findHeights_66 : decode b_Sc_findHeights 66 = .ok (.invokevirtual 62, 3) := by decide +kernel
theorem d_Sc_findHeights_69 : decode b_Sc_findHeights 69 = .ok (.ifCond .eq 15, 3) := by decide +kernel
theorem d_Sc_findHeights_72 : decode b_Sc_findHeights 72 = .ok (.aload_n 0, 1) := by decide +kernel
theorem d_Sc_findHeights_73 : decode b_Sc_findHeights 73 = .ok (.getfield 11, 3) := by decide +kernel
theorem d_Sc_findHeights_76 : decode b_Sc_findHeights 76 = .ok (.iload_n 3, 1) := by decide +kernel
theorem d_Sc_findHeights_77 : decode b_Sc_findHeights 77 = .ok (.aaload, 1) := by decide +kernel
theorem d_Sc_findHeights_78 : decode b_Sc_findHeights 78 = .ok (.invokevirtual 65, 3) := by decide +kernel
theorem d_Sc_findHeights_81 : decode b_Sc_findHeights 81 = .ok (.goto 4, 3) := by decide +kernel
theorem d_Sc_findHeights_84 : decode b_Sc_findHeights 84 = .ok (.iconst 1, 1) := by decide +kernel
theorem d_Sc_findHeights_85 : decode b_Sc_findHeights 85 = .ok (.istore 5, 2) := by decide +kernel
theorem d_Sc_findHeights_87 : decode b_Sc_findHeights 87 = .ok (.aload_n 0, 1) := by decide +kernel
theorem d_Sc_findHeights_88 : decode b_Sc_findHeights 88 = .ok (.getfield 21, 3) := by decide +kernel
theorem d_Sc_findHeights_91 : decode b_Sc_findHeights 91 = .ok (.iload_n 3, 1) := by decide +kernel
theorem d_Sc_findHeights_92 : decode b_Sc_findHeights 92 = .ok (.aload_n 0, 1) := by decide +kernel
theorem d_Sc_findHeights_93 : decode b_Sc_findHeights 93 = .ok (.getfield 21, 3) := by decide +kernel
theorem d_Sc_findHeights_96 : decode b_Sc_findHeights 96 = .ok (.iload_n 3, 1) := by decide +kernel
theorem d_Sc_findHeights_97 : decode b_Sc_findHeights 97 = .ok (.iaload, 1) := by decide +kernel
theorem d_Sc_findHeights_98 : decode b_Sc_findHeights 98 = .ok (.aload_n 0, 1) := by decide +kernel
theorem d_Sc_findHeights_99 : decode b_Sc_findHeights 99 = .ok (.getfield 21, 3) := by decide +kernel
theorem d_Sc_findHeights_102 : decode b_Sc_findHeights 102 = .ok (.iload 4, 2) := by decide +kernel
theorem d_Sc_findHeights_104 : decode b_Sc_findHeights 104 = .ok (.iaload, 1) := by decide +kernel
theorem d_Sc_findHeights_105 : decode b_Sc_findHeights 105 = .ok (.iload 5, 2) := by decide +kernel
theorem d_Sc_findHeights_107 : decode b_Sc_findHeights 107 = .ok (.iadd, 1) := by decide +kernel
theorem d_Sc_findHeights_108 : decode b_Sc_findHeights 108 = .ok (.invokestatic 68, 3) := by decide +kernel
theorem d_Sc_findHeights_111 : decode b_Sc_findHeights 111 = .ok (.iastore, 1) := by decide +kernel
theorem d_Sc_findHeights_112 : decode b_Sc_findHeights 112 = .ok (.aload_n 0, 1) := by decide +kernel
theorem d_Sc_findHeights_113 : decode b_Sc_findHeights 113 = .ok (.getfield 25, 3) := by decide +kernel
theorem d_Sc_findHeights_116 : decode b_Sc_findHeights 116 = .ok (.iload 4, 2) := by decide +kernel
theorem d_Sc_findHeights_118 : decode b_Sc_findHeights 118 = .ok (.dup2, 1) := by decide +kernel
theorem d_Sc_findHeights_119 : decode b_Sc_findHeights 119 = .ok (.iaload, 1) := by decide +kernel
theorem d_Sc_findHeights_120 : decode b_Sc_findHeights 120 = .ok (.iconst 1, 1) := by decide +kernel
theorem d_Sc_findHeights_121 : decode b_Sc_findHeights 121 = .ok (.iload_n 3, 1) := by decide +kernel
theorem d_Sc_findHeights_122 : decode b_Sc_findHeights 122 = .ok (.ishl, 1) := by decide +kernel
theorem d_Sc_findHeights_123 : decode b_Sc_findHeights 123 = .ok (.ior, 1) := by decide +kernel
theorem d_Sc_findHeights_124 : decode b_Sc_findHeights 124 = .ok (.iastore, 1) := by decide +kernel
theorem d_Sc_findHeights_125 : decode b_Sc_findHeights 125 = .ok (.iinc 4 1, 3) := by decide +kernel
theorem d_Sc_findHeights_128 : decode b_Sc_findHeights 128 = .ok (.goto (-100), 3) := by decide +kernel
theorem d_Sc_findHeights_131 : decode b_Sc_findHeights 131 = .ok (.iinc 3 (-1), 3) := by decide +kernel
theorem d_Sc_findHeights_134 : decode b_Sc_findHeights 134 = .ok (.goto (-130), 3) := by decide +kernel
theorem d_Sc_findHeights_137 : decode b_Sc_findHeights 137 = .ok (.return_, 1) := by decide +kernel
theorem d_Sc_nextToPlace_0 : decode b_Sc_nextToPlace 0 = .ok (.iconst (-1), 1) := by decide +kernel
theorem d_Sc_nextToPlace_1 : decode b_Sc_nextToPlace 1 = .ok (.istore 4, 2) := by decide +kernel
theorem d_Sc_nextToPlace_3 : decode b_Sc_nextToPlace 3 = .ok (.iload_n 1, 1) := by decide +kernel
theorem d_Sc_nextToPlace_4 : decode b_Sc_nextToPlace 4 = .ok (.istore 5, 2) := by decide +kernel
theorem d_Sc_nextToPlace_6 : decode b_Sc_nextToPlace 6 = .ok (.iload 5, 2) := by decide +kernel
theorem d_Sc_nextToPlace_8 : decode b_Sc_nextToPlace 8 = .ok (.iload_n 2, 1) := by decide +kernel
theorem d_Sc_nextToPlace_9 : decode b_Sc_nextToPlace 9 = .ok (.if_icmp .ge 69, 3) := by decide +kernel
theorem d_Sc_nextToPlace_12 : decode b_Sc_nextToPlace 12 = .ok (.iload_n 3, 1) := by decide +kernel
theorem d_Sc_nextToPlace_13 : decode b_Sc_nextToPlace 13 = .ok (.iconst 1, 1) := by decide +kernel
theorem d_Sc_nextToPlace_14 : decode b_Sc_nextToPlace 14 = .ok (.iload 5, 2) := by decide +kernel
theorem d_Sc_nextToPlace_16 : decode b_Sc_nextToPlace 16 = .ok (.ishl, 1) := by decide +kernel
theorem d_Sc_nextToPlace_17 : decode b_Sc_nextToPlace 17 = .ok (.iand, 1) := by decide +kernel
theorem d_Sc_nextToPlace_18 : decode b_Sc_nextToPlace 18 = .ok (.ifCond .eq 19, 3) := by decide +kernel
theorem d_Sc_nextToPlace_21 : decode b_Sc_nextToPlace 21 = .ok (.iload_n 3, 1) := by decide +kernel
theorem d_Sc_nextToPlace_22 : decode b_Sc_nextToPlace 22 = .ok (.aload_n 0, 1) := by decide +kernel
theorem d_Sc_nextToPlace_23 : decode b_Sc_nextToPlace 23 = .ok (.getfield 25, 3) := by decide +kernel
theorem d_Sc_nextToPlace_26 : decode b_Sc_nextToPlace 26 = .ok (.iload 5, 2) := by decide +kernel
theorem d_Sc_nextToPlace_28 : decode b_Sc_nextToPlace 28 = .ok (.iaload, 1) := by decide +kernel
theorem d_Sc_nextToPlace_29 : decode b_Sc_nextToPlace 29 = .ok (.iand, 1) := by decide +kernel
theorem d_Sc_nextToPlace_30 : decode b_Sc_nextToPlace 30 = .ok (.ifCond .ne 7, 3) := by decide +kernel
theorem d_Sc_nextToPlace_33 : decode b_Sc_nextToPlace 33 = .ok (.iconst 1, 1) := by decide +kernel
theorem d_Sc_nextToPlace_34 : decode b_Sc_nextToPlace 34 = .ok (.goto 4, 3) := by decide +kernel
theorem d_Sc_nextToPlace_37 : decode b_Sc_nextToPlace 37 = .ok (.iconst 0, 1) := by decide +kernel
theorem d_Sc_nextToPlace_38 : decode b_Sc_nextToPlace 38 = .ok (.istore 6, 2) := by decide +kernel
theorem d_Sc_nextToPlace_40 : decode b_Sc_nextToPlace 40 = .ok (.iload 6, 2) := by decide +kernel
theorem d_Sc_nextToPlace_42 : decode b_Sc_nextToPlace 42 = .ok (.ifCond .eq 30, 3) := by decide +kernel
theorem d_Sc_nextToPlace_45 : decode b_Sc_nextToPlace 45 = .ok (.iload 4, 2) := by decide +kernel
theorem d_Sc_nextToPlace_47 : decode b_Sc_nextToPlace 47 = .ok (.iconst (-1), 1) := by decide +kernel
theorem d_Sc_nextToPlace_48 : decode b_Sc_nextToPlace 48 = .ok (.if_icmp .eq 20, 3) := by decide +kernel
theorem d_Sc_nextToPlace_51 : decode b_Sc_nextToPlace 51 = .ok (.aload_n 0, 1) := by decide +kernel
theorem d_Sc_nextToPlace_52 : decode b_Sc_nextToPlace 52 = .ok (.getfield 21, 3) := by decide +kernel
theorem d_Sc_nextToPlace_55 : decode b_Sc_nextToPlace 55 = .ok (.iload 5, 2) := by decide +kernel
theorem d_Sc_nextToPlace_57 : decode b_Sc_nextToPlace 57 = .ok (.iaload, 1) := by decide +kernel
theorem d_Sc_nextToPlace_58 : decode b_Sc_nextToPlace 58 = .ok (.aload_n 0, 1) := by decide +kernel
theorem d_Sc_nextToPlace_59 : decode b_Sc_nextToPlace 59 = .ok (.getfield 21, 3) := by decide +kernel
theorem d_Sc_nextToPlace_62 : decode b_Sc_nextToPlace 62 = .ok (.iload 4, 2) := by decide +kernel
theorem d_Sc_nextToPlace_64 : decode b_Sc_nextToPlace 64 = .ok (.iaload, 1) := by decide +kernel
theorem d_Sc_nextToPlace_65 : decode b_Sc_nextToPlace 65 = .ok (.if_icmp .le 7, 3) := by decide +kernel
theorem d_Sc_nextToPlace_68 : decode b_Sc_nextToPlace 68 = .ok (.iload 5, 2) := by decide +kernel
theorem d_Sc_nextToPlace_70 : decode b_Sc_nextToPlace 70 = .ok (.istore 4, 2) := by decide +kernel
theorem d_Sc_nextToPlace_72 : decode b_Sc_nextToPlace 72 = .ok (.iinc 5 1, 3) := by decide +kernel
theorem d_Sc_nextToPlace_75 : decode b_Sc_nextToPlace 75 = .ok (.goto (-69), 3) := by decide +kernel
theorem d_Sc_nextToPlace_78 : decode b_Sc_nextToPlace 78 = .ok (.iload 4, 2) := by decide +kernel
theorem d_Sc_nextToPlace_80 : decode b_Sc_nextToPlace 80 = .ok (.iconst (-1), 1) := by decide +kernel
theorem d_Sc_nextToPlace_81 : decode b_Sc_nextToPlace 81 = .ok (.if_icmp .ne 7, 3) := by decide +kernel
theorem d_Sc_nextToPlace_84 : decode b_Sc_nextToPlace 84 = .ok (.iload_n 1, 1) := by decide +kernel
theorem d_Sc_nextToPlace_85 : decode b_Sc_nextToPlace 85 = .ok (.goto 5, 3) := by decide +kernel
theorem d_Sc_nextToPlace_88 : decode b_Sc_nextToPlace 88 = .ok (.iload 4, 2) := by decide +kernel
theorem d_Sc_nextToPlace_90 : decode b_Sc_nextToPlace 90 = .ok (.ireturn, 1) := by decide +kernel
theorem d_Ma_floorMod_0 : decode b_Ma_floorMod 0 = .ok (.iload_n 0, 1) := by decide +kernel
theorem d_Ma_floorMod_1 : decode b_Ma_floorMod 1 = .ok (.iload_n 1, 1) := by decide +kernel
theorem d_Ma_floorMod_2 : decode b_Ma_floorMod 2 = .ok (.irem, 1) := by decide +kernel
theorem d_Ma_floorMod_3 : decode b_Ma_floorMod 3 = .ok (.istore_n 2, 1) := by decide +kernel
theorem d_Ma_floorMod_4 : decode b_Ma_floorMod 4 = .ok (.iload_n 0, 1) := by decide +kernel
theorem d_Ma_floorMod_5 : decode b_Ma_floorMod 5 = .ok (.iload_n 1, 1) := by decide +kernel
theorem d_Ma_floorMod_6 : decode b_Ma_floorMod 6 = .ok (.ixor, 1) := by decide +kernel
theorem d_Ma_floorMod_7 : decode b_Ma_floorMod 7 = .ok (.ifCond .ge 11, 3) := by decide +kernel
theorem d_Ma_floorMod_10 : decode b_Ma_floorMod 10 = .ok (.iload_n 2, 1) := by decide +kernel
theorem d_Ma_floorMod_11 : decode b_Ma_floorMod 11 = .ok (.ifCond .eq 7, 3) := by decide +kernel
theorem d_Ma_floorMod_14 : decode b_Ma_floorMod 14 = .ok (.iload_n 2, 1) := by decide +kernel
theorem d_Ma_floorMod_15 : decode b_Ma_floorMod 15 = .ok (.iload_n 1, 1) := by decide +kernel
theorem d_Ma_floorMod_16 : decode b_Ma_floorMod 16 = .ok (.iadd, 1) := by decide +kernel
theorem d_Ma_floorMod_17 : decode b_Ma_floorMod 17 = .ok (.ireturn, 1) := by decide +kernel
theorem d_Ma_floorMod_18 : decode b_Ma_floorMod 18 = .ok (.iload_n 2, 1) := by decide +kernel
theorem d_Ma_floorMod_19 : decode b_Ma_floorMod 19 = .ok (.ireturn, 1) := by decide +kernel
theorem d_Ar_fill_0 : decode b_Ar_fill 0 = .ok (.iconst 0, 1) := by decide +kernel
theorem d_Ar_fill_1 : decode b_Ar_fill 1 = .ok (.istore_n 3, 1) := by decide +kernel
theorem d_Ar_fill_2 : decode b_Ar_fill 2 = .ok (.aload_n 0, 1) := by decide +kernel
theorem d_Ar_fill_3 : decode b_Ar_fill 3 = .ok (.arraylength, 1) := by decide +kernel
theorem d_Ar_fill_4 : decode b_Ar_fill 4 = .ok (.istore 4, 2) := by decide +kernel
theorem d_Ar_fill_6 : decode b_Ar_fill 6 = .ok (.iload_n 3, 1) := by decide +kernel
theorem d_Ar_fill_7 : decode b_Ar_fill 7 = .ok (.iload 4, 2) := by decide +kernel
theorem d_Ar_fill_9 : decode b_Ar_fill 9 = .ok (.if_icmp .ge 13, 3) := by decide +kernel
theorem d_Ar_fill_12 : decode b_Ar_fill 12 = .ok (.aload_n 0, 1) := by decide +kernel
theorem d_Ar_fill_13 : decode b_Ar_fill 13 = .ok (.iload_n 3, 1) := by decide +kernel
theorem d_Ar_fill_14 : decode b_Ar_fill 14 = .ok (.dload_n 1, 1) := by decide +kernel
theorem d_Ar_fill_15 : decode b_Ar_fill 15 = .ok (.dastore, 1) := by decide +kernel
theorem d_Ar_fill_16 : decode b_Ar_fill 16 = .ok (.iinc 3 1, 3) := by decide +kernel
theorem d_Ar_fill_19 : decode b_Ar_fill 19 = .ok (.goto (-13), 3) := by decide +kernel
theorem d_Ar_fill_22 : decode b_Ar_fill 22 = .ok (.return_, 1) := by decide +kernel
theorem d_Ar_fill2_0 : decode b_Ar_fill2 0 = .ok (.iconst 0, 1) := by decide +kernel
theorem d_Ar_fill2_1 : decode b_Ar_fill2 1 = .ok (.istore_n 2, 1) := by decide +kernel
theorem d_Ar_fill2_2 : decode b_Ar_fill2 2 = .ok (.aload_n 0, 1) := by decide +kernel
theorem d_Ar_fill2_3 : decode b_Ar_fill2 3 = .ok (.arraylength, 1) := by decide +kernel
theorem d_Ar_fill2_4 : decode b_Ar_fill2 4 = .ok (.istore_n 3, 1) := by decide +kernel
theorem d_Ar_fill2_5 : decode b_Ar_fill2 5 = .ok (.iload_n 2, 1) := by decide +kernel
theorem d_Ar_fill2_6 : decode b_Ar_fill2 6 = .ok (.iload_n 3, 1) := by decide +kernel
theorem d_Ar_fill2_7 : decode b_Ar_fill2 7 = .ok (.if_icmp .ge 13, 3) := by decide +kernel
theorem d_Ar_fill2_10 : decode b_Ar_fill2 10 = .ok (.aload_n 0, 1) := by decide +kernel
theorem d_Ar_fill2_11 : decode b_Ar_fill2 11 = .ok (.iload_n 2, 1) := by decide +kernel
theorem d_Ar_fill2_12 : decode b_Ar_fill2 12 = .ok (.iload_n 1, 1) := by decide +kernel
theorem d_Ar_fill2_13 : decode b_Ar_fill2 13 = .ok (.iastore, 1) := by decide +kernel
theorem d_Ar_fill2_14 : decode b_Ar_fill2 14 = .ok (.iinc 2 1, 3) := by decide +kernel
theorem d_Ar_fill2_17 : decode b_Ar_fill2 17 = .ok (.goto (-12), 3) := by decide +kernel
theorem d_Ar_fill2_20 : decode b_Ar_fill2 20 = .ok (.return_, 1) := by decide +kernel
end
section
/-! DECODE ROWS, by program -/
theorem d_Pc_init_0 : decode b_Pc_init 0 = .ok (.aload_n 0, 1) := by decide +kernel
theorem d_Pc_init_1 : decode b_Pc_init 1 = .ok (.invokespecial 1, 3) := by decide +kernel
theorem d_Pc_init_4 : decode b_Pc_init 4 = .ok (.aload_n 0, 1) := by decide +kernel
theorem d_Pc_init_5 : decode b_Pc_init 5 = .ok (.bipush 24, 2) := by decide +kernel
theorem d_Pc_init_7 : decode b_Pc_init 7 = .ok (.anewarray 9, 3) := by decide +kernel
theorem d_Pc_init_10 : decode b_Pc_init 10 = .ok (.putfield 11, 3) := by decide +kernel
theorem d_Pc_init_13 : decode b_Pc_init 13 = .ok (.aload_n 0, 1) := by decide +kernel
theorem d_Pc_init_14 : decode b_Pc_init 14 = .ok (.bipush 48, 2) := by decide +kernel
theorem d_Pc_init_16 : decode b_Pc_init 16 = .ok (.newarray .double, 2) := by decide +kernel
theorem d_Pc_init_18 : decode b_Pc_init 18 = .ok (.putfield 15, 3) := by decide +kernel
theorem d_Pc_init_21 : decode b_Pc_init 21 = .ok (.aload_n 0, 1) := by decide +kernel
theorem d_Pc_init_22 : decode b_Pc_init 22 = .ok (.bipush 8, 2) := by decide +kernel
theorem d_Pc_init_24 : decode b_Pc_init 24 = .ok (.newarray .int, 2) := by decide +kernel
theorem d_Pc_init_26 : decode b_Pc_init 26 = .ok (.putfield 19, 3) := by decide +kernel
theorem d_Pc_init_29 : decode b_Pc_init 29 = .ok (.aload_n 0, 1) := by decide +kernel
theorem d_Pc_init_30 : decode b_Pc_init 30 = .ok (.iconst 4, 1) := by decide +kernel
theorem d_Pc_init_31 : decode b_Pc_init 31 = .ok (.newarray .double, 2) := by decide +kernel
theorem d_Pc_init_33 : decode b_Pc_init 33 = .ok (.putfield 23, 3) := by decide +kernel
theorem d_Pc_init_36 : decode b_Pc_init 36 = .ok (.aload_n 0, 1) := by decide +kernel
theorem d_Pc_init_37 : decode b_Pc_init 37 = .ok (.new 26, 3) := by decide +kernel
theorem d_Pc_init_40 : decode b_Pc_init 40 = .ok (.dup, 1) := by decide +kernel
theorem d_Pc_init_41 : decode b_Pc_init 41 = .ok (.invokespecial 28, 3) := by decide +kernel
theorem d_Pc_init_44 : decode b_Pc_init 44 = .ok (.putfield 29, 3) := by decide +kernel
theorem d_Pc_init_47 : decode b_Pc_init 47 = .ok (.aload_n 0, 1) := by decide +kernel
theorem d_Pc_init_48 : decode b_Pc_init 48 = .ok (.new 33, 3) := by decide +kernel
theorem d_Pc_init_51 : decode b_Pc_init 51 = .ok (.dup, 1) := by decide +kernel
theorem d_Pc_init_52 : decode b_Pc_init 52 = .ok (.invokespecial 35, 3) := by decide +kernel
theorem d_Pc_init_55 : decode b_Pc_init 55 = .ok (.putfield 36, 3) := by decide +kernel
theorem d_Pc_init_58 : decode b_Pc_init 58 = .ok (.aload_n 0, 1) := by decide +kernel
theorem d_Pc_init_59 : decode b_Pc_init 59 = .ok (.new 40, 3) := by decide +kernel
theorem d_Pc_init_62 : decode b_Pc_init 62 = .ok (.dup, 1) := by decide +kernel
theorem d_Pc_init_63 : decode b_Pc_init 63 = .ok (.invokespecial 42, 3) := by decide +kernel
theorem d_Pc_init_66 : decode b_Pc_init 66 = .ok (.putfield 43, 3) := by decide +kernel
theorem d_Pc_init_69 : decode b_Pc_init 69 = .ok (.aload_n 0, 1) := by decide +kernel
theorem d_Pc_init_70 : decode b_Pc_init 70 = .ok (.new 47, 3) := by decide +kernel
theorem d_Pc_init_73 : decode b_Pc_init 73 = .ok (.dup, 1) := by decide +kernel
theorem d_Pc_init_74 : decode b_Pc_init 74 = .ok (.invokespecial 49, 3) := by decide +kernel
theorem d_Pc_init_77 : decode b_Pc_init 77 = .ok (.putfield 50, 3) := by decide +kernel
theorem d_Pc_init_80 : decode b_Pc_init 80 = .ok (.aload_n 0, 1) := by decide +kernel
theorem d_Pc_init_81 : decode b_Pc_init 81 = .ok (.new 54, 3) := by decide +kernel
theorem d_Pc_init_84 : decode b_Pc_init 84 = .ok (.dup, 1) := by decide +kernel
theorem d_Pc_init_85 : decode b_Pc_init 85 = .ok (.invokespecial 56, 3) := by decide +kernel
theorem d_Pc_init_88 : decode b_Pc_init 88 = .ok (.putfield 57, 3) := by decide +kernel
theorem d_Pc_init_91 : decode b_Pc_init 91 = .ok (.aload_n 0, 1) := by decide +kernel
theorem d_Pc_init_92 : decode b_Pc_init 92 = .ok (.iconst 0, 1) := by decide +kernel
theorem d_Pc_init_93 : decode b_Pc_init 93 = .ok (.putfield 61, 3) := by decide +kernel
theorem d_Pc_init_96 : decode b_Pc_init 96 = .ok (.aload_n 0, 1) := by decide +kernel
theorem d_Pc_init_97 : decode b_Pc_init 97 = .ok (.iconst 1, 1) := by decide +kernel
theorem d_Pc_init_98 : decode b_Pc_init 98 = .ok (.putfield 65, 3) := by decide +kernel
theorem d_Pc_init_101 : decode b_Pc_init 101 = .ok (.aload_n 0, 1) := by decide +kernel
theorem d_Pc_init_102 : decode b_Pc_init 102 = .ok (.iconst 0, 1) := by decide +kernel
theorem d_Pc_init_103 : decode b_Pc_init 103 = .ok (.putfield 69, 3) := by decide +kernel
theorem d_Pc_init_106 : decode b_Pc_init 106 = .ok (.iconst 0, 1) := by decide +kernel
theorem d_Pc_init_107 : decode b_Pc_init 107 = .ok (.istore_n 1, 1) := by decide +kernel
theorem d_Pc_init_108 : decode b_Pc_init 108 = .ok (.iload_n 1, 1) := by decide +kernel
theorem d_Pc_init_109 : decode b_Pc_init 109 = .ok (.bipush 24, 2) := by decide +kernel
theorem d_Pc_init_111 : decode b_Pc_init 111 = .ok (.if_icmp .ge 22, 3) := by decide +kernel
theorem d_Pc_init_114 : decode b_Pc_init 114 = .ok (.aload_n 0, 1) := by decide +kernel
theorem d_Pc_init_115 : decode b_Pc_init 115 = .ok (.getfield 11, 3) := by decide +kernel
theorem d_Pc_init_118 : decode b_Pc_init 118 = .ok (.iload_n 1, 1) := by decide +kernel
theorem d_Pc_init_119 : decode b_Pc_init 119 = .ok (.new 9, 3) := by decide +kernel
theorem d_Pc_init_122 : decode b_Pc_init 122 = .ok (.dup, 1) := by decide +kernel
theorem d_Pc_init_123 : decode b_Pc_init 123 = .ok (.invokespecial 72, 3) := by decide +kernel
theorem d_Pc_init_126 : decode b_Pc_init 126 = .ok (.aastore, 1) := by decide +kernel
theorem d_Pc_init_127 : decode b_Pc_init 127 = .ok (.iinc 1 1, 3) := by decide +kernel
theorem d_Pc_init_130 : decode b_Pc_init 130 = .ok (.goto (-22), 3) := by decide +kernel
theorem d_Pc_init_133 : decode b_Pc_init 133 = .ok (.return_, 1) := by decide +kernel
theorem d_Pc_code_0 : decode b_Pc_code 0 = .ok (.iload_n 1, 1) := by decide +kernel
theorem d_Pc_code_1 : decode b_Pc_code 1 = .ok (.bipush 23, 2) := by decide +kernel
theorem d_Pc_code_3 : decode b_Pc_code 3 = .ok (.invokestatic 73, 3) := by decide +kernel
theorem d_Pc_code_6 : decode b_Pc_code 6 = .ok (.iload_n 2, 1) := by decide +kernel
theorem d_Pc_code_7 : decode b_Pc_code 7 = .ok (.bipush 19, 2) := by decide +kernel
theorem d_Pc_code_9 : decode b_Pc_code 9 = .ok (.invokestatic 73, 3) := by decide +kernel
theorem d_Pc_code_12 : decode b_Pc_code 12 = .ok (.iload_n 3, 1) := by decide +kernel
theorem d_Pc_code_13 : decode b_Pc_code 13 = .ok (.bipush 7, 2) := by decide +kernel
theorem d_Pc_code_15 : decode b_Pc_code 15 = .ok (.invokestatic 73, 3) := by decide +kernel
theorem d_Pc_code_18 : decode b_Pc_code 18 = .ok (.iload 4, 2) := by decide +kernel
theorem d_Pc_code_20 : decode b_Pc_code 20 = .ok (.bipush 7, 2) := by decide +kernel
theorem d_Pc_code_22 : decode b_Pc_code 22 = .ok (.invokestatic 73, 3) := by decide +kernel
theorem d_Pc_code_25 : decode b_Pc_code 25 = .ok (.iload 5, 2) := by decide +kernel
theorem d_Pc_code_27 : decode b_Pc_code 27 = .ok (.bipush 7, 2) := by decide +kernel
theorem d_Pc_code_29 : decode b_Pc_code 29 = .ok (.invokestatic 73, 3) := by decide +kernel
theorem d_Pc_code_32 : decode b_Pc_code 32 = .ok (.aload_n 0, 1) := by decide +kernel
theorem d_Pc_code_33 : decode b_Pc_code 33 = .ok (.getfield 11, 3) := by decide +kernel
theorem d_Pc_code_36 : decode b_Pc_code 36 = .ok (.iload_n 1, 1) := by decide +kernel
theorem d_Pc_code_37 : decode b_Pc_code 37 = .ok (.aaload, 1) := by decide +kernel
theorem d_Pc_code_38 : decode b_Pc_code 38 = .ok (.iload_n 2, 1) := by decide +kernel
theorem d_Pc_code_39 : decode b_Pc_code 39 = .ok (.iload_n 3, 1) := by decide +kernel
theorem d_Pc_code_40 : decode b_Pc_code 40 = .ok (.iload 4, 2) := by decide +kernel
theorem d_Pc_code_42 : decode b_Pc_code 42 = .ok (.iload 5, 2) := by decide +kernel
theorem d_Pc_code_44 : decode b_Pc_code 44 = .ok (.iload 6, 2) := by decide +kernel
theorem d_Pc_code_46 : decode b_Pc_code 46 = .ok (.invokevirtual 77, 3) := by decide +kernel
theorem d_Pc_code_49 : decode b_Pc_code 49 = .ok (.return_, 1) := by decide +kernel
theorem d_Pc_cell_0 : decode b_Pc_cell 0 = .ok (.iload_n 1, 1) := by decide +kernel
theorem d_Pc_cell_1 : decode b_Pc_cell 1 = .ok (.bipush 47, 2) := by decide +kernel
theorem d_Pc_cell_3 : decode b_Pc_cell 3 = .ok (.invokestatic 73, 3) := by decide +kernel
theorem d_Pc_cell_6 : decode b_Pc_cell 6 = .ok (.dload_n 2, 1) := by decide +kernel
theorem d_Pc_cell_7 : decode b_Pc_cell 7 = .ok (.ldc2_w 81, 3) := by decide +kernel
theorem d_Pc_cell_10 : decode b_Pc_cell 10 = .ok (.dcmp .l, 1) := by decide +kernel
theorem d_Pc_cell_11 : decode b_Pc_cell 11 = .ok (.ifCond .lt 15, 3) := by decide +kernel
theorem d_Pc_cell_14 : decode b_Pc_cell 14 = .ok (.dload_n 2, 1) := by decide +kernel
theorem d_Pc_cell_15 : decode b_Pc_cell 15 = .ok (.ldc2_w 83, 3) := by decide +kernel
theorem d_Pc_cell_18 : decode b_Pc_cell 18 = .ok (.dcmp .g, 1) := by decide +kernel
theorem d_Pc_cell_19 : decode b_Pc_cell 19 = .ok (.ifCond .gt 7, 3) := by decide +kernel
theorem d_Pc_cell_22 : decode b_Pc_cell 22 = .ok (.iconst 1, 1) := by decide +kernel
theorem d_Pc_cell_23 : decode b_Pc_cell 23 = .ok (.goto 4, 3) := by decide +kernel
theorem d_Pc_cell_26 : decode b_Pc_cell 26 = .ok (.iconst 0, 1) := by decide +kernel
theorem d_Pc_cell_27 : decode b_Pc_cell 27 = .ok (.istore 4, 2) := by decide +kernel
theorem d_Pc_cell_29 : decode b_Pc_cell 29 = .ok (.iload 4, 2) := by decide +kernel
theorem d_Pc_cell_31 : decode b_Pc_cell 31 = .ok (.ifCond .ne 11, 3) := by decide +kernel
theorem d_Pc_cell_34 : decode b_Pc_cell 34 = .ok (.new 85, 3) := by decide +kernel
theorem d_Pc_cell_37 : decode b_Pc_cell 37 = .ok (.dup, 1) := by decide +kernel
theorem d_Pc_cell_38 : decode b_Pc_cell 38 = .ok (.invokespecial 87, 3) := by decide +kernel
theorem d_Pc_cell_41 : decode b_Pc_cell 41 = .ok (.athrow, 1) := by decide +kernel
theorem d_Pc_cell_42 : decode b_Pc_cell 42 = .ok (.aload_n 0, 1) := by decide +kernel
theorem d_Pc_cell_43 : decode b_Pc_cell 43 = .ok (.getfield 15, 3) := by decide +kernel
theorem d_Pc_cell_46 : decode b_Pc_cell 46 = .ok (.iload_n 1, 1) := by decide +kernel
theorem d_Pc_cell_47 : decode b_Pc_cell 47 = .ok (.dload_n 2, 1) := by decide +kernel
theorem d_Pc_cell_48 : decode b_Pc_cell 48 = .ok (.dastore, 1) := by decide +kernel
theorem d_Pc_cell_49 : decode b_Pc_cell 49 = .ok (.return_, 1) := by decide +kernel
theorem d_Pc_start_0 : decode b_Pc_start 0 = .ok (.iload_n 1, 1) := by decide +kernel
theorem d_Pc_start_1 : decode b_Pc_start 1 = .ok (.bipush 23, 2) := by decide +kernel
theorem d_Pc_start_3 : decode b_Pc_start 3 = .ok (.invokestatic 73, 3) := by decide +kernel
theorem d_Pc_start_6 : decode b_Pc_start 6 = .ok (.aload_n 0, 1) := by decide +kernel
theorem d_Pc_start_7 : decode b_Pc_start 7 = .ok (.iload_n 1, 1) := by decide +kernel
theorem d_Pc_start_8 : decode b_Pc_start 8 = .ok (.putfield 61, 3) := by decide +kernel
theorem d_Pc_start_11 : decode b_Pc_start 11 = .ok (.aload_n 0, 1) := by decide +kernel
theorem d_Pc_start_12 : decode b_Pc_start 12 = .ok (.iconst 0, 1) := by decide +kernel
theorem d_Pc_start_13 : decode b_Pc_start 13 = .ok (.putfield 65, 3) := by decide +kernel
theorem d_Pc_start_16 : decode b_Pc_start 16 = .ok (.aload_n 0, 1) := by decide +kernel
theorem d_Pc_start_17 : decode b_Pc_start 17 = .ok (.iconst 0, 1) := by decide +kernel
theorem d_Pc_start_18 : decode b_Pc_start 18 = .ok (.putfield 69, 3) := by decide +kernel
theorem d_Pc_start_21 : decode b_Pc_start 21 = .ok (.aload_n 0, 1) := by decide +kernel
theorem d_Pc_start_22 : decode b_Pc_start 22 = .ok (.getfield 19, 3) := by decide +kernel
theorem d_Pc_start_25 : decode b_Pc_start 25 = .ok (.iconst 0, 1) := by decide +kernel
theorem d_Pc_start_26 : decode b_Pc_start 26 = .ok (.invokestatic 88, 3) := by decide +kernel
theorem d_Pc_start_29 : decode b_Pc_start 29 = .ok (.aload_n 0, 1) := by decide +kernel
theorem d_Pc_start_30 : decode b_Pc_start 30 = .ok (.getfield 23, 3) := by decide +kernel
theorem d_Pc_start_33 : decode b_Pc_start 33 = .ok (.dconst 0, 1) := by decide +kernel
theorem d_Pc_start_34 : decode b_Pc_start 34 = .ok (.invokestatic 94, 3) := by decide +kernel
theorem d_Pc_start_37 : decode b_Pc_start 37 = .ok (.aload_n 0, 1) := by decide +kernel
theorem d_Pc_start_38 : decode b_Pc_start 38 = .ok (.getfield 29, 3) := by decide +kernel
theorem d_Pc_start_41 : decode b_Pc_start 41 = .ok (.invokevirtual 97, 3) := by decide +kernel
theorem d_Pc_start_44 : decode b_Pc_start 44 = .ok (.aload_n 0, 1) := by decide +kernel
theorem d_Pc_start_45 : decode b_Pc_start 45 = .ok (.getfield 36, 3) := by decide +kernel
theorem d_Pc_start_48 : decode b_Pc_start 48 = .ok (.invokevirtual 100, 3) := by decide +kernel
theorem d_Pc_start_51 : decode b_Pc_start 51 = .ok (.aload_n 0, 1) := by decide +kernel
theorem d_Pc_start_52 : decode b_Pc_start 52 = .ok (.getfield 43, 3) := by decide +kernel
theorem d_Pc_start_55 : decode b_Pc_start 55 = .ok (.invokevirtual 103, 3) := by decide +kernel
theorem d_Pc_start_58 : decode b_Pc_start 58 = .ok (.aload_n 0, 1) := by decide +kernel
theorem d_Pc_start_59 : decode b_Pc_start 59 = .ok (.getfield 50, 3) := by decide +kernel
theorem d_Pc_start_62 : decode b_Pc_start 62 = .ok (.invokevirtual 104, 3) := by decide +kernel
theorem d_Pc_start_65 : decode b_Pc_start 65 = .ok (.return_, 1) := by decide +kernel
theorem d_Pc_run_0 : decode b_Pc_run 0 = .ok (.iload_n 1, 1) := by decide +kernel
theorem d_Pc_run_1 : decode b_Pc_run 1 = .ok (.iconst 1, 1) := by decide +kernel
theorem d_Pc_run_2 : decode b_Pc_run 2 = .ok (.if_icmp .lt 10, 3) := by decide +kernel
theorem d_Pc_run_5 : decode b_Pc_run 5 = .ok (.iload_n 1, 1) := by decide +kernel
theorem d_Pc_run_6 : decode b_Pc_run 6 = .ok (.sipush 300, 3) := by decide +kernel
theorem d_Pc_run_9 : decode b_Pc_run 9 = .ok (.if_icmp .le 11, 3) := by decide +kernel
theorem d_Pc_run_12 : decode b_Pc_run 12 = .ok (.new 85, 3) := by decide +kernel
theorem d_Pc_run_15 : decode b_Pc_run 15 = .ok (.dup, 1) := by decide +kernel
theorem d_Pc_run_16 : decode b_Pc_run 16 = .ok (.invokespecial 87, 3) := by decide +kernel
theorem d_Pc_run_19 : decode b_Pc_run 19 = .ok (.athrow, 1) := by decide +kernel
theorem d_Pc_run_20 : decode b_Pc_run 20 = .ok (.aload_n 0, 1) := by decide +kernel
theorem d_Pc_run_21 : decode b_Pc_run 21 = .ok (.getfield 65, 3) := by decide +kernel
theorem d_Pc_run_24 : decode b_Pc_run 24 = .ok (.ifCond .eq 11, 3) := by decide +kernel
theorem d_Pc_run_27 : decode b_Pc_run 27 = .ok (.new 105, 3) := by decide +kernel
theorem d_Pc_run_30 : decode b_Pc_run 30 = .ok (.dup, 1) := by decide +kernel
theorem d_Pc_run_31 : decode b_Pc_run 31 = .ok (.invokespecial 107, 3) := by decide +kernel
theorem d_Pc_run_34 : decode b_Pc_run 34 = .ok (.athrow, 1) := by decide +kernel
theorem d_Pc_run_35 : decode b_Pc_run 35 = .ok (.iconst 0, 1) := by decide +kernel
theorem d_Pc_run_36 : decode b_Pc_run 36 = .ok (.istore_n 2, 1) := by decide +kernel
theorem d_Pc_run_37 : decode b_Pc_run 37 = .ok (.iload_n 2, 1) := by decide +kernel
theorem d_Pc_run_38 : decode b_Pc_run 38 = .ok (.iload_n 1, 1) := by decide +kernel
theorem d_Pc_run_39 : decode b_Pc_run 39 = .ok (.if_icmp .ge 20, 3) := by decide +kernel
theorem d_Pc_run_42 : decode b_Pc_run 42 = .ok (.aload_n 0, 1) := by decide +kernel
theorem d_Pc_run_43 : decode b_Pc_run 43 = .ok (.getfield 65, 3) := by decide +kernel
theorem d_Pc_run_46 : decode b_Pc_run 46 = .ok (.ifCond .ne 13, 3) := by decide +kernel
theorem d_Pc_run_49 : decode b_Pc_run 49 = .ok (.aload_n 0, 1) := by decide +kernel
theorem d_Pc_run_50 : decode b_Pc_run 50 = .ok (.invokevirtual 108, 3) := by decide +kernel
theorem d_Pc_run_53 : decode b_Pc_run 53 = .ok (.iinc 2 1, 3) := by decide +kernel
theorem d_Pc_run_56 : decode b_Pc_run 56 = .ok (.goto (-19), 3) := by decide +kernel
theorem d_Pc_run_59 : decode b_Pc_run 59 = .ok (.iload_n 2, 1) := by decide +kernel
theorem d_Pc_run_60 : decode b_Pc_run 60 = .ok (.ireturn, 1) := by decide +kernel
theorem d_Pc_schedule_0 : decode b_Pc_schedule 0 = .ok (.aload_n 0, 1) := by decide +kernel
theorem d_Pc_schedule_1 : decode b_Pc_schedule 1 = .ok (.getfield 57, 3) := by decide +kernel
theorem d_Pc_schedule_4 : decode b_Pc_schedule 4 = .ok (.aload_n 0, 1) := by decide +kernel
theorem d_Pc_schedule_5 : decode b_Pc_schedule 5 = .ok (.getfield 11, 3) := by decide +kernel
theorem d_Pc_schedule_8 : decode b_Pc_schedule 8 = .ok (.invokevirtual 111, 3) := by decide +kernel
theorem d_Pc_schedule_11 : decode b_Pc_schedule 11 = .ok (.ireturn, 1) := by decide +kernel
theorem d_Pc_whole_0 : decode b_Pc_whole 0 = .ok (.iload_n 1, 1) := by decide +kernel
theorem d_Pc_whole_1 : decode b_Pc_whole 1 = .ok (.bipush 7, 2) := by decide +kernel
theorem d_Pc_whole_3 : decode b_Pc_whole 3 = .ok (.invokestatic 73, 3) := by decide +kernel
theorem d_Pc_whole_6 : decode b_Pc_whole 6 = .ok (.aload_n 0, 1) := by decide +kernel
theorem d_Pc_whole_7 : decode b_Pc_whole 7 = .ok (.getfield 19, 3) := by decide +kernel
theorem d_Pc_whole_10 : decode b_Pc_whole 10 = .ok (.iload_n 1, 1) := by decide +kernel
theorem d_Pc_whole_11 : decode b_Pc_whole 11 = .ok (.iaload, 1) := by decide +kernel
theorem d_Pc_whole_12 : decode b_Pc_whole 12 = .ok (.ireturn, 1) := by decide +kernel
theorem d_Pc_fraction_0 : decode b_Pc_fraction 0 = .ok (.iload_n 1, 1) := by decide +kernel
theorem d_Pc_fraction_1 : decode b_Pc_fraction 1 = .ok (.iconst 3, 1) := by decide +kernel
theorem d_Pc_fraction_2 : decode b_Pc_fraction 2 = .ok (.invokestatic 73, 3) := by decide +kernel
theorem d_Pc_fraction_5 : decode b_Pc_fraction 5 = .ok (.aload_n 0, 1) := by decide +kernel
theorem d_Pc_fraction_6 : decode b_Pc_fraction 6 = .ok (.getfield 23, 3) := by decide +kernel
theorem d_Pc_fraction_9 : decode b_Pc_fraction 9 = .ok (.iload_n 1, 1) := by decide +kernel
theorem d_Pc_fraction_10 : decode b_Pc_fraction 10 = .ok (.daload, 1) := by decide +kernel
theorem d_Pc_fraction_11 : decode b_Pc_fraction 11 = .ok (.dreturn, 1) := by decide +kernel
theorem d_Pc_memory_0 : decode b_Pc_memory 0 = .ok (.iload_n 1, 1) := by decide +kernel
theorem d_Pc_memory_1 : decode b_Pc_memory 1 = .ok (.bipush 47, 2) := by decide +kernel
theorem d_Pc_memory_3 : decode b_Pc_memory 3 = .ok (.invokestatic 73, 3) := by decide +kernel
theorem d_Pc_memory_6 : decode b_Pc_memory 6 = .ok (.aload_n 0, 1) := by decide +kernel
theorem d_Pc_memory_7 : decode b_Pc_memory 7 = .ok (.getfield 15, 3) := by decide +kernel
theorem d_Pc_memory_10 : decode b_Pc_memory 10 = .ok (.iload_n 1, 1) := by decide +kernel
theorem d_Pc_memory_11 : decode b_Pc_memory 11 = .ok (.daload, 1) := by decide +kernel
theorem d_Pc_memory_12 : decode b_Pc_memory 12 = .ok (.dreturn, 1) := by decide +kernel
theorem d_Pc_told_0 : decode b_Pc_told 0 = .ok (.iload_n 1, 1) := by decide +kernel
theorem d_Pc_told_1 : decode b_Pc_told 1 = .ok (.bipush 23, 2) := by decide +kernel
theorem d_Pc_told_3 : decode b_Pc_told 3 = .ok (.invokestatic 73, 3) := by decide +kernel
theorem d_Pc_told_6 : decode b_Pc_told 6 = .ok (.iload_n 2, 1) := by decide +kernel
theorem d_Pc_told_7 : decode b_Pc_told 7 = .ok (.iconst 4, 1) := by decide +kernel
theorem d_Pc_told_8 : decode b_Pc_told 8 = .ok (.invokestatic 73, 3) := by decide +kernel
theorem d_Pc_told_11 : decode b_Pc_told 11 = .ok (.aload_n 0, 1) := by decide +kernel
theorem d_Pc_told_12 : decode b_Pc_told 12 = .ok (.getfield 11, 3) := by decide +kernel
theorem d_Pc_told_15 : decode b_Pc_told 15 = .ok (.iload_n 1, 1) := by decide +kernel
theorem d_Pc_told_16 : decode b_Pc_told 16 = .ok (.aaload, 1) := by decide +kernel
theorem d_Pc_told_17 : decode b_Pc_told 17 = .ok (.astore_n 3, 1) := by decide +kernel
theorem d_Pc_told_18 : decode b_Pc_told 18 = .ok (.iload_n 2, 1) := by decide +kernel
theorem d_Pc_told_19 : decode b_Pc_told 19 = .ok (.tableswitch 49 0 3 #[29, 34, 39, 44], 29) := by decide +kernel
theorem d_Pc_told_48 : decode b_Pc_told 48 = .ok (.aload_n 3, 1) := by decide +kernel
theorem d_Pc_told_49 : decode b_Pc_told 49 = .ok (.getfield 115, 3) := by decide +kernel
theorem d_Pc_told_52 : decode b_Pc_told 52 = .ok (.ireturn, 1) := by decide +kernel
theorem d_Pc_told_53 : decode b_Pc_told 53 = .ok (.aload_n 3, 1) := by decide +kernel
theorem d_Pc_told_54 : decode b_Pc_told 54 = .ok (.getfield 118, 3) := by decide +kernel
theorem d_Pc_told_57 : decode b_Pc_told 57 = .ok (.ireturn, 1) := by decide +kernel
theorem d_Pc_told_58 : decode b_Pc_told 58 = .ok (.aload_n 3, 1) := by decide +kernel
theorem d_Pc_told_59 : decode b_Pc_told 59 = .ok (.getfield 121, 3) := by decide +kernel
theorem d_Pc_told_62 : decode b_Pc_told 62 = .ok (.ireturn, 1) := by decide +kernel
theorem d_Pc_told_63 : decode b_Pc_told 63 = .ok (.aload_n 3, 1) := by decide +kernel
theorem d_Pc_told_64 : decode b_Pc_told 64 = .ok (.getfield 124, 3) := by decide +kernel
theorem d_Pc_told_67 : decode b_Pc_told 67 = .ok (.ireturn, 1) := by decide +kernel
theorem d_Pc_told_68 : decode b_Pc_told 68 = .ok (.aload_n 3, 1) := by decide +kernel
theorem d_Pc_told_69 : decode b_Pc_told 69 = .ok (.getfield 127, 3) := by decide +kernel
theorem d_Pc_told_72 : decode b_Pc_told 72 = .ok (.ireturn, 1) := by decide +kernel
theorem d_Pc_count_0 : decode b_Pc_count 0 = .ok (.iload_n 1, 1) := by decide +kernel
theorem d_Pc_count_1 : decode b_Pc_count 1 = .ok (.bipush 10, 2) := by decide +kernel
theorem d_Pc_count_3 : decode b_Pc_count 3 = .ok (.if_icmp .lt 22, 3) := by decide +kernel
theorem d_Pc_count_6 : decode b_Pc_count 6 = .ok (.iload_n 1, 1) := by decide +kernel
theorem d_Pc_count_7 : decode b_Pc_count 7 = .ok (.bipush 18, 2) := by decide +kernel
theorem d_Pc_count_9 : decode b_Pc_count 9 = .ok (.if_icmp .ge 16, 3) := by decide +kernel
theorem d_Pc_count_12 : decode b_Pc_count 12 = .ok (.aload_n 0, 1) := by decide +kernel
theorem d_Pc_count_13 : decode b_Pc_count 13 = .ok (.getfield 29, 3) := by decide +kernel
theorem d_Pc_count_16 : decode b_Pc_count 16 = .ok (.getfield 130, 3) := by decide +kernel
theorem d_Pc_count_19 : decode b_Pc_count 19 = .ok (.iload_n 1, 1) := by decide +kernel
theorem d_Pc_count_20 : decode b_Pc_count 20 = .ok (.bipush 10, 2) := by decide +kernel
theorem d_Pc_count_22 : decode b_Pc_count 22 = .ok (.isub, 1) := by decide +kernel
theorem d_Pc_count_23 : decode b_Pc_count 23 = .ok (.iaload, 1) := by decide +kernel
theorem d_Pc_count_24 : decode b_Pc_count 24 = .ok (.ireturn, 1) := by decide +kernel
theorem d_Pc_count_25 : decode b_Pc_count 25 = .ok (.iload_n 1, 1) := by decide +kernel
theorem d_Pc_count_26 : decode b_Pc_count 26 = .ok (.bipush 20, 2) := by decide +kernel
theorem d_Pc_count_28 : decode b_Pc_count 28 = .ok (.if_icmp .lt 25, 3) := by decide +kernel
theorem d_Pc_count_31 : decode b_Pc_count 31 = .ok (.iload_n 1, 1) := by decide +kernel
theorem d_Pc_count_32 : decode b_Pc_count 32 = .ok (.bipush 24, 2) := by decide +kernel
theorem d_Pc_count_34 : decode b_Pc_count 34 = .ok (.if_icmp .ge 19, 3) := by decide +kernel
theorem d_Pc_count_37 : decode b_Pc_count 37 = .ok (.aload_n 0, 1) := by decide +kernel
theorem d_Pc_count_38 : decode b_Pc_count 38 = .ok (.getfield 29, 3) := by decide +kernel
theorem d_Pc_count_41 : decode b_Pc_count 41 = .ok (.getfield 130, 3) := by decide +kernel
theorem d_Pc_count_44 : decode b_Pc_count 44 = .ok (.bipush 8, 2) := by decide +kernel
theorem d_Pc_count_46 : decode b_Pc_count 46 = .ok (.iload_n 1, 1) := by decide +kernel
theorem d_Pc_count_47 : decode b_Pc_count 47 = .ok (.iadd, 1) := by decide +kernel
theorem d_Pc_count_48 : decode b_Pc_count 48 = .ok (.bipush 20, 2) := by decide +kernel
theorem d_Pc_count_50 : decode b_Pc_count 50 = .ok (.isub, 1) := by decide +kernel
theorem d_Pc_count_51 : decode b_Pc_count 51 = .ok (.iaload, 1) := by decide +kernel
theorem d_Pc_count_52 : decode b_Pc_count 52 = .ok (.ireturn, 1) := by decide +kernel
theorem d_Pc_count_53 : decode b_Pc_count 53 = .ok (.iload_n 1, 1) := by decide +kernel
theorem d_Pc_count_54 : decode b_Pc_count 54 = .ok (.tableswitch 97 0 6 #[42, 47, 60, 65, 73, 81, 89], 42) := by decide +kernel
theorem d_Pc_count_96 : decode b_Pc_count 96 = .ok (.aload_n 0, 1) := by decide +kernel
theorem d_Pc_count_97 : decode b_Pc_count 97 = .ok (.getfield 61, 3) := by decide +kernel
theorem d_Pc_count_100 : decode b_Pc_count 100 = .ok (.ireturn, 1) := by decide +kernel
theorem d_Pc_count_101 : decode b_Pc_count 101 = .ok (.aload_n 0, 1) := by decide +kernel
theorem d_Pc_count_102 : decode b_Pc_count 102 = .ok (.getfield 65, 3) := by decide +kernel
theorem d_Pc_count_105 : decode b_Pc_count 105 = .ok (.ifCond .eq 7, 3) := by decide +kernel
theorem d_Pc_count_108 : decode b_Pc_count 108 = .ok (.iconst 1, 1) := by decide +kernel
theorem d_Pc_count_109 : decode b_Pc_count 109 = .ok (.goto 4, 3) := by decide +kernel
theorem d_Pc_count_112 : decode b_Pc_count 112 = .ok (.iconst 0, 1) := by decide +kernel
theorem d_Pc_count_113 : decode b_Pc_count 113 = .ok (.ireturn, 1) := by decide +kernel
theorem d_Pc_count_114 : decode b_Pc_count 114 = .ok (.aload_n 0, 1) := by decide +kernel
theorem d_Pc_count_115 : decode b_Pc_count 115 = .ok (.getfield 69, 3) := by decide +kernel
theorem d_Pc_count_118 : decode b_Pc_count 118 = .ok (.ireturn, 1) := by decide +kernel
theorem d_Pc_count_119 : decode b_Pc_count 119 = .ok (.aload_n 0, 1) := by decide +kernel
theorem d_Pc_count_120 : decode b_Pc_count 120 = .ok (.getfield 29, 3) := by decide +kernel
theorem d_Pc_count_123 : decode b_Pc_count 123 = .ok (.getfield 133, 3) := by decide +kernel
theorem d_Pc_count_126 : decode b_Pc_count 126 = .ok (.ireturn, 1) := by decide +kernel
theorem d_Pc_count_127 : decode b_Pc_count 127 = .ok (.aload_n 0, 1) := by decide +kernel
theorem d_Pc_count_128 : decode b_Pc_count 128 = .ok (.getfield 36, 3) := by decide +kernel
theorem d_Pc_count_131 : decode b_Pc_count 131 = .ok (.getfield 136, 3) := by decide +kernel
theorem d_Pc_count_134 : decode b_Pc_count 134 = .ok (.ireturn, 1) := by decide +kernel
theorem d_Pc_count_135 : decode b_Pc_count 135 = .ok (.aload_n 0, 1) := by decide +kernel
theorem d_Pc_count_136 : decode b_Pc_count 136 = .ok (.getfield 43, 3) := by decide +kernel
theorem d_Pc_count_139 : decode b_Pc_count 139 = .ok (.getfield 139, 3) := by decide +kernel
theorem d_Pc_count_142 : decode b_Pc_count 142 = .ok (.ireturn, 1) := by decide +kernel
theorem d_Pc_count_143 : decode b_Pc_count 143 = .ok (.aload_n 0, 1) := by decide +kernel
theorem d_Pc_count_144 : decode b_Pc_count 144 = .ok (.getfield 50, 3) := by decide +kernel
theorem d_Pc_count_147 : decode b_Pc_count 147 = .ok (.getfield 140, 3) := by decide +kernel
theorem d_Pc_count_150 : decode b_Pc_count 150 = .ok (.ireturn, 1) := by decide +kernel
theorem d_Pc_count_151 : decode b_Pc_count 151 = .ok (.bipush (-2), 2) := by decide +kernel
theorem d_Pc_count_153 : decode b_Pc_count 153 = .ok (.ireturn, 1) := by decide +kernel
theorem d_Pc_refuseOutside_0 : decode b_Pc_refuseOutside 0 = .ok (.iload_n 0, 1) := by decide +kernel
theorem d_Pc_refuseOutside_1 : decode b_Pc_refuseOutside 1 = .ok (.ifCond .lt 8, 3) := by decide +kernel
theorem d_Pc_refuseOutside_4 : decode b_Pc_refuseOutside 4 = .ok (.iload_n 0, 1) := by decide +kernel
theorem d_Pc_refuseOutside_5 : decode b_Pc_refuseOutside 5 = .ok (.iload_n 1, 1) := by decide +kernel
theorem d_Pc_refuseOutside_6 : decode b_Pc_refuseOutside 6 = .ok (.if_icmp .le 11, 3) := by decide +kernel
theorem d_Pc_refuseOutside_9 : decode b_Pc_refuseOutside 9 = .ok (.new 85, 3) := by decide +kernel
theorem d_Pc_refuseOutside_12 : decode b_Pc_refuseOutside 12 = .ok (.dup, 1) := by decide +kernel
theorem d_Pc_refuseOutside_13 : decode b_Pc_refuseOutside 13 = .ok (.invokespecial 87, 3) := by decide +kernel
theorem d_Pc_refuseOutside_16 : decode b_Pc_refuseOutside 16 = .ok (.athrow, 1) := by decide +kernel
theorem d_Pc_refuseOutside_17 : decode b_Pc_refuseOutside 17 = .ok (.return_, 1) := by decide +kernel
theorem d_Pc_doOne_0 : decode b_Pc_doOne 0 = .ok (.aload_n 0, 1) := by decide +kernel
theorem d_Pc_doOne_1 : decode b_Pc_doOne 1 = .ok (.getfield 11, 3) := by decide +kernel
theorem d_Pc_doOne_4 : decode b_Pc_doOne 4 = .ok (.aload_n 0, 1) := by decide +kernel
theorem d_Pc_doOne_5 : decode b_Pc_doOne 5 = .ok (.getfield 61, 3) := by decide +kernel
theorem d_Pc_doOne_8 : decode b_Pc_doOne 8 = .ok (.aaload, 1) := by decide +kernel
theorem d_Pc_doOne_9 : decode b_Pc_doOne 9 = .ok (.astore_n 1, 1) := by decide +kernel
theorem d_Pc_doOne_10 : decode b_Pc_doOne 10 = .ok (.aload_n 0, 1) := by decide +kernel
theorem d_Pc_doOne_11 : decode b_Pc_doOne 11 = .ok (.getfield 36, 3) := by decide +kernel
theorem d_Pc_doOne_14 : decode b_Pc_doOne 14 = .ok (.aload_n 0, 1) := by decide +kernel
theorem d_Pc_doOne_15 : decode b_Pc_doOne 15 = .ok (.getfield 61, 3) := by decide +kernel
theorem d_Pc_doOne_18 : decode b_Pc_doOne 18 = .ok (.iconst 4, 1) := by decide +kernel
theorem d_Pc_doOne_19 : decode b_Pc_doOne 19 = .ok (.idiv, 1) := by decide +kernel
theorem d_Pc_doOne_20 : decode b_Pc_doOne 20 = .ok (.invokevirtual 143, 3) := by decide +kernel
theorem d_Pc_doOne_23 : decode b_Pc_doOne 23 = .ok (.istore_n 2, 1) := by decide +kernel
theorem d_Pc_doOne_24 : decode b_Pc_doOne 24 = .ok (.iconst 0, 1) := by decide +kernel
theorem d_Pc_doOne_25 : decode b_Pc_doOne 25 = .ok (.istore_n 3, 1) := by decide +kernel
theorem d_Pc_doOne_26 : decode b_Pc_doOne 26 = .ok (.iconst 0, 1) := by decide +kernel
theorem d_Pc_doOne_27 : decode b_Pc_doOne 27 = .ok (.istore 4, 2) := by decide +kernel
theorem d_Pc_doOne_29 : decode b_Pc_doOne 29 = .ok (.iconst 0, 1) := by decide +kernel
theorem d_Pc_doOne_30 : decode b_Pc_doOne 30 = .ok (.istore 5, 2) := by decide +kernel
theorem d_Pc_doOne_32 : decode b_Pc_doOne 32 = .ok (.aload_n 1, 1) := by decide +kernel
theorem d_Pc_doOne_33 : decode b_Pc_doOne 33 = .ok (.invokevirtual 147, 3) := by decide +kernel
theorem d_Pc_doOne_36 : decode b_Pc_doOne 36 = .ok (.ifCond .eq 12, 3) := by decide +kernel
theorem d_Pc_doOne_39 : decode b_Pc_doOne 39 = .ok (.aload_n 0, 1) := by decide +kernel
theorem d_Pc_doOne_40 : decode b_Pc_doOne 40 = .ok (.aload_n 1, 1) := by decide +kernel
theorem d_Pc_doOne_41 : decode b_Pc_doOne 41 = .ok (.invokevirtual 151, 3) := by decide +kernel
theorem d_Pc_doOne_44 : decode b_Pc_doOne 44 = .ok (.istore_n 3, 1) := by decide +kernel
theorem d_Pc_doOne_45 : decode b_Pc_doOne 45 = .ok (.goto 72, 3) := by decide +kernel
theorem d_Pc_doOne_48 : decode b_Pc_doOne 48 = .ok (.aload_n 1, 1) := by decide +kernel
theorem d_Pc_doOne_49 : decode b_Pc_doOne 49 = .ok (.invokevirtual 155, 3) := by decide +kernel
theorem d_Pc_doOne_52 : decode b_Pc_doOne 52 = .ok (.ifCond .eq 45, 3) := by decide +kernel
theorem d_Pc_doOne_55 : decode b_Pc_doOne 55 = .ok (.aload_n 0, 1) := by decide +kernel
theorem d_Pc_doOne_56 : decode b_Pc_doOne 56 = .ok (.aload_n 1, 1) := by decide +kernel
theorem d_Pc_doOne_57 : decode b_Pc_doOne 57 = .ok (.invokevirtual 158, 3) := by decide +kernel
theorem d_Pc_doOne_60 : decode b_Pc_doOne 60 = .ok (.istore 4, 2) := by decide +kernel
theorem d_Pc_doOne_62 : decode b_Pc_doOne 62 = .ok (.aload_n 1, 1) := by decide +kernel
theorem d_Pc_doOne_63 : decode b_Pc_doOne 63 = .ok (.getfield 115, 3) := by decide +kernel
theorem d_Pc_doOne_66 : decode b_Pc_doOne 66 = .ok (.bipush 19, 2) := by decide +kernel
theorem d_Pc_doOne_68 : decode b_Pc_doOne 68 = .ok (.if_icmp .eq 23, 3) := by decide +kernel
theorem d_Pc_doOne_71 : decode b_Pc_doOne 71 = .ok (.aload_n 0, 1) := by decide +kernel
theorem d_Pc_doOne_72 : decode b_Pc_doOne 72 = .ok (.getfield 50, 3) := by decide +kernel
theorem d_Pc_doOne_75 : decode b_Pc_doOne 75 = .ok (.aload_n 0, 1) := by decide +kernel
theorem d_Pc_doOne_76 : decode b_Pc_doOne 76 = .ok (.getfield 61, 3) := by decide +kernel
theorem d_Pc_doOne_79 : decode b_Pc_doOne 79 = .ok (.iload 4, 2) := by decide +kernel
theorem d_Pc_doOne_81 : decode b_Pc_doOne 81 = .ok (.invokevirtual 161, 3) := by decide +kernel
theorem d_Pc_doOne_84 : decode b_Pc_doOne 84 = .ok (.ifCond .eq 7, 3) := by decide +kernel
theorem d_Pc_doOne_87 : decode b_Pc_doOne 87 = .ok (.iconst 1, 1) := by decide +kernel
theorem d_Pc_doOne_88 : decode b_Pc_doOne 88 = .ok (.goto 4, 3) := by decide +kernel
theorem d_Pc_doOne_91 : decode b_Pc_doOne 91 = .ok (.iconst 0, 1) := by decide +kernel
theorem d_Pc_doOne_92 : decode b_Pc_doOne 92 = .ok (.istore 5, 2) := by decide +kernel
theorem d_Pc_doOne_94 : decode b_Pc_doOne 94 = .ok (.goto 23, 3) := by decide +kernel
theorem d_Pc_doOne_97 : decode b_Pc_doOne 97 = .ok (.aload_n 1, 1) := by decide +kernel
theorem d_Pc_doOne_98 : decode b_Pc_doOne 98 = .ok (.getfield 115, 3) := by decide +kernel
theorem d_Pc_doOne_101 : decode b_Pc_doOne 101 = .ok (.ifCond .ne 11, 3) := by decide +kernel
theorem d_Pc_doOne_104 : decode b_Pc_doOne 104 = .ok (.aload_n 0, 1) := by decide +kernel
theorem d_Pc_doOne_105 : decode b_Pc_doOne 105 = .ok (.iconst 1, 1) := by decide +kernel
theorem d_Pc_doOne_106 : decode b_Pc_doOne 106 = .ok (.putfield 65, 3) := by decide +kernel
theorem d_Pc_doOne_109 : decode b_Pc_doOne 109 = .ok (.goto 8, 3) := by decide +kernel
theorem d_Pc_doOne_112 : decode b_Pc_doOne 112 = .ok (.aload_n 0, 1) := by decide +kernel
theorem d_Pc_doOne_113 : decode b_Pc_doOne 113 = .ok (.aload_n 1, 1) := by decide +kernel
theorem d_Pc_doOne_114 : decode b_Pc_doOne 114 = .ok (.invokevirtual 165, 3) := by decide +kernel
theorem d_Pc_doOne_117 : decode b_Pc_doOne 117 = .ok (.aload_n 0, 1) := by decide +kernel
theorem d_Pc_doOne_118 : decode b_Pc_doOne 118 = .ok (.getfield 29, 3) := by decide +kernel
theorem d_Pc_doOne_121 : decode b_Pc_doOne 121 = .ok (.aload_n 1, 1) := by decide +kernel
theorem d_Pc_doOne_122 : decode b_Pc_doOne 122 = .ok (.iload_n 2, 1) := by decide +kernel
theorem d_Pc_doOne_123 : decode b_Pc_doOne 123 = .ok (.iload_n 3, 1) := by decide +kernel
theorem d_Pc_doOne_124 : decode b_Pc_doOne 124 = .ok (.iload 5, 2) := by decide +kernel
theorem d_Pc_doOne_126 : decode b_Pc_doOne 126 = .ok (.invokevirtual 169, 3) := by decide +kernel
theorem d_Pc_doOne_129 : decode b_Pc_doOne 129 = .ok (.aload_n 0, 1) := by decide +kernel
theorem d_Pc_doOne_130 : decode b_Pc_doOne 130 = .ok (.dup, 1) := by decide +kernel
theorem d_Pc_doOne_131 : decode b_Pc_doOne 131 = .ok (.getfield 69, 3) := by decide +kernel
theorem d_Pc_doOne_134 : decode b_Pc_doOne 134 = .ok (.iconst 1, 1) := by decide +kernel
theorem d_Pc_doOne_135 : decode b_Pc_doOne 135 = .ok (.iadd, 1) := by decide +kernel
theorem d_Pc_doOne_136 : decode b_Pc_doOne 136 = .ok (.putfield 69, 3) := by decide +kernel
theorem d_Pc_doOne_139 : decode b_Pc_doOne 139 = .ok (.aload_n 0, 1) := by decide +kernel
theorem d_Pc_doOne_140 : decode b_Pc_doOne 140 = .ok (.getfield 65, 3) := by decide +kernel
theorem d_Pc_doOne_143 : decode b_Pc_doOne 143 = .ok (.ifCond .ne 28, 3) := by decide +kernel
theorem d_Pc_doOne_146 : decode b_Pc_doOne 146 = .ok (.aload_n 0, 1) := by decide +kernel
theorem d_Pc_doOne_147 : decode b_Pc_doOne 147 = .ok (.iload 4, 2) := by decide +kernel
theorem d_Pc_doOne_149 : decode b_Pc_doOne 149 = .ok (.ifCond .eq 10, 3) := by decide +kernel
theorem d_Pc_doOne_152 : decode b_Pc_doOne 152 = .ok (.aload_n 1, 1) := by decide +kernel
theorem d_Pc_doOne_153 : decode b_Pc_doOne 153 = .ok (.invokevirtual 173, 3) := by decide +kernel
theorem d_Pc_doOne_156 : decode b_Pc_doOne 156 = .ok (.goto 12, 3) := by decide +kernel
theorem d_Pc_doOne_159 : decode b_Pc_doOne 159 = .ok (.aload_n 0, 1) := by decide +kernel
theorem d_Pc_doOne_160 : decode b_Pc_doOne 160 = .ok (.getfield 61, 3) := by decide +kernel
theorem d_Pc_doOne_163 : decode b_Pc_doOne 163 = .ok (.iconst 1, 1) := by decide +kernel
theorem d_Pc_doOne_164 : decode b_Pc_doOne 164 = .ok (.iadd, 1) := by decide +kernel
theorem d_Pc_doOne_165 : decode b_Pc_doOne 165 = .ok (.bipush 24, 2) := by decide +kernel
theorem d_Pc_doOne_167 : decode b_Pc_doOne 167 = .ok (.irem, 1) := by decide +kernel
theorem d_Pc_doOne_168 : decode b_Pc_doOne 168 = .ok (.putfield 61, 3) := by decide +kernel
theorem d_Pc_doOne_171 : decode b_Pc_doOne 171 = .ok (.return_, 1) := by decide +kernel
theorem d_Pc_jumpIsDue_0 : decode b_Pc_jumpIsDue 0 = .ok (.aload_n 0, 1) := by decide +kernel
theorem d_Pc_jumpIsDue_1 : decode b_Pc_jumpIsDue 1 = .ok (.getfield 19, 3) := by decide +kernel
theorem d_Pc_jumpIsDue_4 : decode b_Pc_jumpIsDue 4 = .ok (.aload_n 1, 1) := by decide +kernel
theorem d_Pc_jumpIsDue_5 : decode b_Pc_jumpIsDue 5 = .ok (.getfield 121, 3) := by decide +kernel
theorem d_Pc_jumpIsDue_8 : decode b_Pc_jumpIsDue 8 = .ok (.iaload, 1) := by decide +kernel
theorem d_Pc_jumpIsDue_9 : decode b_Pc_jumpIsDue 9 = .ok (.aload_n 0, 1) := by decide +kernel
theorem d_Pc_jumpIsDue_10 : decode b_Pc_jumpIsDue 10 = .ok (.getfield 19, 3) := by decide +kernel
theorem d_Pc_jumpIsDue_13 : decode b_Pc_jumpIsDue 13 = .ok (.aload_n 1, 1) := by decide +kernel
theorem d_Pc_jumpIsDue_14 : decode b_Pc_jumpIsDue 14 = .ok (.getfield 124, 3) := by decide +kernel
theorem d_Pc_jumpIsDue_17 : decode b_Pc_jumpIsDue 17 = .ok (.iaload, 1) := by decide +kernel
theorem d_Pc_jumpIsDue_18 : decode b_Pc_jumpIsDue 18 = .ok (.if_icmp .ne 7, 3) := by decide +kernel
theorem d_Pc_jumpIsDue_21 : decode b_Pc_jumpIsDue 21 = .ok (.iconst 1, 1) := by decide +kernel
theorem d_Pc_jumpIsDue_22 : decode b_Pc_jumpIsDue 22 = .ok (.goto 4, 3) := by decide +kernel
theorem d_Pc_jumpIsDue_25 : decode b_Pc_jumpIsDue 25 = .ok (.iconst 0, 1) := by decide +kernel
theorem d_Pc_jumpIsDue_26 : decode b_Pc_jumpIsDue 26 = .ok (.istore_n 2, 1) := by decide +kernel
theorem d_Pc_jumpIsDue_27 : decode b_Pc_jumpIsDue 27 = .ok (.aload_n 1, 1) := by decide +kernel
theorem d_Pc_jumpIsDue_28 : decode b_Pc_jumpIsDue 28 = .ok (.getfield 115, 3) := by decide +kernel
theorem d_Pc_jumpIsDue_31 : decode b_Pc_jumpIsDue 31 = .ok (.lookupswitch 37 #[(17, 25), (18, 27)], 25) := by decide +kernel
theorem d_Pc_jumpIsDue_56 : decode b_Pc_jumpIsDue 56 = .ok (.iload_n 2, 1) := by decide +kernel
theorem d_Pc_jumpIsDue_57 : decode b_Pc_jumpIsDue 57 = .ok (.ireturn, 1) := by decide +kernel
theorem d_Pc_jumpIsDue_58 : decode b_Pc_jumpIsDue 58 = .ok (.iload_n 2, 1) := by decide +kernel
theorem d_Pc_jumpIsDue_59 : decode b_Pc_jumpIsDue 59 = .ok (.ifCond .ne 7, 3) := by decide +kernel
theorem d_Pc_jumpIsDue_62 : decode b_Pc_jumpIsDue 62 = .ok (.iconst 1, 1) := by decide +kernel
theorem d_Pc_jumpIsDue_63 : decode b_Pc_jumpIsDue 63 = .ok (.goto 4, 3) := by decide +kernel
theorem d_Pc_jumpIsDue_66 : decode b_Pc_jumpIsDue 66 = .ok (.iconst 0, 1) := by decide +kernel
theorem d_Pc_jumpIsDue_67 : decode b_Pc_jumpIsDue 67 = .ok (.ireturn, 1) := by decide +kernel
theorem d_Pc_jumpIsDue_68 : decode b_Pc_jumpIsDue 68 = .ok (.iconst 1, 1) := by decide +kernel
theorem d_Pc_jumpIsDue_69 : decode b_Pc_jumpIsDue 69 = .ok (.ireturn, 1) := by decide +kernel
theorem d_Pc_moveCell_0 : decode b_Pc_moveCell 0 = .ok (.aload_n 0, 1) := by decide +kernel
theorem d_Pc_moveCell_1 : decode b_Pc_moveCell 1 = .ok (.getfield 19, 3) := by decide +kernel
theorem d_Pc_moveCell_4 : decode b_Pc_moveCell 4 = .ok (.aload_n 1, 1) := by decide +kernel
theorem d_Pc_moveCell_5 : decode b_Pc_moveCell 5 = .ok (.getfield 121, 3) := by decide +kernel
theorem d_Pc_moveCell_8 : decode b_Pc_moveCell 8 = .ok (.iaload, 1) := by decide +kernel
theorem d_Pc_moveCell_9 : decode b_Pc_moveCell 9 = .ok (.aload_n 1, 1) := by decide +kernel
theorem d_Pc_moveCell_10 : decode b_Pc_moveCell 10 = .ok (.getfield 127, 3) := by decide +kernel
theorem d_Pc_moveCell_13 : decode b_Pc_moveCell 13 = .ok (.iadd, 1) := by decide +kernel
theorem d_Pc_moveCell_14 : decode b_Pc_moveCell 14 = .ok (.istore_n 2, 1) := by decide +kernel
theorem d_Pc_moveCell_15 : decode b_Pc_moveCell 15 = .ok (.iload_n 2, 1) := by decide +kernel
theorem d_Pc_moveCell_16 : decode b_Pc_moveCell 16 = .ok (.ifCond .lt 9, 3) := by decide +kernel
theorem d_Pc_moveCell_19 : decode b_Pc_moveCell 19 = .ok (.iload_n 2, 1) := by decide +kernel
theorem d_Pc_moveCell_20 : decode b_Pc_moveCell 20 = .ok (.bipush 48, 2) := by decide +kernel
theorem d_Pc_moveCell_22 : decode b_Pc_moveCell 22 = .ok (.if_icmp .lt 16, 3) := by decide +kernel
theorem d_Pc_moveCell_25 : decode b_Pc_moveCell 25 = .ok (.aload_n 0, 1) := by decide +kernel
theorem d_Pc_moveCell_26 : decode b_Pc_moveCell 26 = .ok (.iconst 1, 1) := by decide +kernel
theorem d_Pc_moveCell_27 : decode b_Pc_moveCell 27 = .ok (.putfield 65, 3) := by decide +kernel
theorem d_Pc_moveCell_30 : decode b_Pc_moveCell 30 = .ok (.new 177, 3) := by decide +kernel
theorem d_Pc_moveCell_33 : decode b_Pc_moveCell 33 = .ok (.dup, 1) := by decide +kernel
theorem d_Pc_moveCell_34 : decode b_Pc_moveCell 34 = .ok (.invokespecial 179, 3) := by decide +kernel
theorem d_Pc_moveCell_37 : decode b_Pc_moveCell 37 = .ok (.athrow, 1) := by decide +kernel
theorem d_Pc_moveCell_38 : decode b_Pc_moveCell 38 = .ok (.aload_n 1, 1) := by decide +kernel
theorem d_Pc_moveCell_39 : decode b_Pc_moveCell 39 = .ok (.getfield 115, 3) := by decide +kernel
theorem d_Pc_moveCell_42 : decode b_Pc_moveCell 42 = .ok (.tableswitch 83 6 8 #[26, 44, 63], 26) := by decide +kernel
theorem d_Pc_moveCell_68 : decode b_Pc_moveCell 68 = .ok (.aload_n 0, 1) := by decide +kernel
theorem d_Pc_moveCell_69 : decode b_Pc_moveCell 69 = .ok (.aload_n 1, 1) := by decide +kernel
theorem d_Pc_moveCell_70 : decode b_Pc_moveCell 70 = .ok (.getfield 118, 3) := by decide +kernel
theorem d_Pc_moveCell_73 : decode b_Pc_moveCell 73 = .ok (.aload_n 0, 1) := by decide +kernel
theorem d_Pc_moveCell_74 : decode b_Pc_moveCell 74 = .ok (.getfield 15, 3) := by decide +kernel
theorem d_Pc_moveCell_77 : decode b_Pc_moveCell 77 = .ok (.iload_n 2, 1) := by decide +kernel
theorem d_Pc_moveCell_78 : decode b_Pc_moveCell 78 = .ok (.daload, 1) := by decide +kernel
theorem d_Pc_moveCell_79 : decode b_Pc_moveCell 79 = .ok (.d2i, 1) := by decide +kernel
theorem d_Pc_moveCell_80 : decode b_Pc_moveCell 80 = .ok (.invokevirtual 180, 3) := by decide +kernel
theorem d_Pc_moveCell_83 : decode b_Pc_moveCell 83 = .ok (.goto 59, 3) := by decide +kernel
theorem d_Pc_moveCell_86 : decode b_Pc_moveCell 86 = .ok (.aload_n 0, 1) := by decide +kernel
theorem d_Pc_moveCell_87 : decode b_Pc_moveCell 87 = .ok (.getfield 15, 3) := by decide +kernel
theorem d_Pc_moveCell_90 : decode b_Pc_moveCell 90 = .ok (.iload_n 2, 1) := by decide +kernel
theorem d_Pc_moveCell_91 : decode b_Pc_moveCell 91 = .ok (.aload_n 0, 1) := by decide +kernel
theorem d_Pc_moveCell_92 : decode b_Pc_moveCell 92 = .ok (.getfield 19, 3) := by decide +kernel
theorem d_Pc_moveCell_95 : decode b_Pc_moveCell 95 = .ok (.aload_n 1, 1) := by decide +kernel
theorem d_Pc_moveCell_96 : decode b_Pc_moveCell 96 = .ok (.getfield 124, 3) := by decide +kernel
theorem d_Pc_moveCell_99 : decode b_Pc_moveCell 99 = .ok (.iaload, 1) := by decide +kernel
theorem d_Pc_moveCell_100 : decode b_Pc_moveCell 100 = .ok (.i2d, 1) := by decide +kernel
theorem d_Pc_moveCell_101 : decode b_Pc_moveCell 101 = .ok (.dastore, 1) := by decide +kernel
theorem d_Pc_moveCell_102 : decode b_Pc_moveCell 102 = .ok (.goto 40, 3) := by decide +kernel
theorem d_Pc_moveCell_105 : decode b_Pc_moveCell 105 = .ok (.aload_n 0, 1) := by decide +kernel
theorem d_Pc_moveCell_106 : decode b_Pc_moveCell 106 = .ok (.getfield 23, 3) := by decide +kernel
theorem d_Pc_moveCell_109 : decode b_Pc_moveCell 109 = .ok (.aload_n 1, 1) := by decide +kernel
theorem d_Pc_moveCell_110 : decode b_Pc_moveCell 110 = .ok (.getfield 118, 3) := by decide +kernel
theorem d_Pc_moveCell_113 : decode b_Pc_moveCell 113 = .ok (.iconst 4, 1) := by decide +kernel
theorem d_Pc_moveCell_114 : decode b_Pc_moveCell 114 = .ok (.irem, 1) := by decide +kernel
theorem d_Pc_moveCell_115 : decode b_Pc_moveCell 115 = .ok (.aload_n 0, 1) := by decide +kernel
theorem d_Pc_moveCell_116 : decode b_Pc_moveCell 116 = .ok (.getfield 15, 3) := by decide +kernel
theorem d_Pc_moveCell_119 : decode b_Pc_moveCell 119 = .ok (.iload_n 2, 1) := by decide +kernel
theorem d_Pc_moveCell_120 : decode b_Pc_moveCell 120 = .ok (.daload, 1) := by decide +kernel
theorem d_Pc_moveCell_121 : decode b_Pc_moveCell 121 = .ok (.dastore, 1) := by decide +kernel
theorem d_Pc_moveCell_122 : decode b_Pc_moveCell 122 = .ok (.goto 20, 3) := by decide +kernel
theorem d_Pc_moveCell_125 : decode b_Pc_moveCell 125 = .ok (.aload_n 0, 1) := by decide +kernel
theorem d_Pc_moveCell_126 : decode b_Pc_moveCell 126 = .ok (.getfield 15, 3) := by decide +kernel
theorem d_Pc_moveCell_129 : decode b_Pc_moveCell 129 = .ok (.iload_n 2, 1) := by decide +kernel
theorem d_Pc_moveCell_130 : decode b_Pc_moveCell 130 = .ok (.aload_n 0, 1) := by decide +kernel
theorem d_Pc_moveCell_131 : decode b_Pc_moveCell 131 = .ok (.getfield 23, 3) := by decide +kernel
theorem d_Pc_moveCell_134 : decode b_Pc_moveCell 134 = .ok (.aload_n 1, 1) := by decide +kernel
theorem d_Pc_moveCell_135 : decode b_Pc_moveCell 135 = .ok (.getfield 124, 3) := by decide +kernel
theorem d_Pc_moveCell_138 : decode b_Pc_moveCell 138 = .ok (.iconst 4, 1) := by decide +kernel
theorem d_Pc_moveCell_139 : decode b_Pc_moveCell 139 = .ok (.irem, 1) := by decide +kernel
theorem d_Pc_moveCell_140 : decode b_Pc_moveCell 140 = .ok (.daload, 1) := by decide +kernel
theorem d_Pc_moveCell_141 : decode b_Pc_moveCell 141 = .ok (.dastore, 1) := by decide +kernel
theorem d_Pc_moveCell_142 : decode b_Pc_moveCell 142 = .ok (.aload_n 0, 1) := by decide +kernel
theorem d_Pc_moveCell_143 : decode b_Pc_moveCell 143 = .ok (.getfield 43, 3) := by decide +kernel
theorem d_Pc_moveCell_146 : decode b_Pc_moveCell 146 = .ok (.iload_n 2, 1) := by decide +kernel
theorem d_Pc_moveCell_147 : decode b_Pc_moveCell 147 = .ok (.iconst 4, 1) := by decide +kernel
theorem d_Pc_moveCell_148 : decode b_Pc_moveCell 148 = .ok (.idiv, 1) := by decide +kernel
theorem d_Pc_moveCell_149 : decode b_Pc_moveCell 149 = .ok (.invokevirtual 183, 3) := by decide +kernel
theorem d_Pc_moveCell_152 : decode b_Pc_moveCell 152 = .ok (.ireturn, 1) := by decide +kernel
theorem d_Pc_compute_0 : decode b_Pc_compute 0 = .ok (.aload_n 1, 1) := by decide +kernel
theorem d_Pc_compute_1 : decode b_Pc_compute 1 = .ok (.getfield 115, 3) := by decide +kernel
theorem d_Pc_compute_4 : decode b_Pc_compute 4 = .ok (.iconst 5, 1) := by decide +kernel
theorem d_Pc_compute_5 : decode b_Pc_compute 5 = .ok (.if_icmp .gt 17, 3) := by decide +kernel
theorem d_Pc_compute_8 : decode b_Pc_compute 8 = .ok (.aload_n 0, 1) := by decide +kernel
theorem d_Pc_compute_9 : decode b_Pc_compute 9 = .ok (.aload_n 1, 1) := by decide +kernel
theorem d_Pc_compute_10 : decode b_Pc_compute 10 = .ok (.getfield 118, 3) := by decide +kernel
theorem d_Pc_compute_13 : decode b_Pc_compute 13 = .ok (.aload_n 0, 1) := by decide +kernel
theorem d_Pc_compute_14 : decode b_Pc_compute 14 = .ok (.aload_n 1, 1) := by decide +kernel
theorem d_Pc_compute_15 : decode b_Pc_compute 15 = .ok (.invokevirtual 184, 3) := by decide +kernel
theorem d_Pc_compute_18 : decode b_Pc_compute 18 = .ok (.invokevirtual 180, 3) := by decide +kernel
theorem d_Pc_compute_21 : decode b_Pc_compute 21 = .ok (.return_, 1) := by decide +kernel
theorem d_Pc_compute_22 : decode b_Pc_compute 22 = .ok (.aload_n 0, 1) := by decide +kernel
theorem d_Pc_compute_23 : decode b_Pc_compute 23 = .ok (.getfield 23, 3) := by decide +kernel
theorem d_Pc_compute_26 : decode b_Pc_compute 26 = .ok (.aload_n 1, 1) := by decide +kernel
theorem d_Pc_compute_27 : decode b_Pc_compute 27 = .ok (.getfield 121, 3) := by decide +kernel
theorem d_Pc_compute_30 : decode b_Pc_compute 30 = .ok (.iconst 4, 1) := by decide +kernel
theorem d_Pc_compute_31 : decode b_Pc_compute 31 = .ok (.irem, 1) := by decide +kernel
theorem d_Pc_compute_32 : decode b_Pc_compute 32 = .ok (.daload, 1) := by decide +kernel
theorem d_Pc_compute_33 : decode b_Pc_compute 33 = .ok (.dstore_n 2, 1) := by decide +kernel
theorem d_Pc_compute_34 : decode b_Pc_compute 34 = .ok (.aload_n 0, 1) := by decide +kernel
theorem d_Pc_compute_35 : decode b_Pc_compute 35 = .ok (.getfield 23, 3) := by decide +kernel
theorem d_Pc_compute_38 : decode b_Pc_compute 38 = .ok (.aload_n 1, 1) := by decide +kernel
theorem d_Pc_compute_39 : decode b_Pc_compute 39 = .ok (.getfield 124, 3) := by decide +kernel
theorem d_Pc_compute_42 : decode b_Pc_compute 42 = .ok (.iconst 4, 1) := by decide +kernel
theorem d_Pc_compute_43 : decode b_Pc_compute 43 = .ok (.irem, 1) := by decide +kernel
theorem d_Pc_compute_44 : decode b_Pc_compute 44 = .ok (.daload, 1) := by decide +kernel
theorem d_Pc_compute_45 : decode b_Pc_compute 45 = .ok (.dstore 4, 2) := by decide +kernel
theorem d_Pc_compute_47 : decode b_Pc_compute 47 = .ok (.aload_n 1, 1) := by decide +kernel
theorem d_Pc_compute_48 : decode b_Pc_compute 48 = .ok (.getfield 115, 3) := by decide +kernel
theorem d_Pc_compute_51 : decode b_Pc_compute 51 = .ok (.tableswitch 85 14 16 #[25, 48, 72], 25) := by decide +kernel
theorem d_Pc_compute_76 : decode b_Pc_compute 76 = .ok (.aload_n 0, 1) := by decide +kernel
theorem d_Pc_compute_77 : decode b_Pc_compute 77 = .ok (.aload_n 1, 1) := by decide +kernel
theorem d_Pc_compute_78 : decode b_Pc_compute 78 = .ok (.getfield 118, 3) := by decide +kernel
theorem d_Pc_compute_81 : decode b_Pc_compute 81 = .ok (.dload_n 2, 1) := by decide +kernel
theorem d_Pc_compute_82 : decode b_Pc_compute 82 = .ok (.dload 4, 2) := by decide +kernel
theorem d_Pc_compute_84 : decode b_Pc_compute 84 = .ok (.dcmp .g, 1) := by decide +kernel
theorem d_Pc_compute_85 : decode b_Pc_compute 85 = .ok (.ifCond .ge 7, 3) := by decide +kernel
theorem d_Pc_compute_88 : decode b_Pc_compute 88 = .ok (.iconst 1, 1) := by decide +kernel
theorem d_Pc_compute_89 : decode b_Pc_compute 89 = .ok (.goto 4, 3) := by decide +kernel
theorem d_Pc_compute_92 : decode b_Pc_compute 92 = .ok (.iconst 0, 1) := by decide +kernel
theorem d_Pc_compute_93 : decode b_Pc_compute 93 = .ok (.invokevirtual 180, 3) := by decide +kernel
theorem d_Pc_compute_96 : decode b_Pc_compute 96 = .ok (.goto 62, 3) := by decide +kernel
theorem d_Pc_compute_99 : decode b_Pc_compute 99 = .ok (.aload_n 0, 1) := by decide +kernel
theorem d_Pc_compute_100 : decode b_Pc_compute 100 = .ok (.getfield 23, 3) := by decide +kernel
theorem d_Pc_compute_103 : decode b_Pc_compute 103 = .ok (.aload_n 1, 1) := by decide +kernel
theorem d_Pc_compute_104 : decode b_Pc_compute 104 = .ok (.getfield 118, 3) := by decide +kernel
theorem d_Pc_compute_107 : decode b_Pc_compute 107 = .ok (.iconst 4, 1) := by decide +kernel
theorem d_Pc_compute_108 : decode b_Pc_compute 108 = .ok (.irem, 1) := by decide +kernel
theorem d_Pc_compute_109 : decode b_Pc_compute 109 = .ok (.aload_n 0, 1) := by decide +kernel
theorem d_Pc_compute_110 : decode b_Pc_compute 110 = .ok (.getfield 19, 3) := by decide +kernel
theorem d_Pc_compute_113 : decode b_Pc_compute 113 = .ok (.aload_n 1, 1) := by decide +kernel
theorem d_Pc_compute_114 : decode b_Pc_compute 114 = .ok (.getfield 121, 3) := by decide +kernel
theorem d_Pc_compute_117 : decode b_Pc_compute 117 = .ok (.iaload, 1) := by decide +kernel
theorem d_Pc_compute_118 : decode b_Pc_compute 118 = .ok (.i2d, 1) := by decide +kernel
theorem d_Pc_compute_119 : decode b_Pc_compute 119 = .ok (.dastore, 1) := by decide +kernel
theorem d_Pc_compute_120 : decode b_Pc_compute 120 = .ok (.goto 38, 3) := by decide +kernel
theorem d_Pc_compute_123 : decode b_Pc_compute 123 = .ok (.aload_n 0, 1) := by decide +kernel
theorem d_Pc_compute_124 : decode b_Pc_compute 124 = .ok (.aload_n 1, 1) := by decide +kernel
theorem d_Pc_compute_125 : decode b_Pc_compute 125 = .ok (.getfield 118, 3) := by decide +kernel
theorem d_Pc_compute_128 : decode b_Pc_compute 128 = .ok (.dload_n 2, 1) := by decide +kernel
theorem d_Pc_compute_129 : decode b_Pc_compute 129 = .ok (.d2i, 1) := by decide +kernel
theorem d_Pc_compute_130 : decode b_Pc_compute 130 = .ok (.invokevirtual 180, 3) := by decide +kernel
theorem d_Pc_compute_133 : decode b_Pc_compute 133 = .ok (.goto 25, 3) := by decide +kernel
theorem d_Pc_compute_136 : decode b_Pc_compute 136 = .ok (.aload_n 0, 1) := by decide +kernel
theorem d_Pc_compute_137 : decode b_Pc_compute 137 = .ok (.getfield 23, 3) := by decide +kernel
theorem d_Pc_compute_140 : decode b_Pc_compute 140 = .ok (.aload_n 1, 1) := by decide +kernel
theorem d_Pc_compute_141 : decode b_Pc_compute 141 = .ok (.getfield 118, 3) := by decide +kernel
theorem d_Pc_compute_144 : decode b_Pc_compute 144 = .ok (.iconst 4, 1) := by decide +kernel
theorem d_Pc_compute_145 : decode b_Pc_compute 145 = .ok (.irem, 1) := by decide +kernel
theorem d_Pc_compute_146 : decode b_Pc_compute 146 = .ok (.aload_n 0, 1) := by decide +kernel
theorem d_Pc_compute_147 : decode b_Pc_compute 147 = .ok (.aload_n 1, 1) := by decide +kernel
theorem d_Pc_compute_148 : decode b_Pc_compute 148 = .ok (.getfield 115, 3) := by decide +kernel
theorem d_Pc_compute_151 : decode b_Pc_compute 151 = .ok (.dload_n 2, 1) := by decide +kernel
theorem d_Pc_compute_152 : decode b_Pc_compute 152 = .ok (.dload 4, 2) := by decide +kernel
theorem d_Pc_compute_154 : decode b_Pc_compute 154 = .ok (.invokevirtual 188, 3) := by decide +kernel
theorem d_Pc_compute_157 : decode b_Pc_compute 157 = .ok (.dastore, 1) := by decide +kernel
theorem d_Pc_compute_158 : decode b_Pc_compute 158 = .ok (.return_, 1) := by decide +kernel
theorem d_Pc_computedWhole_0 : decode b_Pc_computedWhole 0 = .ok (.aload_n 0, 1) := by decide +kernel
theorem d_Pc_computedWhole_1 : decode b_Pc_computedWhole 1 = .ok (.getfield 19, 3) := by decide +kernel
theorem d_Pc_computedWhole_4 : decode b_Pc_computedWhole 4 = .ok (.aload_n 1, 1) := by decide +kernel
theorem d_Pc_computedWhole_5 : decode b_Pc_computedWhole 5 = .ok (.getfield 121, 3) := by decide +kernel
theorem d_Pc_computedWhole_8 : decode b_Pc_computedWhole 8 = .ok (.iaload, 1) := by decide +kernel
theorem d_Pc_computedWhole_9 : decode b_Pc_computedWhole 9 = .ok (.istore_n 2, 1) := by decide +kernel
theorem d_Pc_computedWhole_10 : decode b_Pc_computedWhole 10 = .ok (.aload_n 0, 1) := by decide +kernel
theorem d_Pc_computedWhole_11 : decode b_Pc_computedWhole 11 = .ok (.getfield 19, 3) := by decide +kernel
theorem d_Pc_computedWhole_14 : decode b_Pc_computedWhole 14 = .ok (.aload_n 1, 1) := by decide +kernel
theorem d_Pc_computedWhole_15 : decode b_Pc_computedWhole 15 = .ok (.getfield 124, 3) := by decide +kernel
theorem d_Pc_computedWhole_18 : decode b_Pc_computedWhole 18 = .ok (.iaload, 1) := by decide +kernel
theorem d_Pc_computedWhole_19 : decode b_Pc_computedWhole 19 = .ok (.istore_n 3, 1) := by decide +kernel
theorem d_Pc_computedWhole_20 : decode b_Pc_computedWhole 20 = .ok (.aload_n 1, 1) := by decide +kernel
theorem d_Pc_computedWhole_21 : decode b_Pc_computedWhole 21 = .ok (.getfield 115, 3) := by decide +kernel
theorem d_Pc_computedWhole_24 : decode b_Pc_computedWhole 24 = .ok (.tableswitch 51 1 4 #[32, 39, 43, 47], 32) := by decide +kernel
theorem d_Pc_computedWhole_56 : decode b_Pc_computedWhole 56 = .ok (.iload_n 2, 1) := by decide +kernel
theorem d_Pc_computedWhole_57 : decode b_Pc_computedWhole 57 = .ok (.aload_n 1, 1) := by decide +kernel
theorem d_Pc_computedWhole_58 : decode b_Pc_computedWhole 58 = .ok (.getfield 127, 3) := by decide +kernel
theorem d_Pc_computedWhole_61 : decode b_Pc_computedWhole 61 = .ok (.iadd, 1) := by decide +kernel
theorem d_Pc_computedWhole_62 : decode b_Pc_computedWhole 62 = .ok (.ireturn, 1) := by decide +kernel
theorem d_Pc_computedWhole_63 : decode b_Pc_computedWhole 63 = .ok (.iload_n 2, 1) := by decide +kernel
theorem d_Pc_computedWhole_64 : decode b_Pc_computedWhole 64 = .ok (.iload_n 3, 1) := by decide +kernel
theorem d_Pc_computedWhole_65 : decode b_Pc_computedWhole 65 = .ok (.iadd, 1) := by decide +kernel
theorem d_Pc_computedWhole_66 : decode b_Pc_computedWhole 66 = .ok (.ireturn, 1) := by decide +kernel
theorem d_Pc_computedWhole_67 : decode b_Pc_computedWhole 67 = .ok (.iload_n 2, 1) := by decide +kernel
theorem d_Pc_computedWhole_68 : decode b_Pc_computedWhole 68 = .ok (.iload_n 3, 1) := by decide +kernel
theorem d_Pc_computedWhole_69 : decode b_Pc_computedWhole 69 = .ok (.isub, 1) := by decide +kernel
theorem d_Pc_computedWhole_70 : decode b_Pc_computedWhole 70 = .ok (.ireturn, 1) := by decide +kernel
theorem d_Pc_computedWhole_71 : decode b_Pc_computedWhole 71 = .ok (.iload_n 2, 1) := by decide +kernel
theorem d_Pc_computedWhole_72 : decode b_Pc_computedWhole 72 = .ok (.iload_n 3, 1) := by decide +kernel
theorem d_Pc_computedWhole_73 : decode b_Pc_computedWhole 73 = .ok (.imul, 1) := by decide +kernel
theorem d_Pc_computedWhole_74 : decode b_Pc_computedWhole 74 = .ok (.ireturn, 1) := by decide +kernel
theorem d_Pc_computedWhole_75 : decode b_Pc_computedWhole 75 = .ok (.iload_n 2, 1) := by decide +kernel
theorem d_Pc_computedWhole_76 : decode b_Pc_computedWhole 76 = .ok (.iload_n 3, 1) := by decide +kernel
theorem d_Pc_computedWhole_77 : decode b_Pc_computedWhole 77 = .ok (.if_icmp .ge 7, 3) := by decide +kernel
theorem d_Pc_computedWhole_80 : decode b_Pc_computedWhole 80 = .ok (.iconst 1, 1) := by decide +kernel
theorem d_Pc_computedWhole_81 : decode b_Pc_computedWhole 81 = .ok (.goto 4, 3) := by decide +kernel
theorem d_Pc_computedWhole_84 : decode b_Pc_computedWhole 84 = .ok (.iconst 0, 1) := by decide +kernel
theorem d_Pc_computedWhole_85 : decode b_Pc_computedWhole 85 = .ok (.ireturn, 1) := by decide +kernel
theorem d_Pc_computedFraction_0 : decode b_Pc_computedFraction 0 = .ok (.aload_n 0, 1) := by decide +kernel
theorem d_Pc_computedFraction_1 : decode b_Pc_computedFraction 1 = .ok (.iload_n 1, 1) := by decide +kernel
theorem d_Pc_computedFraction_2 : decode b_Pc_computedFraction 2 = .ok (.dload_n 2, 1) := by decide +kernel
theorem d_Pc_computedFraction_3 : decode b_Pc_computedFraction 3 = .ok (.dload 4, 2) := by decide +kernel
theorem d_Pc_computedFraction_5 : decode b_Pc_computedFraction 5 = .ok (.invokevirtual 192, 3) := by decide +kernel
theorem d_Pc_computedFraction_8 : decode b_Pc_computedFraction 8 = .ok (.dstore 6, 2) := by decide +kernel
theorem d_Pc_computedFraction_10 : decode b_Pc_computedFraction 10 = .ok (.dload 6, 2) := by decide +kernel
theorem d_Pc_computedFraction_12 : decode b_Pc_computedFraction 12 = .ok (.ldc2_w 195, 3) := by decide +kernel
theorem d_Pc_computedFraction_15 : decode b_Pc_computedFraction 15 = .ok (.dcmp .l, 1) := by decide +kernel
theorem d_Pc_computedFraction_16 : decode b_Pc_computedFraction 16 = .ok (.ifCond .gt 12, 3) := by decide +kernel
theorem d_Pc_computedFraction_19 : decode b_Pc_computedFraction 19 = .ok (.dload 6, 2) := by decide +kernel
theorem d_Pc_computedFraction_21 : decode b_Pc_computedFraction 21 = .ok (.ldc2_w 197, 3) := by decide +kernel
theorem d_Pc_computedFraction_24 : decode b_Pc_computedFraction 24 = .ok (.dcmp .g, 1) := by decide +kernel
theorem d_Pc_computedFraction_25 : decode b_Pc_computedFraction 25 = .ok (.ifCond .ge 16, 3) := by decide +kernel
theorem d_Pc_computedFraction_28 : decode b_Pc_computedFraction 28 = .ok (.aload_n 0, 1) := by decide +kernel
theorem d_Pc_computedFraction_29 : decode b_Pc_computedFraction 29 = .ok (.iconst 1, 1) := by decide +kernel
theorem d_Pc_computedFraction_30 : decode b_Pc_computedFraction 30 = .ok (.putfield 65, 3) := by decide +kernel
theorem d_Pc_computedFraction_33 : decode b_Pc_computedFraction 33 = .ok (.new 199, 3) := by decide +kernel
theorem d_Pc_computedFraction_36 : decode b_Pc_computedFraction 36 = .ok (.dup, 1) := by decide +kernel
theorem d_Pc_computedFraction_37 : decode b_Pc_computedFraction 37 = .ok (.invokespecial 201, 3) := by decide +kernel
theorem d_Pc_computedFraction_40 : decode b_Pc_computedFraction 40 = .ok (.athrow, 1) := by decide +kernel
theorem d_Pc_computedFraction_41 : decode b_Pc_computedFraction 41 = .ok (.dload 6, 2) := by decide +kernel
theorem d_Pc_computedFraction_43 : decode b_Pc_computedFraction 43 = .ok (.dreturn, 1) := by decide +kernel
theorem d_Pc_outcomeOf_0 : decode b_Pc_outcomeOf 0 = .ok (.iload_n 1, 1) := by decide +kernel
theorem d_Pc_outcomeOf_1 : decode b_Pc_outcomeOf 1 = .ok (.tableswitch 42 10 12 #[27, 32, 37], 27) := by decide +kernel
theorem d_Pc_outcomeOf_28 : decode b_Pc_outcomeOf 28 = .ok (.dload_n 2, 1) := by decide +kernel
theorem d_Pc_outcomeOf_29 : decode b_Pc_outcomeOf 29 = .ok (.dload 4, 2) := by decide +kernel
theorem d_Pc_outcomeOf_31 : decode b_Pc_outcomeOf 31 = .ok (.dadd, 1) := by decide +kernel
theorem d_Pc_outcomeOf_32 : decode b_Pc_outcomeOf 32 = .ok (.dreturn, 1) := by decide +kernel
theorem d_Pc_outcomeOf_33 : decode b_Pc_outcomeOf 33 = .ok (.dload_n 2, 1) := by decide +kernel
theorem d_Pc_outcomeOf_34 : decode b_Pc_outcomeOf 34 = .ok (.dload 4, 2) := by decide +kernel
theorem d_Pc_outcomeOf_36 : decode b_Pc_outcomeOf 36 = .ok (.dsub, 1) := by decide +kernel
theorem d_Pc_outcomeOf_37 : decode b_Pc_outcomeOf 37 = .ok (.dreturn, 1) := by decide +kernel
theorem d_Pc_outcomeOf_38 : decode b_Pc_outcomeOf 38 = .ok (.dload_n 2, 1) := by decide +kernel
theorem d_Pc_outcomeOf_39 : decode b_Pc_outcomeOf 39 = .ok (.dload 4, 2) := by decide +kernel
theorem d_Pc_outcomeOf_41 : decode b_Pc_outcomeOf 41 = .ok (.dmul, 1) := by decide +kernel
theorem d_Pc_outcomeOf_42 : decode b_Pc_outcomeOf 42 = .ok (.dreturn, 1) := by decide +kernel
theorem d_Pc_outcomeOf_43 : decode b_Pc_outcomeOf 43 = .ok (.aload_n 0, 1) := by decide +kernel
theorem d_Pc_outcomeOf_44 : decode b_Pc_outcomeOf 44 = .ok (.dload_n 2, 1) := by decide +kernel
theorem d_Pc_outcomeOf_45 : decode b_Pc_outcomeOf 45 = .ok (.dload 4, 2) := by decide +kernel
theorem d_Pc_outcomeOf_47 : decode b_Pc_outcomeOf 47 = .ok (.invokevirtual 202, 3) := by decide +kernel
theorem d_Pc_outcomeOf_50 : decode b_Pc_outcomeOf 50 = .ok (.dreturn, 1) := by decide +kernel
theorem d_Pc_quotient_0 : decode b_Pc_quotient 0 = .ok (.dload_n 3, 1) := by decide +kernel
theorem d_Pc_quotient_1 : decode b_Pc_quotient 1 = .ok (.dconst 0, 1) := by decide +kernel
theorem d_Pc_quotient_2 : decode b_Pc_quotient 2 = .ok (.dcmp .l, 1) := by decide +kernel
theorem d_Pc_quotient_3 : decode b_Pc_quotient 3 = .ok (.ifCond .ne 16, 3) := by decide +kernel
theorem d_Pc_quotient_6 : decode b_Pc_quotient 6 = .ok (.aload_n 0, 1) := by decide +kernel
theorem d_Pc_quotient_7 : decode b_Pc_quotient 7 = .ok (.iconst 1, 1) := by decide +kernel
theorem d_Pc_quotient_8 : decode b_Pc_quotient 8 = .ok (.putfield 65, 3) := by decide +kernel
theorem d_Pc_quotient_11 : decode b_Pc_quotient 11 = .ok (.new 199, 3) := by decide +kernel
theorem d_Pc_quotient_14 : decode b_Pc_quotient 14 = .ok (.dup, 1) := by decide +kernel
theorem d_Pc_quotient_15 : decode b_Pc_quotient 15 = .ok (.invokespecial 201, 3) := by decide +kernel
theorem d_Pc_quotient_18 : decode b_Pc_quotient 18 = .ok (.athrow, 1) := by decide +kernel
theorem d_Pc_quotient_19 : decode b_Pc_quotient 19 = .ok (.dload_n 1, 1) := by decide +kernel
theorem d_Pc_quotient_20 : decode b_Pc_quotient 20 = .ok (.dload_n 3, 1) := by decide +kernel
theorem d_Pc_quotient_21 : decode b_Pc_quotient 21 = .ok (.ddiv, 1) := by decide +kernel
theorem d_Pc_quotient_22 : decode b_Pc_quotient 22 = .ok (.dreturn, 1) := by decide +kernel
theorem d_Pc_putWhole_0 : decode b_Pc_putWhole 0 = .ok (.iload_n 1, 1) := by decide +kernel
theorem d_Pc_putWhole_1 : decode b_Pc_putWhole 1 = .ok (.ifCond .eq 10, 3) := by decide +kernel
theorem d_Pc_putWhole_4 : decode b_Pc_putWhole 4 = .ok (.aload_n 0, 1) := by decide +kernel
theorem d_Pc_putWhole_5 : decode b_Pc_putWhole 5 = .ok (.getfield 19, 3) := by decide +kernel
theorem d_Pc_putWhole_8 : decode b_Pc_putWhole 8 = .ok (.iload_n 1, 1) := by decide +kernel
theorem d_Pc_putWhole_9 : decode b_Pc_putWhole 9 = .ok (.iload_n 2, 1) := by decide +kernel
theorem d_Pc_putWhole_10 : decode b_Pc_putWhole 10 = .ok (.iastore, 1) := by decide +kernel
theorem d_Pc_putWhole_11 : decode b_Pc_putWhole 11 = .ok (.return_, 1) := by decide +kernel
end
section
/-! DECODE ROWS, by program -/
theorem d_Mo_init_0 : decode b_Mo_init 0 = .ok (.aload_n 0, 1) := by decide +kernel
theorem d_Mo_init_1 : decode b_Mo_init 1 = .ok (.invokespecial 1, 3) := by decide +kernel
theorem d_Mo_init_4 : decode b_Mo_init 4 = .ok (.aload_n 0, 1) := by decide +kernel
theorem d_Mo_init_5 : decode b_Mo_init 5 = .ok (.bipush 24, 2) := by decide +kernel
theorem d_Mo_init_7 : decode b_Mo_init 7 = .ok (.newarray .int, 2) := by decide +kernel
theorem d_Mo_init_9 : decode b_Mo_init 9 = .ok (.putfield 7, 3) := by decide +kernel
theorem d_Mo_init_12 : decode b_Mo_init 12 = .ok (.aload_n 0, 1) := by decide +kernel
theorem d_Mo_init_13 : decode b_Mo_init 13 = .ok (.bipush 24, 2) := by decide +kernel
theorem d_Mo_init_15 : decode b_Mo_init 15 = .ok (.newarray .int, 2) := by decide +kernel
theorem d_Mo_init_17 : decode b_Mo_init 17 = .ok (.putfield 13, 3) := by decide +kernel
theorem d_Mo_init_20 : decode b_Mo_init 20 = .ok (.aload_n 0, 1) := by decide +kernel
theorem d_Mo_init_21 : decode b_Mo_init 21 = .ok (.bipush 24, 2) := by decide +kernel
theorem d_Mo_init_23 : decode b_Mo_init 23 = .ok (.newarray .int, 2) := by decide +kernel
theorem d_Mo_init_25 : decode b_Mo_init 25 = .ok (.putfield 16, 3) := by decide +kernel
theorem d_Mo_init_28 : decode b_Mo_init 28 = .ok (.aload_n 0, 1) := by decide +kernel
theorem d_Mo_init_29 : decode b_Mo_init 29 = .ok (.bipush 24, 2) := by decide +kernel
theorem d_Mo_init_31 : decode b_Mo_init 31 = .ok (.newarray .int, 2) := by decide +kernel
theorem d_Mo_init_33 : decode b_Mo_init 33 = .ok (.putfield 19, 3) := by decide +kernel
theorem d_Mo_init_36 : decode b_Mo_init 36 = .ok (.aload_n 0, 1) := by decide +kernel
theorem d_Mo_init_37 : decode b_Mo_init 37 = .ok (.bipush 24, 2) := by decide +kernel
theorem d_Mo_init_39 : decode b_Mo_init 39 = .ok (.newarray .int, 2) := by decide +kernel
theorem d_Mo_init_41 : decode b_Mo_init 41 = .ok (.putfield 22, 3) := by decide +kernel
theorem d_Mo_init_44 : decode b_Mo_init 44 = .ok (.aload_n 0, 1) := by decide +kernel
theorem d_Mo_init_45 : decode b_Mo_init 45 = .ok (.bipush 8, 2) := by decide +kernel
theorem d_Mo_init_47 : decode b_Mo_init 47 = .ok (.newarray .int, 2) := by decide +kernel
theorem d_Mo_init_49 : decode b_Mo_init 49 = .ok (.putfield 25, 3) := by decide +kernel
theorem d_Mo_init_52 : decode b_Mo_init 52 = .ok (.aload_n 0, 1) := by decide +kernel
theorem d_Mo_init_53 : decode b_Mo_init 53 = .ok (.bipush 12, 2) := by decide +kernel
theorem d_Mo_init_55 : decode b_Mo_init 55 = .ok (.newarray .int, 2) := by decide +kernel
theorem d_Mo_init_57 : decode b_Mo_init 57 = .ok (.putfield 28, 3) := by decide +kernel
theorem d_Mo_init_60 : decode b_Mo_init 60 = .ok (.aload_n 0, 1) := by decide +kernel
theorem d_Mo_init_61 : decode b_Mo_init 61 = .ok (.iconst 2, 1) := by decide +kernel
theorem d_Mo_init_62 : decode b_Mo_init 62 = .ok (.newarray .int, 2) := by decide +kernel
theorem d_Mo_init_64 : decode b_Mo_init 64 = .ok (.putfield 31, 3) := by decide +kernel
theorem d_Mo_init_67 : decode b_Mo_init 67 = .ok (.aload_n 0, 1) := by decide +kernel
theorem d_Mo_init_68 : decode b_Mo_init 68 = .ok (.iconst 4, 1) := by decide +kernel
theorem d_Mo_init_69 : decode b_Mo_init 69 = .ok (.newarray .int, 2) := by decide +kernel
theorem d_Mo_init_71 : decode b_Mo_init 71 = .ok (.putfield 34, 3) := by decide +kernel
theorem d_Mo_init_74 : decode b_Mo_init 74 = .ok (.aload_n 0, 1) := by decide +kernel
theorem d_Mo_init_75 : decode b_Mo_init 75 = .ok (.iconst 4, 1) := by decide +kernel
theorem d_Mo_init_76 : decode b_Mo_init 76 = .ok (.newarray .int, 2) := by decide +kernel
theorem d_Mo_init_78 : decode b_Mo_init 78 = .ok (.putfield 37, 3) := by decide +kernel
theorem d_Mo_init_81 : decode b_Mo_init 81 = .ok (.aload_n 0, 1) := by decide +kernel
theorem d_Mo_init_82 : decode b_Mo_init 82 = .ok (.bipush 8, 2) := by decide +kernel
theorem d_Mo_init_84 : decode b_Mo_init 84 = .ok (.newarray .int, 2) := by decide +kernel
theorem d_Mo_init_86 : decode b_Mo_init 86 = .ok (.putfield 40, 3) := by decide +kernel
theorem d_Mo_init_89 : decode b_Mo_init 89 = .ok (.aload_n 0, 1) := by decide +kernel
theorem d_Mo_init_90 : decode b_Mo_init 90 = .ok (.iconst 4, 1) := by decide +kernel
theorem d_Mo_init_91 : decode b_Mo_init 91 = .ok (.newarray .double, 2) := by decide +kernel
theorem d_Mo_init_93 : decode b_Mo_init 93 = .ok (.putfield 43, 3) := by decide +kernel
theorem d_Mo_init_96 : decode b_Mo_init 96 = .ok (.aload_n 0, 1) := by decide +kernel
theorem d_Mo_init_97 : decode b_Mo_init 97 = .ok (.bipush 48, 2) := by decide +kernel
theorem d_Mo_init_99 : decode b_Mo_init 99 = .ok (.newarray .double, 2) := by decide +kernel
theorem d_Mo_init_101 : decode b_Mo_init 101 = .ok (.putfield 47, 3) := by decide +kernel
theorem d_Mo_init_104 : decode b_Mo_init 104 = .ok (.aload_n 0, 1) := by decide +kernel
theorem d_Mo_init_105 : decode b_Mo_init 105 = .ok (.bipush 24, 2) := by decide +kernel
theorem d_Mo_init_107 : decode b_Mo_init 107 = .ok (.newarray .int, 2) := by decide +kernel
theorem d_Mo_init_109 : decode b_Mo_init 109 = .ok (.putfield 50, 3) := by decide +kernel
theorem d_Mo_init_112 : decode b_Mo_init 112 = .ok (.aload_n 0, 1) := by decide +kernel
theorem d_Mo_init_113 : decode b_Mo_init 113 = .ok (.bipush 24, 2) := by decide +kernel
theorem d_Mo_init_115 : decode b_Mo_init 115 = .ok (.newarray .int, 2) := by decide +kernel
theorem d_Mo_init_117 : decode b_Mo_init 117 = .ok (.putfield 53, 3) := by decide +kernel
theorem d_Mo_init_120 : decode b_Mo_init 120 = .ok (.aload_n 0, 1) := by decide +kernel
theorem d_Mo_init_121 : decode b_Mo_init 121 = .ok (.bipush 120, 2) := by decide +kernel
theorem d_Mo_init_123 : decode b_Mo_init 123 = .ok (.newarray .int, 2) := by decide +kernel
theorem d_Mo_init_125 : decode b_Mo_init 125 = .ok (.putfield 56, 3) := by decide +kernel
theorem d_Mo_init_128 : decode b_Mo_init 128 = .ok (.aload_n 0, 1) := by decide +kernel
theorem d_Mo_init_129 : decode b_Mo_init 129 = .ok (.bipush 24, 2) := by decide +kernel
theorem d_Mo_init_131 : decode b_Mo_init 131 = .ok (.newarray .boolean, 2) := by decide +kernel
theorem d_Mo_init_133 : decode b_Mo_init 133 = .ok (.putfield 59, 3) := by decide +kernel
theorem d_Mo_init_136 : decode b_Mo_init 136 = .ok (.aload_n 0, 1) := by decide +kernel
theorem d_Mo_init_137 : decode b_Mo_init 137 = .ok (.iconst (-1), 1) := by decide +kernel
theorem d_Mo_init_138 : decode b_Mo_init 138 = .ok (.putfield 63, 3) := by decide +kernel
theorem d_Mo_init_141 : decode b_Mo_init 141 = .ok (.aload_n 0, 1) := by decide +kernel
theorem d_Mo_init_142 : decode b_Mo_init 142 = .ok (.iconst 1, 1) := by decide +kernel
theorem d_Mo_init_143 : decode b_Mo_init 143 = .ok (.putfield 67, 3) := by decide +kernel
theorem d_Mo_init_146 : decode b_Mo_init 146 = .ok (.aload_n 0, 1) := by decide +kernel
theorem d_Mo_init_147 : decode b_Mo_init 147 = .ok (.invokevirtual 71, 3) := by decide +kernel
theorem d_Mo_init_150 : decode b_Mo_init 150 = .ok (.return_, 1) := by decide +kernel
theorem d_Mo_thrown_0 : decode b_Mo_thrown 0 = .ok (.aload_n 0, 1) := by decide +kernel
theorem d_Mo_thrown_1 : decode b_Mo_thrown 1 = .ok (.getfield 74, 3) := by decide +kernel
theorem d_Mo_thrown_4 : decode b_Mo_thrown 4 = .ok (.ireturn, 1) := by decide +kernel
theorem d_Mo_in_0 : decode b_Mo_in 0 = .ok (.iload_n 0, 1) := by decide +kernel
theorem d_Mo_in_1 : decode b_Mo_in 1 = .ok (.iload_n 1, 1) := by decide +kernel
theorem d_Mo_in_2 : decode b_Mo_in 2 = .ok (.if_icmp .lt 12, 3) := by decide +kernel
theorem d_Mo_in_5 : decode b_Mo_in 5 = .ok (.iload_n 0, 1) := by decide +kernel
theorem d_Mo_in_6 : decode b_Mo_in 6 = .ok (.iload_n 2, 1) := by decide +kernel
theorem d_Mo_in_7 : decode b_Mo_in 7 = .ok (.if_icmp .gt 7, 3) := by decide +kernel
theorem d_Mo_in_10 : decode b_Mo_in 10 = .ok (.iconst 1, 1) := by decide +kernel
theorem d_Mo_in_11 : decode b_Mo_in 11 = .ok (.goto 4, 3) := by decide +kernel
theorem d_Mo_in_14 : decode b_Mo_in 14 = .ok (.iconst 0, 1) := by decide +kernel
theorem d_Mo_in_15 : decode b_Mo_in 15 = .ok (.ireturn, 1) := by decide +kernel
theorem d_Mo_bad_0 : decode b_Mo_bad 0 = .ok (.aload_n 0, 1) := by decide +kernel
theorem d_Mo_bad_1 : decode b_Mo_bad 1 = .ok (.iload_n 1, 1) := by decide +kernel
theorem d_Mo_bad_2 : decode b_Mo_bad 2 = .ok (.ifCond .eq 7, 3) := by decide +kernel
theorem d_Mo_bad_5 : decode b_Mo_bad 5 = .ok (.iconst 0, 1) := by decide +kernel
theorem d_Mo_bad_6 : decode b_Mo_bad 6 = .ok (.goto 4, 3) := by decide +kernel
theorem d_Mo_bad_9 : decode b_Mo_bad 9 = .ok (.iconst 1, 1) := by decide +kernel
theorem d_Mo_bad_10 : decode b_Mo_bad 10 = .ok (.putfield 74, 3) := by decide +kernel
theorem d_Mo_bad_13 : decode b_Mo_bad 13 = .ok (.iload_n 1, 1) := by decide +kernel
theorem d_Mo_bad_14 : decode b_Mo_bad 14 = .ok (.ifCond .ne 7, 3) := by decide +kernel
theorem d_Mo_bad_17 : decode b_Mo_bad 17 = .ok (.iconst 1, 1) := by decide +kernel
theorem d_Mo_bad_18 : decode b_Mo_bad 18 = .ok (.goto 4, 3) := by decide +kernel
theorem d_Mo_bad_21 : decode b_Mo_bad 21 = .ok (.iconst 0, 1) := by decide +kernel
theorem d_Mo_bad_22 : decode b_Mo_bad 22 = .ok (.ireturn, 1) := by decide +kernel
theorem d_Mo_reset_0 : decode b_Mo_reset 0 = .ok (.iconst 0, 1) := by decide +kernel
theorem d_Mo_reset_1 : decode b_Mo_reset 1 = .ok (.istore_n 1, 1) := by decide +kernel
theorem d_Mo_reset_2 : decode b_Mo_reset 2 = .ok (.iload_n 1, 1) := by decide +kernel
theorem d_Mo_reset_3 : decode b_Mo_reset 3 = .ok (.bipush 12, 2) := by decide +kernel
theorem d_Mo_reset_5 : decode b_Mo_reset 5 = .ok (.if_icmp .ge 16, 3) := by decide +kernel
theorem d_Mo_reset_8 : decode b_Mo_reset 8 = .ok (.aload_n 0, 1) := by decide +kernel
theorem d_Mo_reset_9 : decode b_Mo_reset 9 = .ok (.getfield 28, 3) := by decide +kernel
theorem d_Mo_reset_12 : decode b_Mo_reset 12 = .ok (.iload_n 1, 1) := by decide +kernel
theorem d_Mo_reset_13 : decode b_Mo_reset 13 = .ok (.iconst 0, 1) := by decide +kernel
theorem d_Mo_reset_14 : decode b_Mo_reset 14 = .ok (.iastore, 1) := by decide +kernel
theorem d_Mo_reset_15 : decode b_Mo_reset 15 = .ok (.iinc 1 1, 3) := by decide +kernel
theorem d_Mo_reset_18 : decode b_Mo_reset 18 = .ok (.goto (-16), 3) := by decide +kernel
theorem d_Mo_reset_21 : decode b_Mo_reset 21 = .ok (.iconst 0, 1) := by decide +kernel
theorem d_Mo_reset_22 : decode b_Mo_reset 22 = .ok (.istore_n 1, 1) := by decide +kernel
theorem d_Mo_reset_23 : decode b_Mo_reset 23 = .ok (.iload_n 1, 1) := by decide +kernel
theorem d_Mo_reset_24 : decode b_Mo_reset 24 = .ok (.bipush 8, 2) := by decide +kernel
theorem d_Mo_reset_26 : decode b_Mo_reset 26 = .ok (.if_icmp .ge 23, 3) := by decide +kernel
theorem d_Mo_reset_29 : decode b_Mo_reset 29 = .ok (.aload_n 0, 1) := by decide +kernel
theorem d_Mo_reset_30 : decode b_Mo_reset 30 = .ok (.getfield 25, 3) := by decide +kernel
theorem d_Mo_reset_33 : decode b_Mo_reset 33 = .ok (.iload_n 1, 1) := by decide +kernel
theorem d_Mo_reset_34 : decode b_Mo_reset 34 = .ok (.iconst 0, 1) := by decide +kernel
theorem d_Mo_reset_35 : decode b_Mo_reset 35 = .ok (.iastore, 1) := by decide +kernel
theorem d_Mo_reset_36 : decode b_Mo_reset 36 = .ok (.aload_n 0, 1) := by decide +kernel
theorem d_Mo_reset_37 : decode b_Mo_reset 37 = .ok (.getfield 40, 3) := by decide +kernel
theorem d_Mo_reset_40 : decode b_Mo_reset 40 = .ok (.iload_n 1, 1) := by decide +kernel
theorem d_Mo_reset_41 : decode b_Mo_reset 41 = .ok (.iconst 1, 1) := by decide +kernel
theorem d_Mo_reset_42 : decode b_Mo_reset 42 = .ok (.iastore, 1) := by decide +kernel
theorem d_Mo_reset_43 : decode b_Mo_reset 43 = .ok (.iinc 1 1, 3) := by decide +kernel
theorem d_Mo_reset_46 : decode b_Mo_reset 46 = .ok (.goto (-23), 3) := by decide +kernel
theorem d_Mo_reset_49 : decode b_Mo_reset 49 = .ok (.iconst 0, 1) := by decide +kernel
theorem d_Mo_reset_50 : decode b_Mo_reset 50 = .ok (.istore_n 1, 1) := by decide +kernel
theorem d_Mo_reset_51 : decode b_Mo_reset 51 = .ok (.iload_n 1, 1) := by decide +kernel
theorem d_Mo_reset_52 : decode b_Mo_reset 52 = .ok (.iconst 4, 1) := by decide +kernel
theorem d_Mo_reset_53 : decode b_Mo_reset 53 = .ok (.if_icmp .ge 39, 3) := by decide +kernel
theorem d_Mo_reset_56 : decode b_Mo_reset 56 = .ok (.aload_n 0, 1) := by decide +kernel
theorem d_Mo_reset_57 : decode b_Mo_reset 57 = .ok (.getfield 43, 3) := by decide +kernel
theorem d_Mo_reset_60 : decode b_Mo_reset 60 = .ok (.iload_n 1, 1) := by decide +kernel
theorem d_Mo_reset_61 : decode b_Mo_reset 61 = .ok (.dconst 0, 1) := by decide +kernel
theorem d_Mo_reset_62 : decode b_Mo_reset 62 = .ok (.dastore, 1) := by decide +kernel
theorem d_Mo_reset_63 : decode b_Mo_reset 63 = .ok (.aload_n 0, 1) := by decide +kernel
theorem d_Mo_reset_64 : decode b_Mo_reset 64 = .ok (.getfield 34, 3) := by decide +kernel
theorem d_Mo_reset_67 : decode b_Mo_reset 67 = .ok (.iload_n 1, 1) := by decide +kernel
theorem d_Mo_reset_68 : decode b_Mo_reset 68 = .ok (.iconst (-1), 1) := by decide +kernel
theorem d_Mo_reset_69 : decode b_Mo_reset 69 = .ok (.iastore, 1) := by decide +kernel
theorem d_Mo_reset_70 : decode b_Mo_reset 70 = .ok (.aload_n 0, 1) := by decide +kernel
theorem d_Mo_reset_71 : decode b_Mo_reset 71 = .ok (.getfield 37, 3) := by decide +kernel
theorem d_Mo_reset_74 : decode b_Mo_reset 74 = .ok (.iload_n 1, 1) := by decide +kernel
theorem d_Mo_reset_75 : decode b_Mo_reset 75 = .ok (.iconst 0, 1) := by decide +kernel
theorem d_Mo_reset_76 : decode b_Mo_reset 76 = .ok (.iastore, 1) := by decide +kernel
theorem d_Mo_reset_77 : decode b_Mo_reset 77 = .ok (.aload_n 0, 1) := by decide +kernel
theorem d_Mo_reset_78 : decode b_Mo_reset 78 = .ok (.getfield 31, 3) := by decide +kernel
theorem d_Mo_reset_81 : decode b_Mo_reset 81 = .ok (.iload_n 1, 1) := by decide +kernel
theorem d_Mo_reset_82 : decode b_Mo_reset 82 = .ok (.iconst 2, 1) := by decide +kernel
theorem d_Mo_reset_83 : decode b_Mo_reset 83 = .ok (.idiv, 1) := by decide +kernel
theorem d_Mo_reset_84 : decode b_Mo_reset 84 = .ok (.iconst (-1), 1) := by decide +kernel
theorem d_Mo_reset_85 : decode b_Mo_reset 85 = .ok (.iastore, 1) := by decide +kernel
theorem d_Mo_reset_86 : decode b_Mo_reset 86 = .ok (.iinc 1 1, 3) := by decide +kernel
theorem d_Mo_reset_89 : decode b_Mo_reset 89 = .ok (.goto (-38), 3) := by decide +kernel
theorem d_Mo_reset_92 : decode b_Mo_reset 92 = .ok (.aload_n 0, 1) := by decide +kernel
theorem d_Mo_reset_93 : decode b_Mo_reset 93 = .ok (.aload_n 0, 1) := by decide +kernel
theorem d_Mo_reset_94 : decode b_Mo_reset 94 = .ok (.aload_n 0, 1) := by decide +kernel
theorem d_Mo_reset_95 : decode b_Mo_reset 95 = .ok (.aload_n 0, 1) := by decide +kernel
theorem d_Mo_reset_96 : decode b_Mo_reset 96 = .ok (.aload_n 0, 1) := by decide +kernel
theorem d_Mo_reset_97 : decode b_Mo_reset 97 = .ok (.aload_n 0, 1) := by decide +kernel
theorem d_Mo_reset_98 : decode b_Mo_reset 98 = .ok (.aload_n 0, 1) := by decide +kernel
theorem d_Mo_reset_99 : decode b_Mo_reset 99 = .ok (.iconst 0, 1) := by decide +kernel
theorem d_Mo_reset_100 : decode b_Mo_reset 100 = .ok (.dup_x1, 1) := by decide +kernel
theorem d_Mo_reset_101 : decode b_Mo_reset 101 = .ok (.putfield 77, 3) := by decide +kernel
theorem d_Mo_reset_104 : decode b_Mo_reset 104 = .ok (.dup_x1, 1) := by decide +kernel
theorem d_Mo_reset_105 : decode b_Mo_reset 105 = .ok (.putfield 80, 3) := by decide +kernel
theorem d_Mo_reset_108 : decode b_Mo_reset 108 = .ok (.dup_x1, 1) := by decide +kernel
theorem d_Mo_reset_109 : decode b_Mo_reset 109 = .ok (.putfield 83, 3) := by decide +kernel
theorem d_Mo_reset_112 : decode b_Mo_reset 112 = .ok (.dup_x1, 1) := by decide +kernel
theorem d_Mo_reset_113 : decode b_Mo_reset 113 = .ok (.putfield 86, 3) := by decide +kernel
theorem d_Mo_reset_116 : decode b_Mo_reset 116 = .ok (.dup_x1, 1) := by decide +kernel
theorem d_Mo_reset_117 : decode b_Mo_reset 117 = .ok (.putfield 89, 3) := by decide +kernel
theorem d_Mo_reset_120 : decode b_Mo_reset 120 = .ok (.dup_x1, 1) := by decide +kernel
theorem d_Mo_reset_121 : decode b_Mo_reset 121 = .ok (.putfield 92, 3) := by decide +kernel
theorem d_Mo_reset_124 : decode b_Mo_reset 124 = .ok (.putfield 95, 3) := by decide +kernel
theorem d_Mo_reset_127 : decode b_Mo_reset 127 = .ok (.aload_n 0, 1) := by decide +kernel
theorem d_Mo_reset_128 : decode b_Mo_reset 128 = .ok (.iconst (-1), 1) := by decide +kernel
theorem d_Mo_reset_129 : decode b_Mo_reset 129 = .ok (.putfield 63, 3) := by decide +kernel
theorem d_Mo_reset_132 : decode b_Mo_reset 132 = .ok (.aload_n 0, 1) := by decide +kernel
theorem d_Mo_reset_133 : decode b_Mo_reset 133 = .ok (.iconst 0, 1) := by decide +kernel
theorem d_Mo_reset_134 : decode b_Mo_reset 134 = .ok (.putfield 98, 3) := by decide +kernel
theorem d_Mo_reset_137 : decode b_Mo_reset 137 = .ok (.return_, 1) := by decide +kernel
theorem d_Mo_code_0 : decode b_Mo_code 0 = .ok (.aload_n 0, 1) := by decide +kernel
theorem d_Mo_code_1 : decode b_Mo_code 1 = .ok (.iload_n 1, 1) := by decide +kernel
theorem d_Mo_code_2 : decode b_Mo_code 2 = .ok (.iconst 0, 1) := by decide +kernel
theorem d_Mo_code_3 : decode b_Mo_code 3 = .ok (.bipush 23, 2) := by decide +kernel
theorem d_Mo_code_5 : decode b_Mo_code 5 = .ok (.invokestatic 101, 3) := by decide +kernel
theorem d_Mo_code_8 : decode b_Mo_code 8 = .ok (.ifCond .eq 49, 3) := by decide +kernel
theorem d_Mo_code_11 : decode b_Mo_code 11 = .ok (.iload_n 2, 1) := by decide +kernel
theorem d_Mo_code_12 : decode b_Mo_code 12 = .ok (.iconst 0, 1) := by decide +kernel
theorem d_Mo_code_13 : decode b_Mo_code 13 = .ok (.bipush 19, 2) := by decide +kernel
theorem d_Mo_code_15 : decode b_Mo_code 15 = .ok (.invokestatic 101, 3) := by decide +kernel
theorem d_Mo_code_18 : decode b_Mo_code 18 = .ok (.ifCond .eq 39, 3) := by decide +kernel
theorem d_Mo_code_21 : decode b_Mo_code 21 = .ok (.iload_n 3, 1) := by decide +kernel
theorem d_Mo_code_22 : decode b_Mo_code 22 = .ok (.iconst 0, 1) := by decide +kernel
theorem d_Mo_code_23 : decode b_Mo_code 23 = .ok (.bipush 7, 2) := by decide +kernel
theorem d_Mo_code_25 : decode b_Mo_code 25 = .ok (.invokestatic 101, 3) := by decide +kernel
theorem d_Mo_code_28 : decode b_Mo_code 28 = .ok (.ifCond .eq 29, 3) := by decide +kernel
theorem d_Mo_code_31 : decode b_Mo_code 31 = .ok (.iload 4, 2) := by decide +kernel
theorem d_Mo_code_33 : decode b_Mo_code 33 = .ok (.iconst 0, 1) := by decide +kernel
theorem d_Mo_code_34 : decode b_Mo_code 34 = .ok (.bipush 7, 2) := by decide +kernel
theorem d_Mo_code_36 : decode b_Mo_code 36 = .ok (.invokestatic 101, 3) := by decide +kernel
theorem d_Mo_code_39 : decode b_Mo_code 39 = .ok (.ifCond .eq 18, 3) := by decide +kernel
theorem d_Mo_code_42 : decode b_Mo_code 42 = .ok (.iload 5, 2) := by decide +kernel
theorem d_Mo_code_44 : decode b_Mo_code 44 = .ok (.iconst 0, 1) := by decide +kernel
theorem d_Mo_code_45 : decode b_Mo_code 45 = .ok (.bipush 7, 2) := by decide +kernel
theorem d_Mo_code_47 : decode b_Mo_code 47 = .ok (.invokestatic 101, 3) := by decide +kernel
theorem d_Mo_code_50 : decode b_Mo_code 50 = .ok (.ifCond .eq 7, 3) := by decide +kernel
theorem d_Mo_code_53 : decode b_Mo_code 53 = .ok (.iconst 1, 1) := by decide +kernel
theorem d_Mo_code_54 : decode b_Mo_code 54 = .ok (.goto 4, 3) := by decide +kernel
theorem d_Mo_code_57 : decode b_Mo_code 57 = .ok (.iconst 0, 1) := by decide +kernel
theorem d_Mo_code_58 : decode b_Mo_code 58 = .ok (.invokevirtual 105, 3) := by decide +kernel
theorem d_Mo_code_61 : decode b_Mo_code 61 = .ok (.ifCond .eq 4, 3) := by decide +kernel
theorem d_Mo_code_64 : decode b_Mo_code 64 = .ok (.return_, 1) := by decide +kernel
theorem d_Mo_code_65 : decode b_Mo_code 65 = .ok (.aload_n 0, 1) := by decide +kernel
theorem d_Mo_code_66 : decode b_Mo_code 66 = .ok (.getfield 7, 3) := by decide +kernel
theorem d_Mo_code_69 : decode b_Mo_code 69 = .ok (.iload_n 1, 1) := by decide +kernel
theorem d_Mo_code_70 : decode b_Mo_code 70 = .ok (.iload_n 2, 1) := by decide +kernel
theorem d_Mo_code_71 : decode b_Mo_code 71 = .ok (.iastore, 1) := by decide +kernel
theorem d_Mo_code_72 : decode b_Mo_code 72 = .ok (.aload_n 0, 1) := by decide +kernel
theorem d_Mo_code_73 : decode b_Mo_code 73 = .ok (.getfield 13, 3) := by decide +kernel
theorem d_Mo_code_76 : decode b_Mo_code 76 = .ok (.iload_n 1, 1) := by decide +kernel
theorem d_Mo_code_77 : decode b_Mo_code 77 = .ok (.iload_n 3, 1) := by decide +kernel
theorem d_Mo_code_78 : decode b_Mo_code 78 = .ok (.iastore, 1) := by decide +kernel
theorem d_Mo_code_79 : decode b_Mo_code 79 = .ok (.aload_n 0, 1) := by decide +kernel
theorem d_Mo_code_80 : decode b_Mo_code 80 = .ok (.getfield 16, 3) := by decide +kernel
theorem d_Mo_code_83 : decode b_Mo_code 83 = .ok (.iload_n 1, 1) := by decide +kernel
theorem d_Mo_code_84 : decode b_Mo_code 84 = .ok (.iload 4, 2) := by decide +kernel
theorem d_Mo_code_86 : decode b_Mo_code 86 = .ok (.iastore, 1) := by decide +kernel
theorem d_Mo_code_87 : decode b_Mo_code 87 = .ok (.aload_n 0, 1) := by decide +kernel
theorem d_Mo_code_88 : decode b_Mo_code 88 = .ok (.getfield 19, 3) := by decide +kernel
theorem d_Mo_code_91 : decode b_Mo_code 91 = .ok (.iload_n 1, 1) := by decide +kernel
theorem d_Mo_code_92 : decode b_Mo_code 92 = .ok (.iload 5, 2) := by decide +kernel
theorem d_Mo_code_94 : decode b_Mo_code 94 = .ok (.iastore, 1) := by decide +kernel
theorem d_Mo_code_95 : decode b_Mo_code 95 = .ok (.aload_n 0, 1) := by decide +kernel
theorem d_Mo_code_96 : decode b_Mo_code 96 = .ok (.getfield 22, 3) := by decide +kernel
theorem d_Mo_code_99 : decode b_Mo_code 99 = .ok (.iload_n 1, 1) := by decide +kernel
theorem d_Mo_code_100 : decode b_Mo_code 100 = .ok (.iload 6, 2) := by decide +kernel
theorem d_Mo_code_102 : decode b_Mo_code 102 = .ok (.iastore, 1) := by decide +kernel
theorem d_Mo_code_103 : decode b_Mo_code 103 = .ok (.return_, 1) := by decide +kernel
theorem d_Mo_cell_0 : decode b_Mo_cell 0 = .ok (.aload_n 0, 1) := by decide +kernel
theorem d_Mo_cell_1 : decode b_Mo_cell 1 = .ok (.iload_n 1, 1) := by decide +kernel
theorem d_Mo_cell_2 : decode b_Mo_cell 2 = .ok (.iconst 0, 1) := by decide +kernel
theorem d_Mo_cell_3 : decode b_Mo_cell 3 = .ok (.bipush 47, 2) := by decide +kernel
theorem d_Mo_cell_5 : decode b_Mo_cell 5 = .ok (.invokestatic 101, 3) := by decide +kernel
theorem d_Mo_cell_8 : decode b_Mo_cell 8 = .ok (.ifCond .eq 23, 3) := by decide +kernel
theorem d_Mo_cell_11 : decode b_Mo_cell 11 = .ok (.dload_n 2, 1) := by decide +kernel
theorem d_Mo_cell_12 : decode b_Mo_cell 12 = .ok (.ldc2_w 109, 3) := by decide +kernel
theorem d_Mo_cell_15 : decode b_Mo_cell 15 = .ok (.dcmp .l, 1) := by decide +kernel
theorem d_Mo_cell_16 : decode b_Mo_cell 16 = .ok (.ifCond .lt 15, 3) := by decide +kernel
theorem d_Mo_cell_19 : decode b_Mo_cell 19 = .ok (.dload_n 2, 1) := by decide +kernel
theorem d_Mo_cell_20 : decode b_Mo_cell 20 = .ok (.ldc2_w 111, 3) := by decide +kernel
theorem d_Mo_cell_23 : decode b_Mo_cell 23 = .ok (.dcmp .g, 1) := by decide +kernel
theorem d_Mo_cell_24 : decode b_Mo_cell 24 = .ok (.ifCond .gt 7, 3) := by decide +kernel
theorem d_Mo_cell_27 : decode b_Mo_cell 27 = .ok (.iconst 1, 1) := by decide +kernel
theorem d_Mo_cell_28 : decode b_Mo_cell 28 = .ok (.goto 4, 3) := by decide +kernel
theorem d_Mo_cell_31 : decode b_Mo_cell 31 = .ok (.iconst 0, 1) := by decide +kernel
theorem d_Mo_cell_32 : decode b_Mo_cell 32 = .ok (.invokevirtual 105, 3) := by decide +kernel
theorem d_Mo_cell_35 : decode b_Mo_cell 35 = .ok (.ifCond .eq 4, 3) := by decide +kernel
theorem d_Mo_cell_38 : decode b_Mo_cell 38 = .ok (.return_, 1) := by decide +kernel
theorem d_Mo_cell_39 : decode b_Mo_cell 39 = .ok (.aload_n 0, 1) := by decide +kernel
theorem d_Mo_cell_40 : decode b_Mo_cell 40 = .ok (.getfield 47, 3) := by decide +kernel
theorem d_Mo_cell_43 : decode b_Mo_cell 43 = .ok (.iload_n 1, 1) := by decide +kernel
theorem d_Mo_cell_44 : decode b_Mo_cell 44 = .ok (.dload_n 2, 1) := by decide +kernel
theorem d_Mo_cell_45 : decode b_Mo_cell 45 = .ok (.dastore, 1) := by decide +kernel
theorem d_Mo_cell_46 : decode b_Mo_cell 46 = .ok (.return_, 1) := by decide +kernel
theorem d_Mo_start_0 : decode b_Mo_start 0 = .ok (.aload_n 0, 1) := by decide +kernel
theorem d_Mo_start_1 : decode b_Mo_start 1 = .ok (.iload_n 1, 1) := by decide +kernel
theorem d_Mo_start_2 : decode b_Mo_start 2 = .ok (.iconst 0, 1) := by decide +kernel
theorem d_Mo_start_3 : decode b_Mo_start 3 = .ok (.bipush 23, 2) := by decide +kernel
theorem d_Mo_start_5 : decode b_Mo_start 5 = .ok (.invokestatic 101, 3) := by decide +kernel
theorem d_Mo_start_8 : decode b_Mo_start 8 = .ok (.invokevirtual 105, 3) := by decide +kernel
theorem d_Mo_start_11 : decode b_Mo_start 11 = .ok (.ifCond .eq 4, 3) := by decide +kernel
theorem d_Mo_start_14 : decode b_Mo_start 14 = .ok (.return_, 1) := by decide +kernel
theorem d_Mo_start_15 : decode b_Mo_start 15 = .ok (.aload_n 0, 1) := by decide +kernel
theorem d_Mo_start_16 : decode b_Mo_start 16 = .ok (.invokevirtual 71, 3) := by decide +kernel
theorem d_Mo_start_19 : decode b_Mo_start 19 = .ok (.aload_n 0, 1) := by decide +kernel
theorem d_Mo_start_20 : decode b_Mo_start 20 = .ok (.iload_n 1, 1) := by decide +kernel
theorem d_Mo_start_21 : decode b_Mo_start 21 = .ok (.putfield 113, 3) := by decide +kernel
theorem d_Mo_start_24 : decode b_Mo_start 24 = .ok (.aload_n 0, 1) := by decide +kernel
theorem d_Mo_start_25 : decode b_Mo_start 25 = .ok (.iconst 0, 1) := by decide +kernel
theorem d_Mo_start_26 : decode b_Mo_start 26 = .ok (.putfield 67, 3) := by decide +kernel
theorem d_Mo_start_29 : decode b_Mo_start 29 = .ok (.return_, 1) := by decide +kernel
theorem d_Mo_first_0 : decode b_Mo_first 0 = .ok (.aload_n 0, 1) := by decide +kernel
theorem d_Mo_first_1 : decode b_Mo_first 1 = .ok (.getfield 7, 3) := by decide +kernel
theorem d_Mo_first_4 : decode b_Mo_first 4 = .ok (.iload_n 1, 1) := by decide +kernel
theorem d_Mo_first_5 : decode b_Mo_first 5 = .ok (.iaload, 1) := by decide +kernel
theorem d_Mo_first_6 : decode b_Mo_first 6 = .ok (.istore_n 2, 1) := by decide +kernel
theorem d_Mo_first_7 : decode b_Mo_first 7 = .ok (.iload_n 2, 1) := by decide +kernel
theorem d_Mo_first_8 : decode b_Mo_first 8 = .ok (.ifCond .eq 9, 3) := by decide +kernel
theorem d_Mo_first_11 : decode b_Mo_first 11 = .ok (.iload_n 2, 1) := by decide +kernel
theorem d_Mo_first_12 : decode b_Mo_first 12 = .ok (.bipush 19, 2) := by decide +kernel
theorem d_Mo_first_14 : decode b_Mo_first 14 = .ok (.if_icmp .ne 5, 3) := by decide +kernel
theorem d_Mo_first_17 : decode b_Mo_first 17 = .ok (.iconst 0, 1) := by decide +kernel
theorem d_Mo_first_18 : decode b_Mo_first 18 = .ok (.ireturn, 1) := by decide +kernel
theorem d_Mo_first_19 : decode b_Mo_first 19 = .ok (.iload_n 2, 1) := by decide +kernel
theorem d_Mo_first_20 : decode b_Mo_first 20 = .ok (.bipush 10, 2) := by decide +kernel
theorem d_Mo_first_22 : decode b_Mo_first 22 = .ok (.bipush 14, 2) := by decide +kernel
theorem d_Mo_first_24 : decode b_Mo_first 24 = .ok (.invokestatic 101, 3) := by decide +kernel
theorem d_Mo_first_27 : decode b_Mo_first 27 = .ok (.ifCond .ne 9, 3) := by decide +kernel
theorem d_Mo_first_30 : decode b_Mo_first 30 = .ok (.iload_n 2, 1) := by decide +kernel
theorem d_Mo_first_31 : decode b_Mo_first 31 = .ok (.bipush 16, 2) := by decide +kernel
theorem d_Mo_first_33 : decode b_Mo_first 33 = .ok (.if_icmp .ne 17, 3) := by decide +kernel
theorem d_Mo_first_36 : decode b_Mo_first 36 = .ok (.bipush 8, 2) := by decide +kernel
theorem d_Mo_first_38 : decode b_Mo_first 38 = .ok (.aload_n 0, 1) := by decide +kernel
theorem d_Mo_first_39 : decode b_Mo_first 39 = .ok (.getfield 16, 3) := by decide +kernel
theorem d_Mo_first_42 : decode b_Mo_first 42 = .ok (.iload_n 1, 1) := by decide +kernel
theorem d_Mo_first_43 : decode b_Mo_first 43 = .ok (.iaload, 1) := by decide +kernel
theorem d_Mo_first_44 : decode b_Mo_first 44 = .ok (.iconst 4, 1) := by decide +kernel
theorem d_Mo_first_45 : decode b_Mo_first 45 = .ok (.irem, 1) := by decide +kernel
theorem d_Mo_first_46 : decode b_Mo_first 46 = .ok (.iadd, 1) := by decide +kernel
theorem d_Mo_first_47 : decode b_Mo_first 47 = .ok (.goto 9, 3) := by decide +kernel
theorem d_Mo_first_50 : decode b_Mo_first 50 = .ok (.aload_n 0, 1) := by decide +kernel
theorem d_Mo_first_51 : decode b_Mo_first 51 = .ok (.getfield 16, 3) := by decide +kernel
theorem d_Mo_first_54 : decode b_Mo_first 54 = .ok (.iload_n 1, 1) := by decide +kernel
theorem d_Mo_first_55 : decode b_Mo_first 55 = .ok (.iaload, 1) := by decide +kernel
theorem d_Mo_first_56 : decode b_Mo_first 56 = .ok (.ireturn, 1) := by decide +kernel
theorem d_Mo_second_0 : decode b_Mo_second 0 = .ok (.aload_n 0, 1) := by decide +kernel
theorem d_Mo_second_1 : decode b_Mo_second 1 = .ok (.getfield 7, 3) := by decide +kernel
theorem d_Mo_second_4 : decode b_Mo_second 4 = .ok (.iload_n 1, 1) := by decide +kernel
theorem d_Mo_second_5 : decode b_Mo_second 5 = .ok (.iaload, 1) := by decide +kernel
theorem d_Mo_second_6 : decode b_Mo_second 6 = .ok (.istore_n 2, 1) := by decide +kernel
theorem d_Mo_second_7 : decode b_Mo_second 7 = .ok (.iload_n 2, 1) := by decide +kernel
theorem d_Mo_second_8 : decode b_Mo_second 8 = .ok (.iconst 2, 1) := by decide +kernel
theorem d_Mo_second_9 : decode b_Mo_second 9 = .ok (.iconst 5, 1) := by decide +kernel
theorem d_Mo_second_10 : decode b_Mo_second 10 = .ok (.invokestatic 101, 3) := by decide +kernel
theorem d_Mo_second_13 : decode b_Mo_second 13 = .ok (.ifCond .ne 21, 3) := by decide +kernel
theorem d_Mo_second_16 : decode b_Mo_second 16 = .ok (.iload_n 2, 1) := by decide +kernel
theorem d_Mo_second_17 : decode b_Mo_second 17 = .ok (.bipush 7, 2) := by decide +kernel
theorem d_Mo_second_19 : decode b_Mo_second 19 = .ok (.if_icmp .eq 15, 3) := by decide +kernel
theorem d_Mo_second_22 : decode b_Mo_second 22 = .ok (.iload_n 2, 1) := by decide +kernel
theorem d_Mo_second_23 : decode b_Mo_second 23 = .ok (.bipush 17, 2) := by decide +kernel
theorem d_Mo_second_25 : decode b_Mo_second 25 = .ok (.if_icmp .eq 9, 3) := by decide +kernel
theorem d_Mo_second_28 : decode b_Mo_second 28 = .ok (.iload_n 2, 1) := by decide +kernel
theorem d_Mo_second_29 : decode b_Mo_second 29 = .ok (.bipush 18, 2) := by decide +kernel
theorem d_Mo_second_31 : decode b_Mo_second 31 = .ok (.if_icmp .ne 10, 3) := by decide +kernel
theorem d_Mo_second_34 : decode b_Mo_second 34 = .ok (.aload_n 0, 1) := by decide +kernel
theorem d_Mo_second_35 : decode b_Mo_second 35 = .ok (.getfield 19, 3) := by decide +kernel
theorem d_Mo_second_38 : decode b_Mo_second 38 = .ok (.iload_n 1, 1) := by decide +kernel
theorem d_Mo_second_39 : decode b_Mo_second 39 = .ok (.iaload, 1) := by decide +kernel
theorem d_Mo_second_40 : decode b_Mo_second 40 = .ok (.ireturn, 1) := by decide +kernel
theorem d_Mo_second_41 : decode b_Mo_second 41 = .ok (.iload_n 2, 1) := by decide +kernel
theorem d_Mo_second_42 : decode b_Mo_second 42 = .ok (.bipush 9, 2) := by decide +kernel
theorem d_Mo_second_44 : decode b_Mo_second 44 = .ok (.if_icmp .eq 14, 3) := by decide +kernel
theorem d_Mo_second_47 : decode b_Mo_second 47 = .ok (.iload_n 2, 1) := by decide +kernel
theorem d_Mo_second_48 : decode b_Mo_second 48 = .ok (.bipush 10, 2) := by decide +kernel
theorem d_Mo_second_50 : decode b_Mo_second 50 = .ok (.bipush 14, 2) := by decide +kernel
theorem d_Mo_second_52 : decode b_Mo_second 52 = .ok (.invokestatic 101, 3) := by decide +kernel
theorem d_Mo_second_55 : decode b_Mo_second 55 = .ok (.ifCond .eq 17, 3) := by decide +kernel
theorem d_Mo_second_58 : decode b_Mo_second 58 = .ok (.bipush 8, 2) := by decide +kernel
theorem d_Mo_second_60 : decode b_Mo_second 60 = .ok (.aload_n 0, 1) := by decide +kernel
theorem d_Mo_second_61 : decode b_Mo_second 61 = .ok (.getfield 19, 3) := by decide +kernel
theorem d_Mo_second_64 : decode b_Mo_second 64 = .ok (.iload_n 1, 1) := by decide +kernel
theorem d_Mo_second_65 : decode b_Mo_second 65 = .ok (.iaload, 1) := by decide +kernel
theorem d_Mo_second_66 : decode b_Mo_second 66 = .ok (.iconst 4, 1) := by decide +kernel
theorem d_Mo_second_67 : decode b_Mo_second 67 = .ok (.irem, 1) := by decide +kernel
theorem d_Mo_second_68 : decode b_Mo_second 68 = .ok (.iadd, 1) := by decide +kernel
theorem d_Mo_second_69 : decode b_Mo_second 69 = .ok (.goto 4, 3) := by decide +kernel
theorem d_Mo_second_72 : decode b_Mo_second 72 = .ok (.iconst 0, 1) := by decide +kernel
theorem d_Mo_second_73 : decode b_Mo_second 73 = .ok (.ireturn, 1) := by decide +kernel
theorem d_Mo_target_0 : decode b_Mo_target 0 = .ok (.aload_n 0, 1) := by decide +kernel
theorem d_Mo_target_1 : decode b_Mo_target 1 = .ok (.getfield 7, 3) := by decide +kernel
theorem d_Mo_target_4 : decode b_Mo_target 4 = .ok (.iload_n 1, 1) := by decide +kernel
theorem d_Mo_target_5 : decode b_Mo_target 5 = .ok (.iaload, 1) := by decide +kernel
theorem d_Mo_target_6 : decode b_Mo_target 6 = .ok (.istore_n 2, 1) := by decide +kernel
theorem d_Mo_target_7 : decode b_Mo_target 7 = .ok (.iload_n 2, 1) := by decide +kernel
theorem d_Mo_target_8 : decode b_Mo_target 8 = .ok (.iconst 1, 1) := by decide +kernel
theorem d_Mo_target_9 : decode b_Mo_target 9 = .ok (.bipush 6, 2) := by decide +kernel
theorem d_Mo_target_11 : decode b_Mo_target 11 = .ok (.invokestatic 101, 3) := by decide +kernel
theorem d_Mo_target_14 : decode b_Mo_target 14 = .ok (.ifCond .ne 15, 3) := by decide +kernel
theorem d_Mo_target_17 : decode b_Mo_target 17 = .ok (.iload_n 2, 1) := by decide +kernel
theorem d_Mo_target_18 : decode b_Mo_target 18 = .ok (.bipush 14, 2) := by decide +kernel
theorem d_Mo_target_20 : decode b_Mo_target 20 = .ok (.if_icmp .eq 9, 3) := by decide +kernel
theorem d_Mo_target_23 : decode b_Mo_target 23 = .ok (.iload_n 2, 1) := by decide +kernel
theorem d_Mo_target_24 : decode b_Mo_target 24 = .ok (.bipush 16, 2) := by decide +kernel
theorem d_Mo_target_26 : decode b_Mo_target 26 = .ok (.if_icmp .ne 10, 3) := by decide +kernel
theorem d_Mo_target_29 : decode b_Mo_target 29 = .ok (.aload_n 0, 1) := by decide +kernel
theorem d_Mo_target_30 : decode b_Mo_target 30 = .ok (.getfield 13, 3) := by decide +kernel
theorem d_Mo_target_33 : decode b_Mo_target 33 = .ok (.iload_n 1, 1) := by decide +kernel
theorem d_Mo_target_34 : decode b_Mo_target 34 = .ok (.iaload, 1) := by decide +kernel
theorem d_Mo_target_35 : decode b_Mo_target 35 = .ok (.ireturn, 1) := by decide +kernel
theorem d_Mo_target_36 : decode b_Mo_target 36 = .ok (.iload_n 2, 1) := by decide +kernel
theorem d_Mo_target_37 : decode b_Mo_target 37 = .ok (.bipush 8, 2) := by decide +kernel
theorem d_Mo_target_39 : decode b_Mo_target 39 = .ok (.if_icmp .eq 20, 3) := by decide +kernel
theorem d_Mo_target_42 : decode b_Mo_target 42 = .ok (.iload_n 2, 1) := by decide +kernel
theorem d_Mo_target_43 : decode b_Mo_target 43 = .ok (.bipush 10, 2) := by decide +kernel
theorem d_Mo_target_45 : decode b_Mo_target 45 = .ok (.bipush 13, 2) := by decide +kernel
theorem d_Mo_target_47 : decode b_Mo_target 47 = .ok (.invokestatic 101, 3) := by decide +kernel
theorem d_Mo_target_50 : decode b_Mo_target 50 = .ok (.ifCond .ne 9, 3) := by decide +kernel
theorem d_Mo_target_53 : decode b_Mo_target 53 = .ok (.iload_n 2, 1) := by decide +kernel
theorem d_Mo_target_54 : decode b_Mo_target 54 = .ok (.bipush 15, 2) := by decide +kernel
theorem d_Mo_target_56 : decode b_Mo_target 56 = .ok (.if_icmp .ne 17, 3) := by decide +kernel
theorem d_Mo_target_59 : decode b_Mo_target 59 = .ok (.bipush 8, 2) := by decide +kernel
theorem d_Mo_target_61 : decode b_Mo_target 61 = .ok (.aload_n 0, 1) := by decide +kernel
theorem d_Mo_target_62 : decode b_Mo_target 62 = .ok (.getfield 13, 3) := by decide +kernel
theorem d_Mo_target_65 : decode b_Mo_target 65 = .ok (.iload_n 1, 1) := by decide +kernel
theorem d_Mo_target_66 : decode b_Mo_target 66 = .ok (.iaload, 1) := by decide +kernel
theorem d_Mo_target_67 : decode b_Mo_target 67 = .ok (.iconst 4, 1) := by decide +kernel
theorem d_Mo_target_68 : decode b_Mo_target 68 = .ok (.irem, 1) := by decide +kernel
theorem d_Mo_target_69 : decode b_Mo_target 69 = .ok (.iadd, 1) := by decide +kernel
theorem d_Mo_target_70 : decode b_Mo_target 70 = .ok (.goto 4, 3) := by decide +kernel
theorem d_Mo_target_73 : decode b_Mo_target 73 = .ok (.iconst 0, 1) := by decide +kernel
theorem d_Mo_target_74 : decode b_Mo_target 74 = .ok (.ireturn, 1) := by decide +kernel
theorem d_Mo_latency_0 : decode b_Mo_latency 0 = .ok (.aload_n 0, 1) := by decide +kernel
theorem d_Mo_latency_1 : decode b_Mo_latency 1 = .ok (.getfield 7, 3) := by decide +kernel
theorem d_Mo_latency_4 : decode b_Mo_latency 4 = .ok (.iload_n 1, 1) := by decide +kernel
theorem d_Mo_latency_5 : decode b_Mo_latency 5 = .ok (.iaload, 1) := by decide +kernel
theorem d_Mo_latency_6 : decode b_Mo_latency 6 = .ok (.istore_n 2, 1) := by decide +kernel
theorem d_Mo_latency_7 : decode b_Mo_latency 7 = .ok (.iload_n 2, 1) := by decide +kernel
theorem d_Mo_latency_8 : decode b_Mo_latency 8 = .ok (.bipush 6, 2) := by decide +kernel
theorem d_Mo_latency_10 : decode b_Mo_latency 10 = .ok (.if_icmp .ge 5, 3) := by decide +kernel
theorem d_Mo_latency_13 : decode b_Mo_latency 13 = .ok (.iconst 1, 1) := by decide +kernel
theorem d_Mo_latency_14 : decode b_Mo_latency 14 = .ok (.ireturn, 1) := by decide +kernel
theorem d_Mo_latency_15 : decode b_Mo_latency 15 = .ok (.iload_n 2, 1) := by decide +kernel
theorem d_Mo_latency_16 : decode b_Mo_latency 16 = .ok (.bipush 6, 2) := by decide +kernel
theorem d_Mo_latency_18 : decode b_Mo_latency 18 = .ok (.if_icmp .eq 9, 3) := by decide +kernel
theorem d_Mo_latency_21 : decode b_Mo_latency 21 = .ok (.iload_n 2, 1) := by decide +kernel
theorem d_Mo_latency_22 : decode b_Mo_latency 22 = .ok (.bipush 8, 2) := by decide +kernel
theorem d_Mo_latency_24 : decode b_Mo_latency 24 = .ok (.if_icmp .ne 5, 3) := by decide +kernel
theorem d_Mo_latency_27 : decode b_Mo_latency 27 = .ok (.iconst 2, 1) := by decide +kernel
theorem d_Mo_latency_28 : decode b_Mo_latency 28 = .ok (.ireturn, 1) := by decide +kernel
theorem d_Mo_latency_29 : decode b_Mo_latency 29 = .ok (.iload_n 2, 1) := by decide +kernel
theorem d_Mo_latency_30 : decode b_Mo_latency 30 = .ok (.bipush 12, 2) := by decide +kernel
theorem d_Mo_latency_32 : decode b_Mo_latency 32 = .ok (.if_icmp .ne 7, 3) := by decide +kernel
theorem d_Mo_latency_35 : decode b_Mo_latency 35 = .ok (.iconst 4, 1) := by decide +kernel
theorem d_Mo_latency_36 : decode b_Mo_latency 36 = .ok (.goto 15, 3) := by decide +kernel
theorem d_Mo_latency_39 : decode b_Mo_latency 39 = .ok (.iload_n 2, 1) := by decide +kernel
theorem d_Mo_latency_40 : decode b_Mo_latency 40 = .ok (.bipush 13, 2) := by decide +kernel
theorem d_Mo_latency_42 : decode b_Mo_latency 42 = .ok (.if_icmp .ne 8, 3) := by decide +kernel
theorem d_Mo_latency_45 : decode b_Mo_latency 45 = .ok (.bipush 8, 2) := by decide +kernel
theorem d_Mo_latency_47 : decode b_Mo_latency 47 = .ok (.goto 4, 3) := by decide +kernel
theorem d_Mo_latency_50 : decode b_Mo_latency 50 = .ok (.iconst 3, 1) := by decide +kernel
theorem d_Mo_latency_51 : decode b_Mo_latency 51 = .ok (.ireturn, 1) := by decide +kernel
theorem d_Mo_missGroup_0 : decode b_Mo_missGroup 0 = .ok (.iload_n 1, 1) := by decide +kernel
theorem d_Mo_missGroup_1 : decode b_Mo_missGroup 1 = .ok (.iconst 4, 1) := by decide +kernel
theorem d_Mo_missGroup_2 : decode b_Mo_missGroup 2 = .ok (.idiv, 1) := by decide +kernel
theorem d_Mo_missGroup_3 : decode b_Mo_missGroup 3 = .ok (.istore_n 2, 1) := by decide +kernel
theorem d_Mo_missGroup_4 : decode b_Mo_missGroup 4 = .ok (.aload_n 0, 1) := by decide +kernel
theorem d_Mo_missGroup_5 : decode b_Mo_missGroup 5 = .ok (.getfield 31, 3) := by decide +kernel
theorem d_Mo_missGroup_8 : decode b_Mo_missGroup 8 = .ok (.iload_n 2, 1) := by decide +kernel
theorem d_Mo_missGroup_9 : decode b_Mo_missGroup 9 = .ok (.iconst 2, 1) := by decide +kernel
theorem d_Mo_missGroup_10 : decode b_Mo_missGroup 10 = .ok (.irem, 1) := by decide +kernel
theorem d_Mo_missGroup_11 : decode b_Mo_missGroup 11 = .ok (.iaload, 1) := by decide +kernel
theorem d_Mo_missGroup_12 : decode b_Mo_missGroup 12 = .ok (.iload_n 2, 1) := by decide +kernel
theorem d_Mo_missGroup_13 : decode b_Mo_missGroup 13 = .ok (.if_icmp .ne 5, 3) := by decide +kernel
theorem d_Mo_missGroup_16 : decode b_Mo_missGroup 16 = .ok (.iconst 0, 1) := by decide +kernel
theorem d_Mo_missGroup_17 : decode b_Mo_missGroup 17 = .ok (.ireturn, 1) := by decide +kernel
theorem d_Mo_missGroup_18 : decode b_Mo_missGroup 18 = .ok (.aload_n 0, 1) := by decide +kernel
theorem d_Mo_missGroup_19 : decode b_Mo_missGroup 19 = .ok (.getfield 31, 3) := by decide +kernel
theorem d_Mo_missGroup_22 : decode b_Mo_missGroup 22 = .ok (.iload_n 2, 1) := by decide +kernel
theorem d_Mo_missGroup_23 : decode b_Mo_missGroup 23 = .ok (.iconst 2, 1) := by decide +kernel
theorem d_Mo_missGroup_24 : decode b_Mo_missGroup 24 = .ok (.irem, 1) := by decide +kernel
theorem d_Mo_missGroup_25 : decode b_Mo_missGroup 25 = .ok (.iload_n 2, 1) := by decide +kernel
theorem d_Mo_missGroup_26 : decode b_Mo_missGroup 26 = .ok (.iastore, 1) := by decide +kernel
theorem d_Mo_missGroup_27 : decode b_Mo_missGroup 27 = .ok (.aload_n 0, 1) := by decide +kernel
theorem d_Mo_missGroup_28 : decode b_Mo_missGroup 28 = .ok (.dup, 1) := by decide +kernel
theorem d_Mo_missGroup_29 : decode b_Mo_missGroup 29 = .ok (.getfield 92, 3) := by decide +kernel
theorem d_Mo_missGroup_32 : decode b_Mo_missGroup 32 = .ok (.iconst 1, 1) := by decide +kernel
theorem d_Mo_missGroup_33 : decode b_Mo_missGroup 33 = .ok (.iadd, 1) := by decide +kernel
theorem d_Mo_missGroup_34 : decode b_Mo_missGroup 34 = .ok (.putfield 92, 3) := by decide +kernel
theorem d_Mo_missGroup_37 : decode b_Mo_missGroup 37 = .ok (.iconst 1, 1) := by decide +kernel
theorem d_Mo_missGroup_38 : decode b_Mo_missGroup 38 = .ok (.ireturn, 1) := by decide +kernel
theorem d_Mo_missLine_0 : decode b_Mo_missLine 0 = .ok (.iload_n 1, 1) := by decide +kernel
theorem d_Mo_missLine_1 : decode b_Mo_missLine 1 = .ok (.iconst 4, 1) := by decide +kernel
theorem d_Mo_missLine_2 : decode b_Mo_missLine 2 = .ok (.idiv, 1) := by decide +kernel
theorem d_Mo_missLine_3 : decode b_Mo_missLine 3 = .ok (.istore_n 2, 1) := by decide +kernel
theorem d_Mo_missLine_4 : decode b_Mo_missLine 4 = .ok (.iload_n 2, 1) := by decide +kernel
theorem d_Mo_missLine_5 : decode b_Mo_missLine 5 = .ok (.iconst 2, 1) := by decide +kernel
theorem d_Mo_missLine_6 : decode b_Mo_missLine 6 = .ok (.irem, 1) := by decide +kernel
theorem d_Mo_missLine_7 : decode b_Mo_missLine 7 = .ok (.iconst 2, 1) := by decide +kernel
theorem d_Mo_missLine_8 : decode b_Mo_missLine 8 = .ok (.imul, 1) := by decide +kernel
theorem d_Mo_missLine_9 : decode b_Mo_missLine 9 = .ok (.istore_n 3, 1) := by decide +kernel
theorem d_Mo_missLine_10 : decode b_Mo_missLine 10 = .ok (.aload_n 0, 1) := by decide +kernel
theorem d_Mo_missLine_11 : decode b_Mo_missLine 11 = .ok (.dup, 1) := by decide +kernel
theorem d_Mo_missLine_12 : decode b_Mo_missLine 12 = .ok (.getfield 77, 3) := by decide +kernel
theorem d_Mo_missLine_15 : decode b_Mo_missLine 15 = .ok (.iconst 1, 1) := by decide +kernel
theorem d_Mo_missLine_16 : decode b_Mo_missLine 16 = .ok (.iadd, 1) := by decide +kernel
theorem d_Mo_missLine_17 : decode b_Mo_missLine 17 = .ok (.putfield 77, 3) := by decide +kernel
theorem d_Mo_missLine_20 : decode b_Mo_missLine 20 = .ok (.iload_n 3, 1) := by decide +kernel
theorem d_Mo_missLine_21 : decode b_Mo_missLine 21 = .ok (.istore 4, 2) := by decide +kernel
theorem d_Mo_missLine_23 : decode b_Mo_missLine 23 = .ok (.iload 4, 2) := by decide +kernel
theorem d_Mo_missLine_25 : decode b_Mo_missLine 25 = .ok (.iload_n 3, 1) := by decide +kernel
theorem d_Mo_missLine_26 : decode b_Mo_missLine 26 = .ok (.iconst 2, 1) := by decide +kernel
theorem d_Mo_missLine_27 : decode b_Mo_missLine 27 = .ok (.iadd, 1) := by decide +kernel
theorem d_Mo_missLine_28 : decode b_Mo_missLine 28 = .ok (.if_icmp .ge 36, 3) := by decide +kernel
theorem d_Mo_missLine_31 : decode b_Mo_missLine 31 = .ok (.aload_n 0, 1) := by decide +kernel
theorem d_Mo_missLine_32 : decode b_Mo_missLine 32 = .ok (.getfield 34, 3) := by decide +kernel
theorem d_Mo_missLine_35 : decode b_Mo_missLine 35 = .ok (.iload 4, 2) := by decide +kernel
theorem d_Mo_missLine_37 : decode b_Mo_missLine 37 = .ok (.iaload, 1) := by decide +kernel
theorem d_Mo_missLine_38 : decode b_Mo_missLine 38 = .ok (.iload_n 2, 1) := by decide +kernel
theorem d_Mo_missLine_39 : decode b_Mo_missLine 39 = .ok (.if_icmp .eq 6, 3) := by decide +kernel
theorem d_Mo_missLine_42 : decode b_Mo_missLine 42 = .ok (.goto 16, 3) := by decide +kernel
theorem d_Mo_missLine_45 : decode b_Mo_missLine 45 = .ok (.aload_n 0, 1) := by decide +kernel
theorem d_Mo_missLine_46 : decode b_Mo_missLine 46 = .ok (.getfield 37, 3) := by decide +kernel
theorem d_Mo_missLine_49 : decode b_Mo_missLine 49 = .ok (.iload 4, 2) := by decide +kernel
theorem d_Mo_missLine_51 : decode b_Mo_missLine 51 = .ok (.aload_n 0, 1) := by decide +kernel
theorem d_Mo_missLine_52 : decode b_Mo_missLine 52 = .ok (.getfield 77, 3) := by decide +kernel
theorem d_Mo_missLine_55 : decode b_Mo_missLine 55 = .ok (.iastore, 1) := by decide +kernel
theorem d_Mo_missLine_56 : decode b_Mo_missLine 56 = .ok (.iconst 0, 1) := by decide +kernel
theorem d_Mo_missLine_57 : decode b_Mo_missLine 57 = .ok (.ireturn, 1) := by decide +kernel
theorem d_Mo_missLine_58 : decode b_Mo_missLine 58 = .ok (.iinc 4 1, 3) := by decide +kernel
theorem d_Mo_missLine_61 : decode b_Mo_missLine 61 = .ok (.goto (-38), 3) := by decide +kernel
theorem d_Mo_missLine_64 : decode b_Mo_missLine 64 = .ok (.aload_n 0, 1) := by decide +kernel
theorem d_Mo_missLine_65 : decode b_Mo_missLine 65 = .ok (.getfield 34, 3) := by decide +kernel
theorem d_Mo_missLine_68 : decode b_Mo_missLine 68 = .ok (.iload_n 3, 1) := by decide +kernel
theorem d_Mo_missLine_69 : decode b_Mo_missLine 69 = .ok (.iaload, 1) := by decide +kernel
theorem d_Mo_missLine_70 : decode b_Mo_missLine 70 = .ok (.ifCond .lt 31, 3) := by decide +kernel
theorem d_Mo_missLine_73 : decode b_Mo_missLine 73 = .ok (.aload_n 0, 1) := by decide +kernel
theorem d_Mo_missLine_74 : decode b_Mo_missLine 74 = .ok (.getfield 34, 3) := by decide +kernel
theorem d_Mo_missLine_77 : decode b_Mo_missLine 77 = .ok (.iload_n 3, 1) := by decide +kernel
theorem d_Mo_missLine_78 : decode b_Mo_missLine 78 = .ok (.iconst 1, 1) := by decide +kernel
theorem d_Mo_missLine_79 : decode b_Mo_missLine 79 = .ok (.iadd, 1) := by decide +kernel
theorem d_Mo_missLine_80 : decode b_Mo_missLine 80 = .ok (.iaload, 1) := by decide +kernel
theorem d_Mo_missLine_81 : decode b_Mo_missLine 81 = .ok (.ifCond .lt 24, 3) := by decide +kernel
theorem d_Mo_missLine_84 : decode b_Mo_missLine 84 = .ok (.aload_n 0, 1) := by decide +kernel
theorem d_Mo_missLine_85 : decode b_Mo_missLine 85 = .ok (.getfield 37, 3) := by decide +kernel
theorem d_Mo_missLine_88 : decode b_Mo_missLine 88 = .ok (.iload_n 3, 1) := by decide +kernel
theorem d_Mo_missLine_89 : decode b_Mo_missLine 89 = .ok (.iaload, 1) := by decide +kernel
theorem d_Mo_missLine_90 : decode b_Mo_missLine 90 = .ok (.aload_n 0, 1) := by decide +kernel
theorem d_Mo_missLine_91 : decode b_Mo_missLine 91 = .ok (.getfield 37, 3) := by decide +kernel
theorem d_Mo_missLine_94 : decode b_Mo_missLine 94 = .ok (.iload_n 3, 1) := by decide +kernel
theorem d_Mo_missLine_95 : decode b_Mo_missLine 95 = .ok (.iconst 1, 1) := by decide +kernel
theorem d_Mo_missLine_96 : decode b_Mo_missLine 96 = .ok (.iadd, 1) := by decide +kernel
theorem d_Mo_missLine_97 : decode b_Mo_missLine 97 = .ok (.iaload, 1) := by decide +kernel
theorem d_Mo_missLine_98 : decode b_Mo_missLine 98 = .ok (.if_icmp .ge 7, 3) := by decide +kernel
theorem d_Mo_missLine_101 : decode b_Mo_missLine 101 = .ok (.iload_n 3, 1) := by decide +kernel
theorem d_Mo_missLine_102 : decode b_Mo_missLine 102 = .ok (.goto 6, 3) := by decide +kernel
theorem d_Mo_missLine_105 : decode b_Mo_missLine 105 = .ok (.iload_n 3, 1) := by decide +kernel
theorem d_Mo_missLine_106 : decode b_Mo_missLine 106 = .ok (.iconst 1, 1) := by decide +kernel
theorem d_Mo_missLine_107 : decode b_Mo_missLine 107 = .ok (.iadd, 1) := by decide +kernel
theorem d_Mo_missLine_108 : decode b_Mo_missLine 108 = .ok (.istore 4, 2) := by decide +kernel
theorem d_Mo_missLine_110 : decode b_Mo_missLine 110 = .ok (.aload_n 0, 1) := by decide +kernel
theorem d_Mo_missLine_111 : decode b_Mo_missLine 111 = .ok (.getfield 34, 3) := by decide +kernel
theorem d_Mo_missLine_114 : decode b_Mo_missLine 114 = .ok (.iload 4, 2) := by decide +kernel
theorem d_Mo_missLine_116 : decode b_Mo_missLine 116 = .ok (.iload_n 2, 1) := by decide +kernel
theorem d_Mo_missLine_117 : decode b_Mo_missLine 117 = .ok (.iastore, 1) := by decide +kernel
theorem d_Mo_missLine_118 : decode b_Mo_missLine 118 = .ok (.aload_n 0, 1) := by decide +kernel
theorem d_Mo_missLine_119 : decode b_Mo_missLine 119 = .ok (.getfield 37, 3) := by decide +kernel
theorem d_Mo_missLine_122 : decode b_Mo_missLine 122 = .ok (.iload 4, 2) := by decide +kernel
theorem d_Mo_missLine_124 : decode b_Mo_missLine 124 = .ok (.aload_n 0, 1) := by decide +kernel
theorem d_Mo_missLine_125 : decode b_Mo_missLine 125 = .ok (.getfield 77, 3) := by decide +kernel
theorem d_Mo_missLine_128 : decode b_Mo_missLine 128 = .ok (.iastore, 1) := by decide +kernel
theorem d_Mo_missLine_129 : decode b_Mo_missLine 129 = .ok (.aload_n 0, 1) := by decide +kernel
theorem d_Mo_missLine_130 : decode b_Mo_missLine 130 = .ok (.dup, 1) := by decide +kernel
theorem d_Mo_missLine_131 : decode b_Mo_missLine 131 = .ok (.getfield 89, 3) := by decide +kernel
theorem d_Mo_missLine_134 : decode b_Mo_missLine 134 = .ok (.iconst 1, 1) := by decide +kernel
theorem d_Mo_missLine_135 : decode b_Mo_missLine 135 = .ok (.iadd, 1) := by decide +kernel
theorem d_Mo_missLine_136 : decode b_Mo_missLine 136 = .ok (.putfield 89, 3) := by decide +kernel
theorem d_Mo_missLine_139 : decode b_Mo_missLine 139 = .ok (.iconst 1, 1) := by decide +kernel
theorem d_Mo_missLine_140 : decode b_Mo_missLine 140 = .ok (.ireturn, 1) := by decide +kernel
theorem d_Mo_later_0 : decode b_Mo_later 0 = .ok (.iload_n 0, 1) := by decide +kernel
theorem d_Mo_later_1 : decode b_Mo_later 1 = .ok (.iload_n 1, 1) := by decide +kernel
theorem d_Mo_later_2 : decode b_Mo_later 2 = .ok (.if_icmp .le 7, 3) := by decide +kernel
theorem d_Mo_later_5 : decode b_Mo_later 5 = .ok (.iload_n 0, 1) := by decide +kernel
theorem d_Mo_later_6 : decode b_Mo_later 6 = .ok (.goto 4, 3) := by decide +kernel
theorem d_Mo_later_9 : decode b_Mo_later 9 = .ok (.iload_n 1, 1) := by decide +kernel
theorem d_Mo_later_10 : decode b_Mo_later 10 = .ok (.ireturn, 1) := by decide +kernel
theorem d_Mo_put_0 : decode b_Mo_put 0 = .ok (.iload_n 1, 1) := by decide +kernel
theorem d_Mo_put_1 : decode b_Mo_put 1 = .ok (.ifCond .le 10, 3) := by decide +kernel
theorem d_Mo_put_4 : decode b_Mo_put 4 = .ok (.aload_n 0, 1) := by decide +kernel
theorem d_Mo_put_5 : decode b_Mo_put 5 = .ok (.getfield 25, 3) := by decide +kernel
theorem d_Mo_put_8 : decode b_Mo_put 8 = .ok (.iload_n 1, 1) := by decide +kernel
theorem d_Mo_put_9 : decode b_Mo_put 9 = .ok (.iload_n 2, 1) := by decide +kernel
theorem d_Mo_put_10 : decode b_Mo_put 10 = .ok (.iastore, 1) := by decide +kernel
theorem d_Mo_put_11 : decode b_Mo_put 11 = .ok (.return_, 1) := by decide +kernel
theorem d_Mo_reckon_0 : decode b_Mo_reckon 0 = .ok (.iload_n 1, 1) := by decide +kernel
theorem d_Mo_reckon_1 : decode b_Mo_reckon 1 = .ok (.bipush 10, 2) := by decide +kernel
theorem d_Mo_reckon_3 : decode b_Mo_reckon 3 = .ok (.if_icmp .ne 10, 3) := by decide +kernel
theorem d_Mo_reckon_6 : decode b_Mo_reckon 6 = .ok (.dload_n 2, 1) := by decide +kernel
theorem d_Mo_reckon_7 : decode b_Mo_reckon 7 = .ok (.dload 4, 2) := by decide +kernel
theorem d_Mo_reckon_9 : decode b_Mo_reckon 9 = .ok (.dadd, 1) := by decide +kernel
theorem d_Mo_reckon_10 : decode b_Mo_reckon 10 = .ok (.goto 33, 3) := by decide +kernel
theorem d_Mo_reckon_13 : decode b_Mo_reckon 13 = .ok (.iload_n 1, 1) := by decide +kernel
theorem d_Mo_reckon_14 : decode b_Mo_reckon 14 = .ok (.bipush 11, 2) := by decide +kernel
theorem d_Mo_reckon_16 : decode b_Mo_reckon 16 = .ok (.if_icmp .ne 10, 3) := by decide +kernel
theorem d_Mo_reckon_19 : decode b_Mo_reckon 19 = .ok (.dload_n 2, 1) := by decide +kernel
theorem d_Mo_reckon_20 : decode b_Mo_reckon 20 = .ok (.dload 4, 2) := by decide +kernel
theorem d_Mo_reckon_22 : decode b_Mo_reckon 22 = .ok (.dsub, 1) := by decide +kernel
theorem d_Mo_reckon_23 : decode b_Mo_reckon 23 = .ok (.goto 20, 3) := by decide +kernel
theorem d_Mo_reckon_26 : decode b_Mo_reckon 26 = .ok (.iload_n 1, 1) := by decide +kernel
theorem d_Mo_reckon_27 : decode b_Mo_reckon 27 = .ok (.bipush 12, 2) := by decide +kernel
theorem d_Mo_reckon_29 : decode b_Mo_reckon 29 = .ok (.if_icmp .ne 10, 3) := by decide +kernel
theorem d_Mo_reckon_32 : decode b_Mo_reckon 32 = .ok (.dload_n 2, 1) := by decide +kernel
theorem d_Mo_reckon_33 : decode b_Mo_reckon 33 = .ok (.dload 4, 2) := by decide +kernel
theorem d_Mo_reckon_35 : decode b_Mo_reckon 35 = .ok (.dmul, 1) := by decide +kernel
theorem d_Mo_reckon_36 : decode b_Mo_reckon 36 = .ok (.goto 7, 3) := by decide +kernel
theorem d_Mo_reckon_39 : decode b_Mo_reckon 39 = .ok (.dload_n 2, 1) := by decide +kernel
theorem d_Mo_reckon_40 : decode b_Mo_reckon 40 = .ok (.dload 4, 2) := by decide +kernel
theorem d_Mo_reckon_42 : decode b_Mo_reckon 42 = .ok (.ddiv, 1) := by decide +kernel
theorem d_Mo_reckon_43 : decode b_Mo_reckon 43 = .ok (.dreturn, 1) := by decide +kernel
theorem d_Mo_compute_0 : decode b_Mo_compute 0 = .ok (.aload_n 0, 1) := by decide +kernel
theorem d_Mo_compute_1 : decode b_Mo_compute 1 = .ok (.getfield 7, 3) := by decide +kernel
theorem d_Mo_compute_4 : decode b_Mo_compute 4 = .ok (.iload_n 1, 1) := by decide +kernel
theorem d_Mo_compute_5 : decode b_Mo_compute 5 = .ok (.iaload, 1) := by decide +kernel
theorem d_Mo_compute_6 : decode b_Mo_compute 6 = .ok (.istore_n 2, 1) := by decide +kernel
theorem d_Mo_compute_7 : decode b_Mo_compute 7 = .ok (.aload_n 0, 1) := by decide +kernel
theorem d_Mo_compute_8 : decode b_Mo_compute 8 = .ok (.getfield 25, 3) := by decide +kernel
theorem d_Mo_compute_11 : decode b_Mo_compute 11 = .ok (.aload_n 0, 1) := by decide +kernel
theorem d_Mo_compute_12 : decode b_Mo_compute 12 = .ok (.getfield 16, 3) := by decide +kernel
theorem d_Mo_compute_15 : decode b_Mo_compute 15 = .ok (.iload_n 1, 1) := by decide +kernel
theorem d_Mo_compute_16 : decode b_Mo_compute 16 = .ok (.iaload, 1) := by decide +kernel
theorem d_Mo_compute_17 : decode b_Mo_compute 17 = .ok (.iaload, 1) := by decide +kernel
theorem d_Mo_compute_18 : decode b_Mo_compute 18 = .ok (.istore_n 3, 1) := by decide +kernel
theorem d_Mo_compute_19 : decode b_Mo_compute 19 = .ok (.aload_n 0, 1) := by decide +kernel
theorem d_Mo_compute_20 : decode b_Mo_compute 20 = .ok (.getfield 25, 3) := by decide +kernel
theorem d_Mo_compute_23 : decode b_Mo_compute 23 = .ok (.aload_n 0, 1) := by decide +kernel
theorem d_Mo_compute_24 : decode b_Mo_compute 24 = .ok (.getfield 19, 3) := by decide +kernel
theorem d_Mo_compute_27 : decode b_Mo_compute 27 = .ok (.iload_n 1, 1) := by decide +kernel
theorem d_Mo_compute_28 : decode b_Mo_compute 28 = .ok (.iaload, 1) := by decide +kernel
theorem d_Mo_compute_29 : decode b_Mo_compute 29 = .ok (.iaload, 1) := by decide +kernel
theorem d_Mo_compute_30 : decode b_Mo_compute 30 = .ok (.istore 4, 2) := by decide +kernel
theorem d_Mo_compute_32 : decode b_Mo_compute 32 = .ok (.aload_n 0, 1) := by decide +kernel
theorem d_Mo_compute_33 : decode b_Mo_compute 33 = .ok (.getfield 43, 3) := by decide +kernel
theorem d_Mo_compute_36 : decode b_Mo_compute 36 = .ok (.aload_n 0, 1) := by decide +kernel
theorem d_Mo_compute_37 : decode b_Mo_compute 37 = .ok (.getfield 16, 3) := by decide +kernel
theorem d_Mo_compute_40 : decode b_Mo_compute 40 = .ok (.iload_n 1, 1) := by decide +kernel
theorem d_Mo_compute_41 : decode b_Mo_compute 41 = .ok (.iaload, 1) := by decide +kernel
theorem d_Mo_compute_42 : decode b_Mo_compute 42 = .ok (.iconst 4, 1) := by decide +kernel
theorem d_Mo_compute_43 : decode b_Mo_compute 43 = .ok (.irem, 1) := by decide +kernel
theorem d_Mo_compute_44 : decode b_Mo_compute 44 = .ok (.daload, 1) := by decide +kernel
theorem d_Mo_compute_45 : decode b_Mo_compute 45 = .ok (.dstore 5, 2) := by decide +kernel
theorem d_Mo_compute_47 : decode b_Mo_compute 47 = .ok (.aload_n 0, 1) := by decide +kernel
theorem d_Mo_compute_48 : decode b_Mo_compute 48 = .ok (.getfield 43, 3) := by decide +kernel
theorem d_Mo_compute_51 : decode b_Mo_compute 51 = .ok (.aload_n 0, 1) := by decide +kernel
theorem d_Mo_compute_52 : decode b_Mo_compute 52 = .ok (.getfield 19, 3) := by decide +kernel
theorem d_Mo_compute_55 : decode b_Mo_compute 55 = .ok (.iload_n 1, 1) := by decide +kernel
theorem d_Mo_compute_56 : decode b_Mo_compute 56 = .ok (.iaload, 1) := by decide +kernel
theorem d_Mo_compute_57 : decode b_Mo_compute 57 = .ok (.iconst 4, 1) := by decide +kernel
theorem d_Mo_compute_58 : decode b_Mo_compute 58 = .ok (.irem, 1) := by decide +kernel
theorem d_Mo_compute_59 : decode b_Mo_compute 59 = .ok (.daload, 1) := by decide +kernel
theorem d_Mo_compute_60 : decode b_Mo_compute 60 = .ok (.dstore 7, 2) := by decide +kernel
theorem d_Mo_compute_62 : decode b_Mo_compute 62 = .ok (.iload_n 3, 1) := by decide +kernel
theorem d_Mo_compute_63 : decode b_Mo_compute 63 = .ok (.aload_n 0, 1) := by decide +kernel
theorem d_Mo_compute_64 : decode b_Mo_compute 64 = .ok (.getfield 22, 3) := by decide +kernel
theorem d_Mo_compute_67 : decode b_Mo_compute 67 = .ok (.iload_n 1, 1) := by decide +kernel
theorem d_Mo_compute_68 : decode b_Mo_compute 68 = .ok (.iaload, 1) := by decide +kernel
theorem d_Mo_compute_69 : decode b_Mo_compute 69 = .ok (.iadd, 1) := by decide +kernel
theorem d_Mo_compute_70 : decode b_Mo_compute 70 = .ok (.istore 9, 2) := by decide +kernel
theorem d_Mo_compute_72 : decode b_Mo_compute 72 = .ok (.iload_n 2, 1) := by decide +kernel
theorem d_Mo_compute_73 : decode b_Mo_compute 73 = .ok (.iconst 1, 1) := by decide +kernel
theorem d_Mo_compute_74 : decode b_Mo_compute 74 = .ok (.if_icmp .ne 21, 3) := by decide +kernel
theorem d_Mo_compute_77 : decode b_Mo_compute 77 = .ok (.aload_n 0, 1) := by decide +kernel
theorem d_Mo_compute_78 : decode b_Mo_compute 78 = .ok (.aload_n 0, 1) := by decide +kernel
theorem d_Mo_compute_79 : decode b_Mo_compute 79 = .ok (.getfield 13, 3) := by decide +kernel
theorem d_Mo_compute_82 : decode b_Mo_compute 82 = .ok (.iload_n 1, 1) := by decide +kernel
theorem d_Mo_compute_83 : decode b_Mo_compute 83 = .ok (.iaload, 1) := by decide +kernel
theorem d_Mo_compute_84 : decode b_Mo_compute 84 = .ok (.iload_n 3, 1) := by decide +kernel
theorem d_Mo_compute_85 : decode b_Mo_compute 85 = .ok (.aload_n 0, 1) := by decide +kernel
theorem d_Mo_compute_86 : decode b_Mo_compute 86 = .ok (.getfield 22, 3) := by decide +kernel
theorem d_Mo_compute_89 : decode b_Mo_compute 89 = .ok (.iload_n 1, 1) := by decide +kernel
theorem d_Mo_compute_90 : decode b_Mo_compute 90 = .ok (.iaload, 1) := by decide +kernel
theorem d_Mo_compute_91 : decode b_Mo_compute 91 = .ok (.iadd, 1) := by decide +kernel
theorem d_Mo_compute_92 : decode b_Mo_compute 92 = .ok (.invokevirtual 116, 3) := by decide +kernel
theorem d_Mo_compute_95 : decode b_Mo_compute 95 = .ok (.iload_n 2, 1) := by decide +kernel
theorem d_Mo_compute_96 : decode b_Mo_compute 96 = .ok (.iconst 2, 1) := by decide +kernel
theorem d_Mo_compute_97 : decode b_Mo_compute 97 = .ok (.if_icmp .ne 17, 3) := by decide +kernel
theorem d_Mo_compute_100 : decode b_Mo_compute 100 = .ok (.aload_n 0, 1) := by decide +kernel
theorem d_Mo_compute_101 : decode b_Mo_compute 101 = .ok (.aload_n 0, 1) := by decide +kernel
theorem d_Mo_compute_102 : decode b_Mo_compute 102 = .ok (.getfield 13, 3) := by decide +kernel
theorem d_Mo_compute_105 : decode b_Mo_compute 105 = .ok (.iload_n 1, 1) := by decide +kernel
theorem d_Mo_compute_106 : decode b_Mo_compute 106 = .ok (.iaload, 1) := by decide +kernel
theorem d_Mo_compute_107 : decode b_Mo_compute 107 = .ok (.iload_n 3, 1) := by decide +kernel
theorem d_Mo_compute_108 : decode b_Mo_compute 108 = .ok (.iload 4, 2) := by decide +kernel
theorem d_Mo_compute_110 : decode b_Mo_compute 110 = .ok (.iadd, 1) := by decide +kernel
theorem d_Mo_compute_111 : decode b_Mo_compute 111 = .ok (.invokevirtual 116, 3) := by decide +kernel
theorem d_Mo_compute_114 : decode b_Mo_compute 114 = .ok (.iload_n 2, 1) := by decide +kernel
theorem d_Mo_compute_115 : decode b_Mo_compute 115 = .ok (.iconst 3, 1) := by decide +kernel
theorem d_Mo_compute_116 : decode b_Mo_compute 116 = .ok (.if_icmp .ne 17, 3) := by decide +kernel
theorem d_Mo_compute_119 : decode b_Mo_compute 119 = .ok (.aload_n 0, 1) := by decide +kernel
theorem d_Mo_compute_120 : decode b_Mo_compute 120 = .ok (.aload_n 0, 1) := by decide +kernel
theorem d_Mo_compute_121 : decode b_Mo_compute 121 = .ok (.getfield 13, 3) := by decide +kernel
theorem d_Mo_compute_124 : decode b_Mo_compute 124 = .ok (.iload_n 1, 1) := by decide +kernel
theorem d_Mo_compute_125 : decode b_Mo_compute 125 = .ok (.iaload, 1) := by decide +kernel
theorem d_Mo_compute_126 : decode b_Mo_compute 126 = .ok (.iload_n 3, 1) := by decide +kernel
theorem d_Mo_compute_127 : decode b_Mo_compute 127 = .ok (.iload 4, 2) := by decide +kernel
theorem d_Mo_compute_129 : decode b_Mo_compute 129 = .ok (.isub, 1) := by decide +kernel
theorem d_Mo_compute_130 : decode b_Mo_compute 130 = .ok (.invokevirtual 116, 3) := by decide +kernel
theorem d_Mo_compute_133 : decode b_Mo_compute 133 = .ok (.iload_n 2, 1) := by decide +kernel
theorem d_Mo_compute_134 : decode b_Mo_compute 134 = .ok (.iconst 4, 1) := by decide +kernel
theorem d_Mo_compute_135 : decode b_Mo_compute 135 = .ok (.if_icmp .ne 17, 3) := by decide +kernel
theorem d_Mo_compute_138 : decode b_Mo_compute 138 = .ok (.aload_n 0, 1) := by decide +kernel
theorem d_Mo_compute_139 : decode b_Mo_compute 139 = .ok (.aload_n 0, 1) := by decide +kernel
theorem d_Mo_compute_140 : decode b_Mo_compute 140 = .ok (.getfield 13, 3) := by decide +kernel
theorem d_Mo_compute_143 : decode b_Mo_compute 143 = .ok (.iload_n 1, 1) := by decide +kernel
theorem d_Mo_compute_144 : decode b_Mo_compute 144 = .ok (.iaload, 1) := by decide +kernel
theorem d_Mo_compute_145 : decode b_Mo_compute 145 = .ok (.iload_n 3, 1) := by decide +kernel
theorem d_Mo_compute_146 : decode b_Mo_compute 146 = .ok (.iload 4, 2) := by decide +kernel
theorem d_Mo_compute_148 : decode b_Mo_compute 148 = .ok (.imul, 1) := by decide +kernel
theorem d_Mo_compute_149 : decode b_Mo_compute 149 = .ok (.invokevirtual 116, 3) := by decide +kernel
theorem d_Mo_compute_152 : decode b_Mo_compute 152 = .ok (.iload_n 2, 1) := by decide +kernel
theorem d_Mo_compute_153 : decode b_Mo_compute 153 = .ok (.iconst 5, 1) := by decide +kernel
theorem d_Mo_compute_154 : decode b_Mo_compute 154 = .ok (.if_icmp .ne 24, 3) := by decide +kernel
theorem d_Mo_compute_157 : decode b_Mo_compute 157 = .ok (.aload_n 0, 1) := by decide +kernel
theorem d_Mo_compute_158 : decode b_Mo_compute 158 = .ok (.aload_n 0, 1) := by decide +kernel
theorem d_Mo_compute_159 : decode b_Mo_compute 159 = .ok (.getfield 13, 3) := by decide +kernel
theorem d_Mo_compute_162 : decode b_Mo_compute 162 = .ok (.iload_n 1, 1) := by decide +kernel
theorem d_Mo_compute_163 : decode b_Mo_compute 163 = .ok (.iaload, 1) := by decide +kernel
theorem d_Mo_compute_164 : decode b_Mo_compute 164 = .ok (.iload_n 3, 1) := by decide +kernel
theorem d_Mo_compute_165 : decode b_Mo_compute 165 = .ok (.iload 4, 2) := by decide +kernel
theorem d_Mo_compute_167 : decode b_Mo_compute 167 = .ok (.if_icmp .ge 7, 3) := by decide +kernel
theorem d_Mo_compute_170 : decode b_Mo_compute 170 = .ok (.iconst 1, 1) := by decide +kernel
theorem d_Mo_compute_171 : decode b_Mo_compute 171 = .ok (.goto 4, 3) := by decide +kernel
theorem d_Mo_compute_174 : decode b_Mo_compute 174 = .ok (.iconst 0, 1) := by decide +kernel
theorem d_Mo_compute_175 : decode b_Mo_compute 175 = .ok (.invokevirtual 116, 3) := by decide +kernel
theorem d_Mo_compute_178 : decode b_Mo_compute 178 = .ok (.iload_n 2, 1) := by decide +kernel
theorem d_Mo_compute_179 : decode b_Mo_compute 179 = .ok (.bipush 6, 2) := by decide +kernel
theorem d_Mo_compute_181 : decode b_Mo_compute 181 = .ok (.if_icmp .ne 21, 3) := by decide +kernel
theorem d_Mo_compute_184 : decode b_Mo_compute 184 = .ok (.aload_n 0, 1) := by decide +kernel
theorem d_Mo_compute_185 : decode b_Mo_compute 185 = .ok (.aload_n 0, 1) := by decide +kernel
theorem d_Mo_compute_186 : decode b_Mo_compute 186 = .ok (.getfield 13, 3) := by decide +kernel
theorem d_Mo_compute_189 : decode b_Mo_compute 189 = .ok (.iload_n 1, 1) := by decide +kernel
theorem d_Mo_compute_190 : decode b_Mo_compute 190 = .ok (.iaload, 1) := by decide +kernel
theorem d_Mo_compute_191 : decode b_Mo_compute 191 = .ok (.aload_n 0, 1) := by decide +kernel
theorem d_Mo_compute_192 : decode b_Mo_compute 192 = .ok (.getfield 47, 3) := by decide +kernel
theorem d_Mo_compute_195 : decode b_Mo_compute 195 = .ok (.iload 9, 2) := by decide +kernel
theorem d_Mo_compute_197 : decode b_Mo_compute 197 = .ok (.daload, 1) := by decide +kernel
theorem d_Mo_compute_198 : decode b_Mo_compute 198 = .ok (.d2i, 1) := by decide +kernel
theorem d_Mo_compute_199 : decode b_Mo_compute 199 = .ok (.invokevirtual 116, 3) := by decide +kernel
theorem d_Mo_compute_202 : decode b_Mo_compute 202 = .ok (.iload_n 2, 1) := by decide +kernel
theorem d_Mo_compute_203 : decode b_Mo_compute 203 = .ok (.bipush 7, 2) := by decide +kernel
theorem d_Mo_compute_205 : decode b_Mo_compute 205 = .ok (.if_icmp .ne 13, 3) := by decide +kernel
theorem d_Mo_compute_208 : decode b_Mo_compute 208 = .ok (.aload_n 0, 1) := by decide +kernel
theorem d_Mo_compute_209 : decode b_Mo_compute 209 = .ok (.getfield 47, 3) := by decide +kernel
theorem d_Mo_compute_212 : decode b_Mo_compute 212 = .ok (.iload 9, 2) := by decide +kernel
theorem d_Mo_compute_214 : decode b_Mo_compute 214 = .ok (.iload 4, 2) := by decide +kernel
theorem d_Mo_compute_216 : decode b_Mo_compute 216 = .ok (.i2d, 1) := by decide +kernel
theorem d_Mo_compute_217 : decode b_Mo_compute 217 = .ok (.dastore, 1) := by decide +kernel
theorem d_Mo_compute_218 : decode b_Mo_compute 218 = .ok (.iload_n 2, 1) := by decide +kernel
theorem d_Mo_compute_219 : decode b_Mo_compute 219 = .ok (.bipush 8, 2) := by decide +kernel
theorem d_Mo_compute_221 : decode b_Mo_compute 221 = .ok (.if_icmp .ne 23, 3) := by decide +kernel
theorem d_Mo_compute_224 : decode b_Mo_compute 224 = .ok (.aload_n 0, 1) := by decide +kernel
theorem d_Mo_compute_225 : decode b_Mo_compute 225 = .ok (.getfield 43, 3) := by decide +kernel
theorem d_Mo_compute_228 : decode b_Mo_compute 228 = .ok (.aload_n 0, 1) := by decide +kernel
theorem d_Mo_compute_229 : decode b_Mo_compute 229 = .ok (.getfield 13, 3) := by decide +kernel
theorem d_Mo_compute_232 : decode b_Mo_compute 232 = .ok (.iload_n 1, 1) := by decide +kernel
theorem d_Mo_compute_233 : decode b_Mo_compute 233 = .ok (.iaload, 1) := by decide +kernel
theorem d_Mo_compute_234 : decode b_Mo_compute 234 = .ok (.iconst 4, 1) := by decide +kernel
theorem d_Mo_compute_235 : decode b_Mo_compute 235 = .ok (.irem, 1) := by decide +kernel
theorem d_Mo_compute_236 : decode b_Mo_compute 236 = .ok (.aload_n 0, 1) := by decide +kernel
theorem d_Mo_compute_237 : decode b_Mo_compute 237 = .ok (.getfield 47, 3) := by decide +kernel
theorem d_Mo_compute_240 : decode b_Mo_compute 240 = .ok (.iload 9, 2) := by decide +kernel
theorem d_Mo_compute_242 : decode b_Mo_compute 242 = .ok (.daload, 1) := by decide +kernel
theorem d_Mo_compute_243 : decode b_Mo_compute 243 = .ok (.dastore, 1) := by decide +kernel
theorem d_Mo_compute_244 : decode b_Mo_compute 244 = .ok (.iload_n 2, 1) := by decide +kernel
theorem d_Mo_compute_245 : decode b_Mo_compute 245 = .ok (.bipush 9, 2) := by decide +kernel
theorem d_Mo_compute_247 : decode b_Mo_compute 247 = .ok (.if_icmp .ne 12, 3) := by decide +kernel
theorem d_Mo_compute_250 : decode b_Mo_compute 250 = .ok (.aload_n 0, 1) := by decide +kernel
theorem d_Mo_compute_251 : decode b_Mo_compute 251 = .ok (.getfield 47, 3) := by decide +kernel
theorem d_Mo_compute_254 : decode b_Mo_compute 254 = .ok (.iload 9, 2) := by decide +kernel
theorem d_Mo_compute_256 : decode b_Mo_compute 256 = .ok (.dload 7, 2) := by decide +kernel
theorem d_Mo_compute_258 : decode b_Mo_compute 258 = .ok (.dastore, 1) := by decide +kernel
theorem d_Mo_compute_259 : decode b_Mo_compute 259 = .ok (.iload_n 2, 1) := by decide +kernel
theorem d_Mo_compute_260 : decode b_Mo_compute 260 = .ok (.bipush 10, 2) := by decide +kernel
theorem d_Mo_compute_262 : decode b_Mo_compute 262 = .ok (.bipush 13, 2) := by decide +kernel
theorem d_Mo_compute_264 : decode b_Mo_compute 264 = .ok (.invokestatic 101, 3) := by decide +kernel
theorem d_Mo_compute_267 : decode b_Mo_compute 267 = .ok (.ifCond .eq 25, 3) := by decide +kernel
theorem d_Mo_compute_270 : decode b_Mo_compute 270 = .ok (.aload_n 0, 1) := by decide +kernel
theorem d_Mo_compute_271 : decode b_Mo_compute 271 = .ok (.getfield 43, 3) := by decide +kernel
theorem d_Mo_compute_274 : decode b_Mo_compute 274 = .ok (.aload_n 0, 1) := by decide +kernel
theorem d_Mo_compute_275 : decode b_Mo_compute 275 = .ok (.getfield 13, 3) := by decide +kernel
theorem d_Mo_compute_278 : decode b_Mo_compute 278 = .ok (.iload_n 1, 1) := by decide +kernel
theorem d_Mo_compute_279 : decode b_Mo_compute 279 = .ok (.iaload, 1) := by decide +kernel
theorem d_Mo_compute_280 : decode b_Mo_compute 280 = .ok (.iconst 4, 1) := by decide +kernel
theorem d_Mo_compute_281 : decode b_Mo_compute 281 = .ok (.irem, 1) := by decide +kernel
theorem d_Mo_compute_282 : decode b_Mo_compute 282 = .ok (.aload_n 0, 1) := by decide +kernel
theorem d_Mo_compute_283 : decode b_Mo_compute 283 = .ok (.iload_n 2, 1) := by decide +kernel
theorem d_Mo_compute_284 : decode b_Mo_compute 284 = .ok (.dload 5, 2) := by decide +kernel
theorem d_Mo_compute_286 : decode b_Mo_compute 286 = .ok (.dload 7, 2) := by decide +kernel
theorem d_Mo_compute_288 : decode b_Mo_compute 288 = .ok (.invokevirtual 120, 3) := by decide +kernel
theorem d_Mo_compute_291 : decode b_Mo_compute 291 = .ok (.dastore, 1) := by decide +kernel
theorem d_Mo_compute_292 : decode b_Mo_compute 292 = .ok (.iload_n 2, 1) := by decide +kernel
theorem d_Mo_compute_293 : decode b_Mo_compute 293 = .ok (.bipush 14, 2) := by decide +kernel
theorem d_Mo_compute_295 : decode b_Mo_compute 295 = .ok (.if_icmp .ne 26, 3) := by decide +kernel
theorem d_Mo_compute_298 : decode b_Mo_compute 298 = .ok (.aload_n 0, 1) := by decide +kernel
theorem d_Mo_compute_299 : decode b_Mo_compute 299 = .ok (.aload_n 0, 1) := by decide +kernel
theorem d_Mo_compute_300 : decode b_Mo_compute 300 = .ok (.getfield 13, 3) := by decide +kernel
theorem d_Mo_compute_303 : decode b_Mo_compute 303 = .ok (.iload_n 1, 1) := by decide +kernel
theorem d_Mo_compute_304 : decode b_Mo_compute 304 = .ok (.iaload, 1) := by decide +kernel
theorem d_Mo_compute_305 : decode b_Mo_compute 305 = .ok (.dload 5, 2) := by decide +kernel
theorem d_Mo_compute_307 : decode b_Mo_compute 307 = .ok (.dload 7, 2) := by decide +kernel
theorem d_Mo_compute_309 : decode b_Mo_compute 309 = .ok (.dcmp .g, 1) := by decide +kernel
theorem d_Mo_compute_310 : decode b_Mo_compute 310 = .ok (.ifCond .ge 7, 3) := by decide +kernel
theorem d_Mo_compute_313 : decode b_Mo_compute 313 = .ok (.iconst 1, 1) := by decide +kernel
theorem d_Mo_compute_314 : decode b_Mo_compute 314 = .ok (.goto 4, 3) := by decide +kernel
theorem d_Mo_compute_317 : decode b_Mo_compute 317 = .ok (.iconst 0, 1) := by decide +kernel
theorem d_Mo_compute_318 : decode b_Mo_compute 318 = .ok (.invokevirtual 116, 3) := by decide +kernel
theorem d_Mo_compute_321 : decode b_Mo_compute 321 = .ok (.iload_n 2, 1) := by decide +kernel
theorem d_Mo_compute_322 : decode b_Mo_compute 322 = .ok (.bipush 15, 2) := by decide +kernel
theorem d_Mo_compute_324 : decode b_Mo_compute 324 = .ok (.if_icmp .ne 18, 3) := by decide +kernel
theorem d_Mo_compute_327 : decode b_Mo_compute 327 = .ok (.aload_n 0, 1) := by decide +kernel
theorem d_Mo_compute_328 : decode b_Mo_compute 328 = .ok (.getfield 43, 3) := by decide +kernel
theorem d_Mo_compute_331 : decode b_Mo_compute 331 = .ok (.aload_n 0, 1) := by decide +kernel
theorem d_Mo_compute_332 : decode b_Mo_compute 332 = .ok (.getfield 13, 3) := by decide +kernel
theorem d_Mo_compute_335 : decode b_Mo_compute 335 = .ok (.iload_n 1, 1) := by decide +kernel
theorem d_Mo_compute_336 : decode b_Mo_compute 336 = .ok (.iaload, 1) := by decide +kernel
theorem d_Mo_compute_337 : decode b_Mo_compute 337 = .ok (.iconst 4, 1) := by decide +kernel
theorem d_Mo_compute_338 : decode b_Mo_compute 338 = .ok (.irem, 1) := by decide +kernel
theorem d_Mo_compute_339 : decode b_Mo_compute 339 = .ok (.iload_n 3, 1) := by decide +kernel
theorem d_Mo_compute_340 : decode b_Mo_compute 340 = .ok (.i2d, 1) := by decide +kernel
theorem d_Mo_compute_341 : decode b_Mo_compute 341 = .ok (.dastore, 1) := by decide +kernel
theorem d_Mo_compute_342 : decode b_Mo_compute 342 = .ok (.iload_n 2, 1) := by decide +kernel
theorem d_Mo_compute_343 : decode b_Mo_compute 343 = .ok (.bipush 16, 2) := by decide +kernel
theorem d_Mo_compute_345 : decode b_Mo_compute 345 = .ok (.if_icmp .ne 16, 3) := by decide +kernel
theorem d_Mo_compute_348 : decode b_Mo_compute 348 = .ok (.aload_n 0, 1) := by decide +kernel
theorem d_Mo_compute_349 : decode b_Mo_compute 349 = .ok (.aload_n 0, 1) := by decide +kernel
theorem d_Mo_compute_350 : decode b_Mo_compute 350 = .ok (.getfield 13, 3) := by decide +kernel
theorem d_Mo_compute_353 : decode b_Mo_compute 353 = .ok (.iload_n 1, 1) := by decide +kernel
theorem d_Mo_compute_354 : decode b_Mo_compute 354 = .ok (.iaload, 1) := by decide +kernel
theorem d_Mo_compute_355 : decode b_Mo_compute 355 = .ok (.dload 5, 2) := by decide +kernel
theorem d_Mo_compute_357 : decode b_Mo_compute 357 = .ok (.d2i, 1) := by decide +kernel
theorem d_Mo_compute_358 : decode b_Mo_compute 358 = .ok (.invokevirtual 116, 3) := by decide +kernel
theorem d_Mo_compute_361 : decode b_Mo_compute 361 = .ok (.return_, 1) := by decide +kernel
theorem d_Mo_trouble_0 : decode b_Mo_trouble 0 = .ok (.aload_n 0, 1) := by decide +kernel
theorem d_Mo_trouble_1 : decode b_Mo_trouble 1 = .ok (.getfield 7, 3) := by decide +kernel
theorem d_Mo_trouble_4 : decode b_Mo_trouble 4 = .ok (.iload_n 1, 1) := by decide +kernel
theorem d_Mo_trouble_5 : decode b_Mo_trouble 5 = .ok (.iaload, 1) := by decide +kernel
theorem d_Mo_trouble_6 : decode b_Mo_trouble 6 = .ok (.istore_n 2, 1) := by decide +kernel
theorem d_Mo_trouble_7 : decode b_Mo_trouble 7 = .ok (.iload_n 2, 1) := by decide +kernel
theorem d_Mo_trouble_8 : decode b_Mo_trouble 8 = .ok (.bipush 6, 2) := by decide +kernel
theorem d_Mo_trouble_10 : decode b_Mo_trouble 10 = .ok (.bipush 9, 2) := by decide +kernel
theorem d_Mo_trouble_12 : decode b_Mo_trouble 12 = .ok (.invokestatic 101, 3) := by decide +kernel
theorem d_Mo_trouble_15 : decode b_Mo_trouble 15 = .ok (.ifCond .eq 32, 3) := by decide +kernel
theorem d_Mo_trouble_18 : decode b_Mo_trouble 18 = .ok (.aload_n 0, 1) := by decide +kernel
theorem d_Mo_trouble_19 : decode b_Mo_trouble 19 = .ok (.getfield 25, 3) := by decide +kernel
theorem d_Mo_trouble_22 : decode b_Mo_trouble 22 = .ok (.aload_n 0, 1) := by decide +kernel
theorem d_Mo_trouble_23 : decode b_Mo_trouble 23 = .ok (.getfield 16, 3) := by decide +kernel
theorem d_Mo_trouble_26 : decode b_Mo_trouble 26 = .ok (.iload_n 1, 1) := by decide +kernel
theorem d_Mo_trouble_27 : decode b_Mo_trouble 27 = .ok (.iaload, 1) := by decide +kernel
theorem d_Mo_trouble_28 : decode b_Mo_trouble 28 = .ok (.iaload, 1) := by decide +kernel
theorem d_Mo_trouble_29 : decode b_Mo_trouble 29 = .ok (.aload_n 0, 1) := by decide +kernel
theorem d_Mo_trouble_30 : decode b_Mo_trouble 30 = .ok (.getfield 22, 3) := by decide +kernel
theorem d_Mo_trouble_33 : decode b_Mo_trouble 33 = .ok (.iload_n 1, 1) := by decide +kernel
theorem d_Mo_trouble_34 : decode b_Mo_trouble 34 = .ok (.iaload, 1) := by decide +kernel
theorem d_Mo_trouble_35 : decode b_Mo_trouble 35 = .ok (.iadd, 1) := by decide +kernel
theorem d_Mo_trouble_36 : decode b_Mo_trouble 36 = .ok (.iconst 0, 1) := by decide +kernel
theorem d_Mo_trouble_37 : decode b_Mo_trouble 37 = .ok (.bipush 47, 2) := by decide +kernel
theorem d_Mo_trouble_39 : decode b_Mo_trouble 39 = .ok (.invokestatic 101, 3) := by decide +kernel
theorem d_Mo_trouble_42 : decode b_Mo_trouble 42 = .ok (.ifCond .ne 5, 3) := by decide +kernel
theorem d_Mo_trouble_45 : decode b_Mo_trouble 45 = .ok (.iconst 3, 1) := by decide +kernel
theorem d_Mo_trouble_46 : decode b_Mo_trouble 46 = .ok (.ireturn, 1) := by decide +kernel
theorem d_Mo_trouble_47 : decode b_Mo_trouble 47 = .ok (.iload_n 2, 1) := by decide +kernel
theorem d_Mo_trouble_48 : decode b_Mo_trouble 48 = .ok (.bipush 10, 2) := by decide +kernel
theorem d_Mo_trouble_50 : decode b_Mo_trouble 50 = .ok (.bipush 13, 2) := by decide +kernel
theorem d_Mo_trouble_52 : decode b_Mo_trouble 52 = .ok (.invokestatic 101, 3) := by decide +kernel
theorem d_Mo_trouble_55 : decode b_Mo_trouble 55 = .ok (.ifCond .ne 5, 3) := by decide +kernel
theorem d_Mo_trouble_58 : decode b_Mo_trouble 58 = .ok (.iconst 0, 1) := by decide +kernel
theorem d_Mo_trouble_59 : decode b_Mo_trouble 59 = .ok (.ireturn, 1) := by decide +kernel
theorem d_Mo_trouble_60 : decode b_Mo_trouble 60 = .ok (.aload_n 0, 1) := by decide +kernel
theorem d_Mo_trouble_61 : decode b_Mo_trouble 61 = .ok (.getfield 43, 3) := by decide +kernel
theorem d_Mo_trouble_64 : decode b_Mo_trouble 64 = .ok (.aload_n 0, 1) := by decide +kernel
theorem d_Mo_trouble_65 : decode b_Mo_trouble 65 = .ok (.getfield 16, 3) := by decide +kernel
theorem d_Mo_trouble_68 : decode b_Mo_trouble 68 = .ok (.iload_n 1, 1) := by decide +kernel
theorem d_Mo_trouble_69 : decode b_Mo_trouble 69 = .ok (.iaload, 1) := by decide +kernel
theorem d_Mo_trouble_70 : decode b_Mo_trouble 70 = .ok (.iconst 4, 1) := by decide +kernel
theorem d_Mo_trouble_71 : decode b_Mo_trouble 71 = .ok (.irem, 1) := by decide +kernel
theorem d_Mo_trouble_72 : decode b_Mo_trouble 72 = .ok (.daload, 1) := by decide +kernel
theorem d_Mo_trouble_73 : decode b_Mo_trouble 73 = .ok (.dstore_n 3, 1) := by decide +kernel
theorem d_Mo_trouble_74 : decode b_Mo_trouble 74 = .ok (.aload_n 0, 1) := by decide +kernel
theorem d_Mo_trouble_75 : decode b_Mo_trouble 75 = .ok (.getfield 43, 3) := by decide +kernel
theorem d_Mo_trouble_78 : decode b_Mo_trouble 78 = .ok (.aload_n 0, 1) := by decide +kernel
theorem d_Mo_trouble_79 : decode b_Mo_trouble 79 = .ok (.getfield 19, 3) := by decide +kernel
theorem d_Mo_trouble_82 : decode b_Mo_trouble 82 = .ok (.iload_n 1, 1) := by decide +kernel
theorem d_Mo_trouble_83 : decode b_Mo_trouble 83 = .ok (.iaload, 1) := by decide +kernel
theorem d_Mo_trouble_84 : decode b_Mo_trouble 84 = .ok (.iconst 4, 1) := by decide +kernel
theorem d_Mo_trouble_85 : decode b_Mo_trouble 85 = .ok (.irem, 1) := by decide +kernel
theorem d_Mo_trouble_86 : decode b_Mo_trouble 86 = .ok (.daload, 1) := by decide +kernel
theorem d_Mo_trouble_87 : decode b_Mo_trouble 87 = .ok (.dstore 5, 2) := by decide +kernel
theorem d_Mo_trouble_89 : decode b_Mo_trouble 89 = .ok (.iload_n 2, 1) := by decide +kernel
theorem d_Mo_trouble_90 : decode b_Mo_trouble 90 = .ok (.bipush 13, 2) := by decide +kernel
theorem d_Mo_trouble_92 : decode b_Mo_trouble 92 = .ok (.if_icmp .ne 12, 3) := by decide +kernel
theorem d_Mo_trouble_95 : decode b_Mo_trouble 95 = .ok (.dload 5, 2) := by decide +kernel
theorem d_Mo_trouble_97 : decode b_Mo_trouble 97 = .ok (.dconst 0, 1) := by decide +kernel
theorem d_Mo_trouble_98 : decode b_Mo_trouble 98 = .ok (.dcmp .l, 1) := by decide +kernel
theorem d_Mo_trouble_99 : decode b_Mo_trouble 99 = .ok (.ifCond .ne 5, 3) := by decide +kernel
theorem d_Mo_trouble_102 : decode b_Mo_trouble 102 = .ok (.iconst 4, 1) := by decide +kernel
theorem d_Mo_trouble_103 : decode b_Mo_trouble 103 = .ok (.ireturn, 1) := by decide +kernel
theorem d_Mo_trouble_104 : decode b_Mo_trouble 104 = .ok (.aload_n 0, 1) := by decide +kernel
theorem d_Mo_trouble_105 : decode b_Mo_trouble 105 = .ok (.iload_n 2, 1) := by decide +kernel
theorem d_Mo_trouble_106 : decode b_Mo_trouble 106 = .ok (.dload_n 3, 1) := by decide +kernel
theorem d_Mo_trouble_107 : decode b_Mo_trouble 107 = .ok (.dload 5, 2) := by decide +kernel
theorem d_Mo_trouble_109 : decode b_Mo_trouble 109 = .ok (.invokevirtual 120, 3) := by decide +kernel
theorem d_Mo_trouble_112 : decode b_Mo_trouble 112 = .ok (.dstore 7, 2) := by decide +kernel
theorem d_Mo_trouble_114 : decode b_Mo_trouble 114 = .ok (.dload 7, 2) := by decide +kernel
theorem d_Mo_trouble_116 : decode b_Mo_trouble 116 = .ok (.ldc2_w 124, 3) := by decide +kernel
theorem d_Mo_trouble_119 : decode b_Mo_trouble 119 = .ok (.dcmp .l, 1) := by decide +kernel
theorem d_Mo_trouble_120 : decode b_Mo_trouble 120 = .ok (.ifCond .gt 12, 3) := by decide +kernel
theorem d_Mo_trouble_123 : decode b_Mo_trouble 123 = .ok (.dload 7, 2) := by decide +kernel
theorem d_Mo_trouble_125 : decode b_Mo_trouble 125 = .ok (.ldc2_w 126, 3) := by decide +kernel
theorem d_Mo_trouble_128 : decode b_Mo_trouble 128 = .ok (.dcmp .g, 1) := by decide +kernel
theorem d_Mo_trouble_129 : decode b_Mo_trouble 129 = .ok (.ifCond .ge 7, 3) := by decide +kernel
theorem d_Mo_trouble_132 : decode b_Mo_trouble 132 = .ok (.iconst 4, 1) := by decide +kernel
theorem d_Mo_trouble_133 : decode b_Mo_trouble 133 = .ok (.goto 4, 3) := by decide +kernel
theorem d_Mo_trouble_136 : decode b_Mo_trouble 136 = .ok (.iconst 0, 1) := by decide +kernel
theorem d_Mo_trouble_137 : decode b_Mo_trouble 137 = .ok (.ireturn, 1) := by decide +kernel
theorem d_Mo_modulo_0 : decode b_Mo_modulo 0 = .ok (.iload_n 0, 1) := by decide +kernel
theorem d_Mo_modulo_1 : decode b_Mo_modulo 1 = .ok (.bipush 24, 2) := by decide +kernel
theorem d_Mo_modulo_3 : decode b_Mo_modulo 3 = .ok (.irem, 1) := by decide +kernel
theorem d_Mo_modulo_4 : decode b_Mo_modulo 4 = .ok (.bipush 24, 2) := by decide +kernel
theorem d_Mo_modulo_6 : decode b_Mo_modulo 6 = .ok (.iadd, 1) := by decide +kernel
theorem d_Mo_modulo_7 : decode b_Mo_modulo 7 = .ok (.bipush 24, 2) := by decide +kernel
theorem d_Mo_modulo_9 : decode b_Mo_modulo 9 = .ok (.irem, 1) := by decide +kernel
theorem d_Mo_modulo_10 : decode b_Mo_modulo 10 = .ok (.ireturn, 1) := by decide +kernel
theorem d_Mo_next_0 : decode b_Mo_next 0 = .ok (.aload_n 0, 1) := by decide +kernel
theorem d_Mo_next_1 : decode b_Mo_next 1 = .ok (.getfield 7, 3) := by decide +kernel
theorem d_Mo_next_4 : decode b_Mo_next 4 = .ok (.iload_n 1, 1) := by decide +kernel
theorem d_Mo_next_5 : decode b_Mo_next 5 = .ok (.iaload, 1) := by decide +kernel
theorem d_Mo_next_6 : decode b_Mo_next 6 = .ok (.istore_n 2, 1) := by decide +kernel
theorem d_Mo_next_7 : decode b_Mo_next 7 = .ok (.iload_n 2, 1) := by decide +kernel
theorem d_Mo_next_8 : decode b_Mo_next 8 = .ok (.bipush 19, 2) := by decide +kernel
theorem d_Mo_next_10 : decode b_Mo_next 10 = .ok (.if_icmp .ne 13, 3) := by decide +kernel
theorem d_Mo_next_13 : decode b_Mo_next 13 = .ok (.aload_n 0, 1) := by decide +kernel
theorem d_Mo_next_14 : decode b_Mo_next 14 = .ok (.getfield 22, 3) := by decide +kernel
theorem d_Mo_next_17 : decode b_Mo_next 17 = .ok (.iload_n 1, 1) := by decide +kernel
theorem d_Mo_next_18 : decode b_Mo_next 18 = .ok (.iaload, 1) := by decide +kernel
theorem d_Mo_next_19 : decode b_Mo_next 19 = .ok (.invokestatic 128, 3) := by decide +kernel
theorem d_Mo_next_22 : decode b_Mo_next 22 = .ok (.ireturn, 1) := by decide +kernel
theorem d_Mo_next_23 : decode b_Mo_next 23 = .ok (.iload_n 2, 1) := by decide +kernel
theorem d_Mo_next_24 : decode b_Mo_next 24 = .ok (.bipush 17, 2) := by decide +kernel
theorem d_Mo_next_26 : decode b_Mo_next 26 = .ok (.if_icmp .ge 10, 3) := by decide +kernel
theorem d_Mo_next_29 : decode b_Mo_next 29 = .ok (.iload_n 1, 1) := by decide +kernel
theorem d_Mo_next_30 : decode b_Mo_next 30 = .ok (.iconst 1, 1) := by decide +kernel
theorem d_Mo_next_31 : decode b_Mo_next 31 = .ok (.iadd, 1) := by decide +kernel
theorem d_Mo_next_32 : decode b_Mo_next 32 = .ok (.bipush 24, 2) := by decide +kernel
theorem d_Mo_next_34 : decode b_Mo_next 34 = .ok (.irem, 1) := by decide +kernel
theorem d_Mo_next_35 : decode b_Mo_next 35 = .ok (.ireturn, 1) := by decide +kernel
theorem d_Mo_next_36 : decode b_Mo_next 36 = .ok (.aload_n 0, 1) := by decide +kernel
theorem d_Mo_next_37 : decode b_Mo_next 37 = .ok (.getfield 25, 3) := by decide +kernel
theorem d_Mo_next_40 : decode b_Mo_next 40 = .ok (.aload_n 0, 1) := by decide +kernel
theorem d_Mo_next_41 : decode b_Mo_next 41 = .ok (.getfield 16, 3) := by decide +kernel
theorem d_Mo_next_44 : decode b_Mo_next 44 = .ok (.iload_n 1, 1) := by decide +kernel
theorem d_Mo_next_45 : decode b_Mo_next 45 = .ok (.iaload, 1) := by decide +kernel
theorem d_Mo_next_46 : decode b_Mo_next 46 = .ok (.iaload, 1) := by decide +kernel
theorem d_Mo_next_47 : decode b_Mo_next 47 = .ok (.aload_n 0, 1) := by decide +kernel
theorem d_Mo_next_48 : decode b_Mo_next 48 = .ok (.getfield 25, 3) := by decide +kernel
theorem d_Mo_next_51 : decode b_Mo_next 51 = .ok (.aload_n 0, 1) := by decide +kernel
theorem d_Mo_next_52 : decode b_Mo_next 52 = .ok (.getfield 19, 3) := by decide +kernel
theorem d_Mo_next_55 : decode b_Mo_next 55 = .ok (.iload_n 1, 1) := by decide +kernel
theorem d_Mo_next_56 : decode b_Mo_next 56 = .ok (.iaload, 1) := by decide +kernel
theorem d_Mo_next_57 : decode b_Mo_next 57 = .ok (.iaload, 1) := by decide +kernel
theorem d_Mo_next_58 : decode b_Mo_next 58 = .ok (.if_icmp .ne 7, 3) := by decide +kernel
theorem d_Mo_next_61 : decode b_Mo_next 61 = .ok (.iconst 1, 1) := by decide +kernel
theorem d_Mo_next_62 : decode b_Mo_next 62 = .ok (.goto 4, 3) := by decide +kernel
theorem d_Mo_next_65 : decode b_Mo_next 65 = .ok (.iconst 0, 1) := by decide +kernel
theorem d_Mo_next_66 : decode b_Mo_next 66 = .ok (.iload_n 2, 1) := by decide +kernel
theorem d_Mo_next_67 : decode b_Mo_next 67 = .ok (.bipush 17, 2) := by decide +kernel
theorem d_Mo_next_69 : decode b_Mo_next 69 = .ok (.if_icmp .ne 7, 3) := by decide +kernel
theorem d_Mo_next_72 : decode b_Mo_next 72 = .ok (.iconst 1, 1) := by decide +kernel
theorem d_Mo_next_73 : decode b_Mo_next 73 = .ok (.goto 4, 3) := by decide +kernel
theorem d_Mo_next_76 : decode b_Mo_next 76 = .ok (.iconst 0, 1) := by decide +kernel
theorem d_Mo_next_77 : decode b_Mo_next 77 = .ok (.if_icmp .ne 7, 3) := by decide +kernel
theorem d_Mo_next_80 : decode b_Mo_next 80 = .ok (.iconst 1, 1) := by decide +kernel
theorem d_Mo_next_81 : decode b_Mo_next 81 = .ok (.goto 4, 3) := by decide +kernel
theorem d_Mo_next_84 : decode b_Mo_next 84 = .ok (.iconst 0, 1) := by decide +kernel
theorem d_Mo_next_85 : decode b_Mo_next 85 = .ok (.istore_n 3, 1) := by decide +kernel
theorem d_Mo_next_86 : decode b_Mo_next 86 = .ok (.iload_n 1, 1) := by decide +kernel
theorem d_Mo_next_87 : decode b_Mo_next 87 = .ok (.bipush 8, 2) := by decide +kernel
theorem d_Mo_next_89 : decode b_Mo_next 89 = .ok (.irem, 1) := by decide +kernel
theorem d_Mo_next_90 : decode b_Mo_next 90 = .ok (.istore 4, 2) := by decide +kernel
theorem d_Mo_next_92 : decode b_Mo_next 92 = .ok (.aload_n 0, 1) := by decide +kernel
theorem d_Mo_next_93 : decode b_Mo_next 93 = .ok (.aload_n 0, 1) := by decide +kernel
theorem d_Mo_next_94 : decode b_Mo_next 94 = .ok (.getfield 40, 3) := by decide +kernel
theorem d_Mo_next_97 : decode b_Mo_next 97 = .ok (.iload 4, 2) := by decide +kernel
theorem d_Mo_next_99 : decode b_Mo_next 99 = .ok (.iaload, 1) := by decide +kernel
theorem d_Mo_next_100 : decode b_Mo_next 100 = .ok (.iconst 1, 1) := by decide +kernel
theorem d_Mo_next_101 : decode b_Mo_next 101 = .ok (.if_icmp .le 7, 3) := by decide +kernel
theorem d_Mo_next_104 : decode b_Mo_next 104 = .ok (.iconst 1, 1) := by decide +kernel
theorem d_Mo_next_105 : decode b_Mo_next 105 = .ok (.goto 4, 3) := by decide +kernel
theorem d_Mo_next_108 : decode b_Mo_next 108 = .ok (.iconst 0, 1) := by decide +kernel
theorem d_Mo_next_109 : decode b_Mo_next 109 = .ok (.iload_n 3, 1) := by decide +kernel
theorem d_Mo_next_110 : decode b_Mo_next 110 = .ok (.if_icmp .eq 7, 3) := by decide +kernel
theorem d_Mo_next_113 : decode b_Mo_next 113 = .ok (.iconst 1, 1) := by decide +kernel
theorem d_Mo_next_114 : decode b_Mo_next 114 = .ok (.goto 4, 3) := by decide +kernel
theorem d_Mo_next_117 : decode b_Mo_next 117 = .ok (.iconst 0, 1) := by decide +kernel
theorem d_Mo_next_118 : decode b_Mo_next 118 = .ok (.putfield 98, 3) := by decide +kernel
theorem d_Mo_next_121 : decode b_Mo_next 121 = .ok (.aload_n 0, 1) := by decide +kernel
theorem d_Mo_next_122 : decode b_Mo_next 122 = .ok (.getfield 98, 3) := by decide +kernel
theorem d_Mo_next_125 : decode b_Mo_next 125 = .ok (.ifCond .eq 13, 3) := by decide +kernel
theorem d_Mo_next_128 : decode b_Mo_next 128 = .ok (.aload_n 0, 1) := by decide +kernel
theorem d_Mo_next_129 : decode b_Mo_next 129 = .ok (.dup, 1) := by decide +kernel
theorem d_Mo_next_130 : decode b_Mo_next 130 = .ok (.getfield 86, 3) := by decide +kernel
theorem d_Mo_next_133 : decode b_Mo_next 133 = .ok (.iconst 1, 1) := by decide +kernel
theorem d_Mo_next_134 : decode b_Mo_next 134 = .ok (.iadd, 1) := by decide +kernel
theorem d_Mo_next_135 : decode b_Mo_next 135 = .ok (.putfield 86, 3) := by decide +kernel
theorem d_Mo_next_138 : decode b_Mo_next 138 = .ok (.iload_n 3, 1) := by decide +kernel
theorem d_Mo_next_139 : decode b_Mo_next 139 = .ok (.ifCond .eq 25, 3) := by decide +kernel
theorem d_Mo_next_142 : decode b_Mo_next 142 = .ok (.aload_n 0, 1) := by decide +kernel
theorem d_Mo_next_143 : decode b_Mo_next 143 = .ok (.getfield 40, 3) := by decide +kernel
theorem d_Mo_next_146 : decode b_Mo_next 146 = .ok (.iload 4, 2) := by decide +kernel
theorem d_Mo_next_148 : decode b_Mo_next 148 = .ok (.iaload, 1) := by decide +kernel
theorem d_Mo_next_149 : decode b_Mo_next 149 = .ok (.iconst 3, 1) := by decide +kernel
theorem d_Mo_next_150 : decode b_Mo_next 150 = .ok (.if_icmp .ge 14, 3) := by decide +kernel
theorem d_Mo_next_153 : decode b_Mo_next 153 = .ok (.aload_n 0, 1) := by decide +kernel
theorem d_Mo_next_154 : decode b_Mo_next 154 = .ok (.getfield 40, 3) := by decide +kernel
theorem d_Mo_next_157 : decode b_Mo_next 157 = .ok (.iload 4, 2) := by decide +kernel
theorem d_Mo_next_159 : decode b_Mo_next 159 = .ok (.dup2, 1) := by decide +kernel
theorem d_Mo_next_160 : decode b_Mo_next 160 = .ok (.iaload, 1) := by decide +kernel
theorem d_Mo_next_161 : decode b_Mo_next 161 = .ok (.iconst 1, 1) := by decide +kernel
theorem d_Mo_next_162 : decode b_Mo_next 162 = .ok (.iadd, 1) := by decide +kernel
theorem d_Mo_next_163 : decode b_Mo_next 163 = .ok (.iastore, 1) := by decide +kernel
theorem d_Mo_next_164 : decode b_Mo_next 164 = .ok (.iload_n 3, 1) := by decide +kernel
theorem d_Mo_next_165 : decode b_Mo_next 165 = .ok (.ifCond .ne 24, 3) := by decide +kernel
theorem d_Mo_next_168 : decode b_Mo_next 168 = .ok (.aload_n 0, 1) := by decide +kernel
theorem d_Mo_next_169 : decode b_Mo_next 169 = .ok (.getfield 40, 3) := by decide +kernel
theorem d_Mo_next_172 : decode b_Mo_next 172 = .ok (.iload 4, 2) := by decide +kernel
theorem d_Mo_next_174 : decode b_Mo_next 174 = .ok (.iaload, 1) := by decide +kernel
theorem d_Mo_next_175 : decode b_Mo_next 175 = .ok (.ifCond .le 14, 3) := by decide +kernel
theorem d_Mo_next_178 : decode b_Mo_next 178 = .ok (.aload_n 0, 1) := by decide +kernel
theorem d_Mo_next_179 : decode b_Mo_next 179 = .ok (.getfield 40, 3) := by decide +kernel
theorem d_Mo_next_182 : decode b_Mo_next 182 = .ok (.iload 4, 2) := by decide +kernel
theorem d_Mo_next_184 : decode b_Mo_next 184 = .ok (.dup2, 1) := by decide +kernel
theorem d_Mo_next_185 : decode b_Mo_next 185 = .ok (.iaload, 1) := by decide +kernel
theorem d_Mo_next_186 : decode b_Mo_next 186 = .ok (.iconst 1, 1) := by decide +kernel
theorem d_Mo_next_187 : decode b_Mo_next 187 = .ok (.isub, 1) := by decide +kernel
theorem d_Mo_next_188 : decode b_Mo_next 188 = .ok (.iastore, 1) := by decide +kernel
theorem d_Mo_next_189 : decode b_Mo_next 189 = .ok (.iload_n 3, 1) := by decide +kernel
theorem d_Mo_next_190 : decode b_Mo_next 190 = .ok (.ifCond .eq 15, 3) := by decide +kernel
theorem d_Mo_next_193 : decode b_Mo_next 193 = .ok (.aload_n 0, 1) := by decide +kernel
theorem d_Mo_next_194 : decode b_Mo_next 194 = .ok (.getfield 22, 3) := by decide +kernel
theorem d_Mo_next_197 : decode b_Mo_next 197 = .ok (.iload_n 1, 1) := by decide +kernel
theorem d_Mo_next_198 : decode b_Mo_next 198 = .ok (.iaload, 1) := by decide +kernel
theorem d_Mo_next_199 : decode b_Mo_next 199 = .ok (.invokestatic 128, 3) := by decide +kernel
theorem d_Mo_next_202 : decode b_Mo_next 202 = .ok (.goto 9, 3) := by decide +kernel
theorem d_Mo_next_205 : decode b_Mo_next 205 = .ok (.iload_n 1, 1) := by decide +kernel
theorem d_Mo_next_206 : decode b_Mo_next 206 = .ok (.iconst 1, 1) := by decide +kernel
theorem d_Mo_next_207 : decode b_Mo_next 207 = .ok (.iadd, 1) := by decide +kernel
theorem d_Mo_next_208 : decode b_Mo_next 208 = .ok (.bipush 24, 2) := by decide +kernel
theorem d_Mo_next_210 : decode b_Mo_next 210 = .ok (.irem, 1) := by decide +kernel
theorem d_Mo_next_211 : decode b_Mo_next 211 = .ok (.ireturn, 1) := by decide +kernel
theorem d_Mo_doOne_0 : decode b_Mo_doOne 0 = .ok (.aload_n 0, 1) := by decide +kernel
theorem d_Mo_doOne_1 : decode b_Mo_doOne 1 = .ok (.getfield 113, 3) := by decide +kernel
theorem d_Mo_doOne_4 : decode b_Mo_doOne 4 = .ok (.istore_n 1, 1) := by decide +kernel
theorem d_Mo_doOne_5 : decode b_Mo_doOne 5 = .ok (.aload_n 0, 1) := by decide +kernel
theorem d_Mo_doOne_6 : decode b_Mo_doOne 6 = .ok (.getfield 7, 3) := by decide +kernel
theorem d_Mo_doOne_9 : decode b_Mo_doOne 9 = .ok (.iload_n 1, 1) := by decide +kernel
theorem d_Mo_doOne_10 : decode b_Mo_doOne 10 = .ok (.iaload, 1) := by decide +kernel
theorem d_Mo_doOne_11 : decode b_Mo_doOne 11 = .ok (.istore_n 2, 1) := by decide +kernel
theorem d_Mo_doOne_12 : decode b_Mo_doOne 12 = .ok (.aload_n 0, 1) := by decide +kernel
theorem d_Mo_doOne_13 : decode b_Mo_doOne 13 = .ok (.getfield 63, 3) := by decide +kernel
theorem d_Mo_doOne_16 : decode b_Mo_doOne 16 = .ok (.iconst 1, 1) := by decide +kernel
theorem d_Mo_doOne_17 : decode b_Mo_doOne 17 = .ok (.iadd, 1) := by decide +kernel
theorem d_Mo_doOne_18 : decode b_Mo_doOne 18 = .ok (.istore_n 3, 1) := by decide +kernel
theorem d_Mo_doOne_19 : decode b_Mo_doOne 19 = .ok (.aload_n 0, 1) := by decide +kernel
theorem d_Mo_doOne_20 : decode b_Mo_doOne 20 = .ok (.iload_n 1, 1) := by decide +kernel
theorem d_Mo_doOne_21 : decode b_Mo_doOne 21 = .ok (.invokevirtual 132, 3) := by decide +kernel
theorem d_Mo_doOne_24 : decode b_Mo_doOne 24 = .ok (.ifCond .eq 6, 3) := by decide +kernel
theorem d_Mo_doOne_27 : decode b_Mo_doOne 27 = .ok (.iinc 3 4, 3) := by decide +kernel
theorem d_Mo_doOne_30 : decode b_Mo_doOne 30 = .ok (.aload_n 0, 1) := by decide +kernel
theorem d_Mo_doOne_31 : decode b_Mo_doOne 31 = .ok (.getfield 98, 3) := by decide +kernel
theorem d_Mo_doOne_34 : decode b_Mo_doOne 34 = .ok (.ifCond .eq 6, 3) := by decide +kernel
theorem d_Mo_doOne_37 : decode b_Mo_doOne 37 = .ok (.iinc 3 2, 3) := by decide +kernel
theorem d_Mo_doOne_40 : decode b_Mo_doOne 40 = .ok (.iload_n 2, 1) := by decide +kernel
theorem d_Mo_doOne_41 : decode b_Mo_doOne 41 = .ok (.bipush 6, 2) := by decide +kernel
theorem d_Mo_doOne_43 : decode b_Mo_doOne 43 = .ok (.bipush 9, 2) := by decide +kernel
theorem d_Mo_doOne_45 : decode b_Mo_doOne 45 = .ok (.invokestatic 101, 3) := by decide +kernel
theorem d_Mo_doOne_48 : decode b_Mo_doOne 48 = .ok (.istore 4, 2) := by decide +kernel
theorem d_Mo_doOne_50 : decode b_Mo_doOne 50 = .ok (.aload_n 0, 1) := by decide +kernel
theorem d_Mo_doOne_51 : decode b_Mo_doOne 51 = .ok (.iload_n 1, 1) := by decide +kernel
theorem d_Mo_doOne_52 : decode b_Mo_doOne 52 = .ok (.invokevirtual 136, 3) := by decide +kernel
theorem d_Mo_doOne_55 : decode b_Mo_doOne 55 = .ok (.istore 5, 2) := by decide +kernel
theorem d_Mo_doOne_57 : decode b_Mo_doOne 57 = .ok (.iload 4, 2) := by decide +kernel
theorem d_Mo_doOne_59 : decode b_Mo_doOne 59 = .ok (.ifCond .eq 37, 3) := by decide +kernel
theorem d_Mo_doOne_62 : decode b_Mo_doOne 62 = .ok (.iload 5, 2) := by decide +kernel
theorem d_Mo_doOne_64 : decode b_Mo_doOne 64 = .ok (.ifCond .ne 32, 3) := by decide +kernel
theorem d_Mo_doOne_67 : decode b_Mo_doOne 67 = .ok (.aload_n 0, 1) := by decide +kernel
theorem d_Mo_doOne_68 : decode b_Mo_doOne 68 = .ok (.aload_n 0, 1) := by decide +kernel
theorem d_Mo_doOne_69 : decode b_Mo_doOne 69 = .ok (.getfield 25, 3) := by decide +kernel
theorem d_Mo_doOne_72 : decode b_Mo_doOne 72 = .ok (.aload_n 0, 1) := by decide +kernel
theorem d_Mo_doOne_73 : decode b_Mo_doOne 73 = .ok (.getfield 16, 3) := by decide +kernel
theorem d_Mo_doOne_76 : decode b_Mo_doOne 76 = .ok (.iload_n 1, 1) := by decide +kernel
theorem d_Mo_doOne_77 : decode b_Mo_doOne 77 = .ok (.iaload, 1) := by decide +kernel
theorem d_Mo_doOne_78 : decode b_Mo_doOne 78 = .ok (.iaload, 1) := by decide +kernel
theorem d_Mo_doOne_79 : decode b_Mo_doOne 79 = .ok (.aload_n 0, 1) := by decide +kernel
theorem d_Mo_doOne_80 : decode b_Mo_doOne 80 = .ok (.getfield 22, 3) := by decide +kernel
theorem d_Mo_doOne_83 : decode b_Mo_doOne 83 = .ok (.iload_n 1, 1) := by decide +kernel
theorem d_Mo_doOne_84 : decode b_Mo_doOne 84 = .ok (.iaload, 1) := by decide +kernel
theorem d_Mo_doOne_85 : decode b_Mo_doOne 85 = .ok (.iadd, 1) := by decide +kernel
theorem d_Mo_doOne_86 : decode b_Mo_doOne 86 = .ok (.invokevirtual 139, 3) := by decide +kernel
theorem d_Mo_doOne_89 : decode b_Mo_doOne 89 = .ok (.ifCond .eq 7, 3) := by decide +kernel
theorem d_Mo_doOne_92 : decode b_Mo_doOne 92 = .ok (.iconst 1, 1) := by decide +kernel
theorem d_Mo_doOne_93 : decode b_Mo_doOne 93 = .ok (.goto 4, 3) := by decide +kernel
theorem d_Mo_doOne_96 : decode b_Mo_doOne 96 = .ok (.iconst 0, 1) := by decide +kernel
theorem d_Mo_doOne_97 : decode b_Mo_doOne 97 = .ok (.istore 6, 2) := by decide +kernel
theorem d_Mo_doOne_99 : decode b_Mo_doOne 99 = .ok (.iload 5, 2) := by decide +kernel
theorem d_Mo_doOne_101 : decode b_Mo_doOne 101 = .ok (.ifCond .le 15, 3) := by decide +kernel
theorem d_Mo_doOne_104 : decode b_Mo_doOne 104 = .ok (.aload_n 0, 1) := by decide +kernel
theorem d_Mo_doOne_105 : decode b_Mo_doOne 105 = .ok (.iload 5, 2) := by decide +kernel
theorem d_Mo_doOne_107 : decode b_Mo_doOne 107 = .ok (.putfield 74, 3) := by decide +kernel
theorem d_Mo_doOne_110 : decode b_Mo_doOne 110 = .ok (.aload_n 0, 1) := by decide +kernel
theorem d_Mo_doOne_111 : decode b_Mo_doOne 111 = .ok (.iconst 1, 1) := by decide +kernel
theorem d_Mo_doOne_112 : decode b_Mo_doOne 112 = .ok (.putfield 67, 3) := by decide +kernel
theorem d_Mo_doOne_115 : decode b_Mo_doOne 115 = .ok (.return_, 1) := by decide +kernel
theorem d_Mo_doOne_116 : decode b_Mo_doOne 116 = .ok (.iload 6, 2) := by decide +kernel
theorem d_Mo_doOne_118 : decode b_Mo_doOne 118 = .ok (.ifCond .eq 7, 3) := by decide +kernel
theorem d_Mo_doOne_121 : decode b_Mo_doOne 121 = .ok (.iconst 5, 1) := by decide +kernel
theorem d_Mo_doOne_122 : decode b_Mo_doOne 122 = .ok (.goto 4, 3) := by decide +kernel
theorem d_Mo_doOne_125 : decode b_Mo_doOne 125 = .ok (.iconst 0, 1) := by decide +kernel
theorem d_Mo_doOne_126 : decode b_Mo_doOne 126 = .ok (.istore 7, 2) := by decide +kernel
theorem d_Mo_doOne_128 : decode b_Mo_doOne 128 = .ok (.aload_n 0, 1) := by decide +kernel
theorem d_Mo_doOne_129 : decode b_Mo_doOne 129 = .ok (.iload_n 1, 1) := by decide +kernel
theorem d_Mo_doOne_130 : decode b_Mo_doOne 130 = .ok (.invokevirtual 142, 3) := by decide +kernel
theorem d_Mo_doOne_133 : decode b_Mo_doOne 133 = .ok (.istore 8, 2) := by decide +kernel
theorem d_Mo_doOne_135 : decode b_Mo_doOne 135 = .ok (.aload_n 0, 1) := by decide +kernel
theorem d_Mo_doOne_136 : decode b_Mo_doOne 136 = .ok (.iload_n 1, 1) := by decide +kernel
theorem d_Mo_doOne_137 : decode b_Mo_doOne 137 = .ok (.invokevirtual 145, 3) := by decide +kernel
theorem d_Mo_doOne_140 : decode b_Mo_doOne 140 = .ok (.iload_n 2, 1) := by decide +kernel
theorem d_Mo_doOne_141 : decode b_Mo_doOne 141 = .ok (.bipush 6, 2) := by decide +kernel
theorem d_Mo_doOne_143 : decode b_Mo_doOne 143 = .ok (.if_icmp .eq 9, 3) := by decide +kernel
theorem d_Mo_doOne_146 : decode b_Mo_doOne 146 = .ok (.iload_n 2, 1) := by decide +kernel
theorem d_Mo_doOne_147 : decode b_Mo_doOne 147 = .ok (.bipush 8, 2) := by decide +kernel
theorem d_Mo_doOne_149 : decode b_Mo_doOne 149 = .ok (.if_icmp .ne 8, 3) := by decide +kernel
theorem d_Mo_doOne_152 : decode b_Mo_doOne 152 = .ok (.iload 7, 2) := by decide +kernel
theorem d_Mo_doOne_154 : decode b_Mo_doOne 154 = .ok (.goto 4, 3) := by decide +kernel
theorem d_Mo_doOne_157 : decode b_Mo_doOne 157 = .ok (.iconst 0, 1) := by decide +kernel
theorem d_Mo_doOne_158 : decode b_Mo_doOne 158 = .ok (.iadd, 1) := by decide +kernel
theorem d_Mo_doOne_159 : decode b_Mo_doOne 159 = .ok (.istore 9, 2) := by decide +kernel
theorem d_Mo_doOne_161 : decode b_Mo_doOne 161 = .ok (.iload_n 3, 1) := by decide +kernel
theorem d_Mo_doOne_162 : decode b_Mo_doOne 162 = .ok (.aload_n 0, 1) := by decide +kernel
theorem d_Mo_doOne_163 : decode b_Mo_doOne 163 = .ok (.getfield 28, 3) := by decide +kernel
theorem d_Mo_doOne_166 : decode b_Mo_doOne 166 = .ok (.aload_n 0, 1) := by decide +kernel
theorem d_Mo_doOne_167 : decode b_Mo_doOne 167 = .ok (.iload_n 1, 1) := by decide +kernel
theorem d_Mo_doOne_168 : decode b_Mo_doOne 168 = .ok (.invokevirtual 148, 3) := by decide +kernel
theorem d_Mo_doOne_171 : decode b_Mo_doOne 171 = .ok (.iaload, 1) := by decide +kernel
theorem d_Mo_doOne_172 : decode b_Mo_doOne 172 = .ok (.invokestatic 151, 3) := by decide +kernel
theorem d_Mo_doOne_175 : decode b_Mo_doOne 175 = .ok (.istore_n 3, 1) := by decide +kernel
theorem d_Mo_doOne_176 : decode b_Mo_doOne 176 = .ok (.iload_n 3, 1) := by decide +kernel
theorem d_Mo_doOne_177 : decode b_Mo_doOne 177 = .ok (.aload_n 0, 1) := by decide +kernel
theorem d_Mo_doOne_178 : decode b_Mo_doOne 178 = .ok (.getfield 28, 3) := by decide +kernel
theorem d_Mo_doOne_181 : decode b_Mo_doOne 181 = .ok (.aload_n 0, 1) := by decide +kernel
theorem d_Mo_doOne_182 : decode b_Mo_doOne 182 = .ok (.iload_n 1, 1) := by decide +kernel
theorem d_Mo_doOne_183 : decode b_Mo_doOne 183 = .ok (.invokevirtual 155, 3) := by decide +kernel
theorem d_Mo_doOne_186 : decode b_Mo_doOne 186 = .ok (.iaload, 1) := by decide +kernel
theorem d_Mo_doOne_187 : decode b_Mo_doOne 187 = .ok (.invokestatic 151, 3) := by decide +kernel
theorem d_Mo_doOne_190 : decode b_Mo_doOne 190 = .ok (.istore_n 3, 1) := by decide +kernel
theorem d_Mo_doOne_191 : decode b_Mo_doOne 191 = .ok (.iload_n 2, 1) := by decide +kernel
theorem d_Mo_doOne_192 : decode b_Mo_doOne 192 = .ok (.bipush 13, 2) := by decide +kernel
theorem d_Mo_doOne_194 : decode b_Mo_doOne 194 = .ok (.if_icmp .ne 12, 3) := by decide +kernel
theorem d_Mo_doOne_197 : decode b_Mo_doOne 197 = .ok (.iload_n 3, 1) := by decide +kernel
theorem d_Mo_doOne_198 : decode b_Mo_doOne 198 = .ok (.aload_n 0, 1) := by decide +kernel
theorem d_Mo_doOne_199 : decode b_Mo_doOne 199 = .ok (.getfield 83, 3) := by decide +kernel
theorem d_Mo_doOne_202 : decode b_Mo_doOne 202 = .ok (.invokestatic 151, 3) := by decide +kernel
theorem d_Mo_doOne_205 : decode b_Mo_doOne 205 = .ok (.istore_n 3, 1) := by decide +kernel
theorem d_Mo_doOne_206 : decode b_Mo_doOne 206 = .ok (.iload 4, 2) := by decide +kernel
theorem d_Mo_doOne_208 : decode b_Mo_doOne 208 = .ok (.ifCond .eq 12, 3) := by decide +kernel
theorem d_Mo_doOne_211 : decode b_Mo_doOne 211 = .ok (.iload_n 3, 1) := by decide +kernel
theorem d_Mo_doOne_212 : decode b_Mo_doOne 212 = .ok (.aload_n 0, 1) := by decide +kernel
theorem d_Mo_doOne_213 : decode b_Mo_doOne 213 = .ok (.getfield 80, 3) := by decide +kernel
theorem d_Mo_doOne_216 : decode b_Mo_doOne 216 = .ok (.invokestatic 151, 3) := by decide +kernel
theorem d_Mo_doOne_219 : decode b_Mo_doOne 219 = .ok (.istore_n 3, 1) := by decide +kernel
theorem d_Mo_doOne_220 : decode b_Mo_doOne 220 = .ok (.iload 8, 2) := by decide +kernel
theorem d_Mo_doOne_222 : decode b_Mo_doOne 222 = .ok (.ifCond .le 20, 3) := by decide +kernel
theorem d_Mo_doOne_225 : decode b_Mo_doOne 225 = .ok (.iload_n 3, 1) := by decide +kernel
theorem d_Mo_doOne_226 : decode b_Mo_doOne 226 = .ok (.aload_n 0, 1) := by decide +kernel
theorem d_Mo_doOne_227 : decode b_Mo_doOne 227 = .ok (.getfield 28, 3) := by decide +kernel
theorem d_Mo_doOne_230 : decode b_Mo_doOne 230 = .ok (.iload 8, 2) := by decide +kernel
theorem d_Mo_doOne_232 : decode b_Mo_doOne 232 = .ok (.iaload, 1) := by decide +kernel
theorem d_Mo_doOne_233 : decode b_Mo_doOne 233 = .ok (.iload 9, 2) := by decide +kernel
theorem d_Mo_doOne_235 : decode b_Mo_doOne 235 = .ok (.isub, 1) := by decide +kernel
theorem d_Mo_doOne_236 : decode b_Mo_doOne 236 = .ok (.iconst 1, 1) := by decide +kernel
theorem d_Mo_doOne_237 : decode b_Mo_doOne 237 = .ok (.iadd, 1) := by decide +kernel
theorem d_Mo_doOne_238 : decode b_Mo_doOne 238 = .ok (.invokestatic 151, 3) := by decide +kernel
theorem d_Mo_doOne_241 : decode b_Mo_doOne 241 = .ok (.istore_n 3, 1) := by decide +kernel
theorem d_Mo_doOne_242 : decode b_Mo_doOne 242 = .ok (.iload 8, 2) := by decide +kernel
theorem d_Mo_doOne_244 : decode b_Mo_doOne 244 = .ok (.ifCond .le 14, 3) := by decide +kernel
theorem d_Mo_doOne_247 : decode b_Mo_doOne 247 = .ok (.aload_n 0, 1) := by decide +kernel
theorem d_Mo_doOne_248 : decode b_Mo_doOne 248 = .ok (.getfield 28, 3) := by decide +kernel
theorem d_Mo_doOne_251 : decode b_Mo_doOne 251 = .ok (.iload 8, 2) := by decide +kernel
theorem d_Mo_doOne_253 : decode b_Mo_doOne 253 = .ok (.iload_n 3, 1) := by decide +kernel
theorem d_Mo_doOne_254 : decode b_Mo_doOne 254 = .ok (.iload 9, 2) := by decide +kernel
theorem d_Mo_doOne_256 : decode b_Mo_doOne 256 = .ok (.iadd, 1) := by decide +kernel
theorem d_Mo_doOne_257 : decode b_Mo_doOne 257 = .ok (.iastore, 1) := by decide +kernel
theorem d_Mo_doOne_258 : decode b_Mo_doOne 258 = .ok (.iload_n 2, 1) := by decide +kernel
theorem d_Mo_doOne_259 : decode b_Mo_doOne 259 = .ok (.bipush 13, 2) := by decide +kernel
theorem d_Mo_doOne_261 : decode b_Mo_doOne 261 = .ok (.if_icmp .ne 11, 3) := by decide +kernel
theorem d_Mo_doOne_264 : decode b_Mo_doOne 264 = .ok (.aload_n 0, 1) := by decide +kernel
theorem d_Mo_doOne_265 : decode b_Mo_doOne 265 = .ok (.iload_n 3, 1) := by decide +kernel
theorem d_Mo_doOne_266 : decode b_Mo_doOne 266 = .ok (.bipush 8, 2) := by decide +kernel
theorem d_Mo_doOne_268 : decode b_Mo_doOne 268 = .ok (.iadd, 1) := by decide +kernel
theorem d_Mo_doOne_269 : decode b_Mo_doOne 269 = .ok (.putfield 83, 3) := by decide +kernel
theorem d_Mo_doOne_272 : decode b_Mo_doOne 272 = .ok (.iload 4, 2) := by decide +kernel
theorem d_Mo_doOne_274 : decode b_Mo_doOne 274 = .ok (.ifCond .eq 13, 3) := by decide +kernel
theorem d_Mo_doOne_277 : decode b_Mo_doOne 277 = .ok (.aload_n 0, 1) := by decide +kernel
theorem d_Mo_doOne_278 : decode b_Mo_doOne 278 = .ok (.iload_n 3, 1) := by decide +kernel
theorem d_Mo_doOne_279 : decode b_Mo_doOne 279 = .ok (.iconst 1, 1) := by decide +kernel
theorem d_Mo_doOne_280 : decode b_Mo_doOne 280 = .ok (.iadd, 1) := by decide +kernel
theorem d_Mo_doOne_281 : decode b_Mo_doOne 281 = .ok (.iload 7, 2) := by decide +kernel
theorem d_Mo_doOne_283 : decode b_Mo_doOne 283 = .ok (.iadd, 1) := by decide +kernel
theorem d_Mo_doOne_284 : decode b_Mo_doOne 284 = .ok (.putfield 80, 3) := by decide +kernel
theorem d_Mo_doOne_287 : decode b_Mo_doOne 287 = .ok (.aload_n 0, 1) := by decide +kernel
theorem d_Mo_doOne_288 : decode b_Mo_doOne 288 = .ok (.iload_n 3, 1) := by decide +kernel
theorem d_Mo_doOne_289 : decode b_Mo_doOne 289 = .ok (.putfield 63, 3) := by decide +kernel
theorem d_Mo_doOne_292 : decode b_Mo_doOne 292 = .ok (.aload_n 0, 1) := by decide +kernel
theorem d_Mo_doOne_293 : decode b_Mo_doOne 293 = .ok (.dup, 1) := by decide +kernel
theorem d_Mo_doOne_294 : decode b_Mo_doOne 294 = .ok (.getfield 95, 3) := by decide +kernel
theorem d_Mo_doOne_297 : decode b_Mo_doOne 297 = .ok (.iconst 1, 1) := by decide +kernel
theorem d_Mo_doOne_298 : decode b_Mo_doOne 298 = .ok (.iadd, 1) := by decide +kernel
theorem d_Mo_doOne_299 : decode b_Mo_doOne 299 = .ok (.putfield 95, 3) := by decide +kernel
theorem d_Mo_doOne_302 : decode b_Mo_doOne 302 = .ok (.aload_n 0, 1) := by decide +kernel
theorem d_Mo_doOne_303 : decode b_Mo_doOne 303 = .ok (.iconst 0, 1) := by decide +kernel
theorem d_Mo_doOne_304 : decode b_Mo_doOne 304 = .ok (.putfield 98, 3) := by decide +kernel
theorem d_Mo_doOne_307 : decode b_Mo_doOne 307 = .ok (.aload_n 0, 1) := by decide +kernel
theorem d_Mo_doOne_308 : decode b_Mo_doOne 308 = .ok (.iload_n 1, 1) := by decide +kernel
theorem d_Mo_doOne_309 : decode b_Mo_doOne 309 = .ok (.invokevirtual 158, 3) := by decide +kernel
theorem d_Mo_doOne_312 : decode b_Mo_doOne 312 = .ok (.iload_n 2, 1) := by decide +kernel
theorem d_Mo_doOne_313 : decode b_Mo_doOne 313 = .ok (.ifCond .ne 11, 3) := by decide +kernel
theorem d_Mo_doOne_316 : decode b_Mo_doOne 316 = .ok (.aload_n 0, 1) := by decide +kernel
theorem d_Mo_doOne_317 : decode b_Mo_doOne 317 = .ok (.iconst 1, 1) := by decide +kernel
theorem d_Mo_doOne_318 : decode b_Mo_doOne 318 = .ok (.putfield 67, 3) := by decide +kernel
theorem d_Mo_doOne_321 : decode b_Mo_doOne 321 = .ok (.goto 12, 3) := by decide +kernel
theorem d_Mo_doOne_324 : decode b_Mo_doOne 324 = .ok (.aload_n 0, 1) := by decide +kernel
theorem d_Mo_doOne_325 : decode b_Mo_doOne 325 = .ok (.aload_n 0, 1) := by decide +kernel
theorem d_Mo_doOne_326 : decode b_Mo_doOne 326 = .ok (.iload_n 1, 1) := by decide +kernel
theorem d_Mo_doOne_327 : decode b_Mo_doOne 327 = .ok (.invokevirtual 162, 3) := by decide +kernel
theorem d_Mo_doOne_330 : decode b_Mo_doOne 330 = .ok (.putfield 113, 3) := by decide +kernel
theorem d_Mo_doOne_333 : decode b_Mo_doOne 333 = .ok (.return_, 1) := by decide +kernel
theorem d_Mo_run_0 : decode b_Mo_run 0 = .ok (.aload_n 0, 1) := by decide +kernel
theorem d_Mo_run_1 : decode b_Mo_run 1 = .ok (.iload_n 1, 1) := by decide +kernel
theorem d_Mo_run_2 : decode b_Mo_run 2 = .ok (.iconst 1, 1) := by decide +kernel
theorem d_Mo_run_3 : decode b_Mo_run 3 = .ok (.sipush 300, 3) := by decide +kernel
theorem d_Mo_run_6 : decode b_Mo_run 6 = .ok (.invokestatic 101, 3) := by decide +kernel
theorem d_Mo_run_9 : decode b_Mo_run 9 = .ok (.invokevirtual 105, 3) := by decide +kernel
theorem d_Mo_run_12 : decode b_Mo_run 12 = .ok (.ifCond .eq 5, 3) := by decide +kernel
theorem d_Mo_run_15 : decode b_Mo_run 15 = .ok (.iconst 0, 1) := by decide +kernel
theorem d_Mo_run_16 : decode b_Mo_run 16 = .ok (.ireturn, 1) := by decide +kernel
theorem d_Mo_run_17 : decode b_Mo_run 17 = .ok (.aload_n 0, 1) := by decide +kernel
theorem d_Mo_run_18 : decode b_Mo_run 18 = .ok (.getfield 67, 3) := by decide +kernel
theorem d_Mo_run_21 : decode b_Mo_run 21 = .ok (.ifCond .eq 10, 3) := by decide +kernel
theorem d_Mo_run_24 : decode b_Mo_run 24 = .ok (.aload_n 0, 1) := by decide +kernel
theorem d_Mo_run_25 : decode b_Mo_run 25 = .ok (.iconst 2, 1) := by decide +kernel
theorem d_Mo_run_26 : decode b_Mo_run 26 = .ok (.putfield 74, 3) := by decide +kernel
theorem d_Mo_run_29 : decode b_Mo_run 29 = .ok (.iconst 0, 1) := by decide +kernel
theorem d_Mo_run_30 : decode b_Mo_run 30 = .ok (.ireturn, 1) := by decide +kernel
theorem d_Mo_run_31 : decode b_Mo_run 31 = .ok (.aload_n 0, 1) := by decide +kernel
theorem d_Mo_run_32 : decode b_Mo_run 32 = .ok (.getfield 95, 3) := by decide +kernel
theorem d_Mo_run_35 : decode b_Mo_run 35 = .ok (.istore_n 2, 1) := by decide +kernel
theorem d_Mo_run_36 : decode b_Mo_run 36 = .ok (.aload_n 0, 1) := by decide +kernel
theorem d_Mo_run_37 : decode b_Mo_run 37 = .ok (.getfield 95, 3) := by decide +kernel
theorem d_Mo_run_40 : decode b_Mo_run 40 = .ok (.iload_n 2, 1) := by decide +kernel
theorem d_Mo_run_41 : decode b_Mo_run 41 = .ok (.isub, 1) := by decide +kernel
theorem d_Mo_run_42 : decode b_Mo_run 42 = .ok (.iload_n 1, 1) := by decide +kernel
theorem d_Mo_run_43 : decode b_Mo_run 43 = .ok (.if_icmp .ge 17, 3) := by decide +kernel
theorem d_Mo_run_46 : decode b_Mo_run 46 = .ok (.aload_n 0, 1) := by decide +kernel
theorem d_Mo_run_47 : decode b_Mo_run 47 = .ok (.getfield 67, 3) := by decide +kernel
theorem d_Mo_run_50 : decode b_Mo_run 50 = .ok (.ifCond .ne 10, 3) := by decide +kernel
theorem d_Mo_run_53 : decode b_Mo_run 53 = .ok (.aload_n 0, 1) := by decide +kernel
theorem d_Mo_run_54 : decode b_Mo_run 54 = .ok (.invokevirtual 165, 3) := by decide +kernel
theorem d_Mo_run_57 : decode b_Mo_run 57 = .ok (.goto (-21), 3) := by decide +kernel
theorem d_Mo_run_60 : decode b_Mo_run 60 = .ok (.aload_n 0, 1) := by decide +kernel
theorem d_Mo_run_61 : decode b_Mo_run 61 = .ok (.getfield 74, 3) := by decide +kernel
theorem d_Mo_run_64 : decode b_Mo_run 64 = .ok (.ifCond .le 7, 3) := by decide +kernel
theorem d_Mo_run_67 : decode b_Mo_run 67 = .ok (.iconst 0, 1) := by decide +kernel
theorem d_Mo_run_68 : decode b_Mo_run 68 = .ok (.goto 9, 3) := by decide +kernel
theorem d_Mo_run_71 : decode b_Mo_run 71 = .ok (.aload_n 0, 1) := by decide +kernel
theorem d_Mo_run_72 : decode b_Mo_run 72 = .ok (.getfield 95, 3) := by decide +kernel
theorem d_Mo_run_75 : decode b_Mo_run 75 = .ok (.iload_n 2, 1) := by decide +kernel
theorem d_Mo_run_76 : decode b_Mo_run 76 = .ok (.isub, 1) := by decide +kernel
theorem d_Mo_run_77 : decode b_Mo_run 77 = .ok (.ireturn, 1) := by decide +kernel
theorem d_Mo_leader_0 : decode b_Mo_leader 0 = .ok (.iload_n 1, 1) := by decide +kernel
theorem d_Mo_leader_1 : decode b_Mo_leader 1 = .ok (.ifCond .ne 5, 3) := by decide +kernel
theorem d_Mo_leader_4 : decode b_Mo_leader 4 = .ok (.iconst 1, 1) := by decide +kernel
theorem d_Mo_leader_5 : decode b_Mo_leader 5 = .ok (.ireturn, 1) := by decide +kernel
theorem d_Mo_leader_6 : decode b_Mo_leader 6 = .ok (.aload_n 0, 1) := by decide +kernel
theorem d_Mo_leader_7 : decode b_Mo_leader 7 = .ok (.getfield 7, 3) := by decide +kernel
theorem d_Mo_leader_10 : decode b_Mo_leader 10 = .ok (.iload_n 1, 1) := by decide +kernel
theorem d_Mo_leader_11 : decode b_Mo_leader 11 = .ok (.iconst 1, 1) := by decide +kernel
theorem d_Mo_leader_12 : decode b_Mo_leader 12 = .ok (.isub, 1) := by decide +kernel
theorem d_Mo_leader_13 : decode b_Mo_leader 13 = .ok (.iaload, 1) := by decide +kernel
theorem d_Mo_leader_14 : decode b_Mo_leader 14 = .ok (.ifCond .eq 16, 3) := by decide +kernel
theorem d_Mo_leader_17 : decode b_Mo_leader 17 = .ok (.aload_n 0, 1) := by decide +kernel
theorem d_Mo_leader_18 : decode b_Mo_leader 18 = .ok (.getfield 7, 3) := by decide +kernel
theorem d_Mo_leader_21 : decode b_Mo_leader 21 = .ok (.iload_n 1, 1) := by decide +kernel
theorem d_Mo_leader_22 : decode b_Mo_leader 22 = .ok (.iconst 1, 1) := by decide +kernel
theorem d_Mo_leader_23 : decode b_Mo_leader 23 = .ok (.isub, 1) := by decide +kernel
theorem d_Mo_leader_24 : decode b_Mo_leader 24 = .ok (.iaload, 1) := by decide +kernel
theorem d_Mo_leader_25 : decode b_Mo_leader 25 = .ok (.bipush 16, 2) := by decide +kernel
theorem d_Mo_leader_27 : decode b_Mo_leader 27 = .ok (.if_icmp .le 5, 3) := by decide +kernel
theorem d_Mo_leader_30 : decode b_Mo_leader 30 = .ok (.iconst 1, 1) := by decide +kernel
theorem d_Mo_leader_31 : decode b_Mo_leader 31 = .ok (.ireturn, 1) := by decide +kernel
theorem d_Mo_leader_32 : decode b_Mo_leader 32 = .ok (.iconst 0, 1) := by decide +kernel
theorem d_Mo_leader_33 : decode b_Mo_leader 33 = .ok (.istore_n 2, 1) := by decide +kernel
theorem d_Mo_leader_34 : decode b_Mo_leader 34 = .ok (.iload_n 2, 1) := by decide +kernel
theorem d_Mo_leader_35 : decode b_Mo_leader 35 = .ok (.bipush 24, 2) := by decide +kernel
theorem d_Mo_leader_37 : decode b_Mo_leader 37 = .ok (.if_icmp .ge 35, 3) := by decide +kernel
theorem d_Mo_leader_40 : decode b_Mo_leader 40 = .ok (.aload_n 0, 1) := by decide +kernel
theorem d_Mo_leader_41 : decode b_Mo_leader 41 = .ok (.getfield 7, 3) := by decide +kernel
theorem d_Mo_leader_44 : decode b_Mo_leader 44 = .ok (.iload_n 2, 1) := by decide +kernel
theorem d_Mo_leader_45 : decode b_Mo_leader 45 = .ok (.iaload, 1) := by decide +kernel
theorem d_Mo_leader_46 : decode b_Mo_leader 46 = .ok (.bipush 16, 2) := by decide +kernel
theorem d_Mo_leader_48 : decode b_Mo_leader 48 = .ok (.if_icmp .le 18, 3) := by decide +kernel
theorem d_Mo_leader_51 : decode b_Mo_leader 51 = .ok (.aload_n 0, 1) := by decide +kernel
theorem d_Mo_leader_52 : decode b_Mo_leader 52 = .ok (.getfield 22, 3) := by decide +kernel
theorem d_Mo_leader_55 : decode b_Mo_leader 55 = .ok (.iload_n 2, 1) := by decide +kernel
theorem d_Mo_leader_56 : decode b_Mo_leader 56 = .ok (.iaload, 1) := by decide +kernel
theorem d_Mo_leader_57 : decode b_Mo_leader 57 = .ok (.invokestatic 128, 3) := by decide +kernel
theorem d_Mo_leader_60 : decode b_Mo_leader 60 = .ok (.iload_n 1, 1) := by decide +kernel
theorem d_Mo_leader_61 : decode b_Mo_leader 61 = .ok (.if_icmp .ne 5, 3) := by decide +kernel
theorem d_Mo_leader_64 : decode b_Mo_leader 64 = .ok (.iconst 1, 1) := by decide +kernel
theorem d_Mo_leader_65 : decode b_Mo_leader 65 = .ok (.ireturn, 1) := by decide +kernel
theorem d_Mo_leader_66 : decode b_Mo_leader 66 = .ok (.iinc 2 1, 3) := by decide +kernel
theorem d_Mo_leader_69 : decode b_Mo_leader 69 = .ok (.goto (-35), 3) := by decide +kernel
theorem d_Mo_leader_72 : decode b_Mo_leader 72 = .ok (.iconst 0, 1) := by decide +kernel
theorem d_Mo_leader_73 : decode b_Mo_leader 73 = .ok (.ireturn, 1) := by decide +kernel
theorem d_Mo_reads_0 : decode b_Mo_reads 0 = .ok (.iload_n 2, 1) := by decide +kernel
theorem d_Mo_reads_1 : decode b_Mo_reads 1 = .ok (.ifCond .le 25, 3) := by decide +kernel
theorem d_Mo_reads_4 : decode b_Mo_reads 4 = .ok (.aload_n 0, 1) := by decide +kernel
theorem d_Mo_reads_5 : decode b_Mo_reads 5 = .ok (.iload_n 1, 1) := by decide +kernel
theorem d_Mo_reads_6 : decode b_Mo_reads 6 = .ok (.invokevirtual 148, 3) := by decide +kernel
theorem d_Mo_reads_9 : decode b_Mo_reads 9 = .ok (.iload_n 2, 1) := by decide +kernel
theorem d_Mo_reads_10 : decode b_Mo_reads 10 = .ok (.if_icmp .eq 12, 3) := by decide +kernel
theorem d_Mo_reads_13 : decode b_Mo_reads 13 = .ok (.aload_n 0, 1) := by decide +kernel
theorem d_Mo_reads_14 : decode b_Mo_reads 14 = .ok (.iload_n 1, 1) := by decide +kernel
theorem d_Mo_reads_15 : decode b_Mo_reads 15 = .ok (.invokevirtual 155, 3) := by decide +kernel
theorem d_Mo_reads_18 : decode b_Mo_reads 18 = .ok (.iload_n 2, 1) := by decide +kernel
theorem d_Mo_reads_19 : decode b_Mo_reads 19 = .ok (.if_icmp .ne 7, 3) := by decide +kernel
theorem d_Mo_reads_22 : decode b_Mo_reads 22 = .ok (.iconst 1, 1) := by decide +kernel
theorem d_Mo_reads_23 : decode b_Mo_reads 23 = .ok (.goto 4, 3) := by decide +kernel
theorem d_Mo_reads_26 : decode b_Mo_reads 26 = .ok (.iconst 0, 1) := by decide +kernel
theorem d_Mo_reads_27 : decode b_Mo_reads 27 = .ok (.ireturn, 1) := by decide +kernel
theorem d_Mo_tied_0 : decode b_Mo_tied 0 = .ok (.aload_n 0, 1) := by decide +kernel
theorem d_Mo_tied_1 : decode b_Mo_tied 1 = .ok (.iload_n 1, 1) := by decide +kernel
theorem d_Mo_tied_2 : decode b_Mo_tied 2 = .ok (.invokevirtual 142, 3) := by decide +kernel
theorem d_Mo_tied_5 : decode b_Mo_tied 5 = .ok (.istore_n 3, 1) := by decide +kernel
theorem d_Mo_tied_6 : decode b_Mo_tied 6 = .ok (.aload_n 0, 1) := by decide +kernel
theorem d_Mo_tied_7 : decode b_Mo_tied 7 = .ok (.iload_n 2, 1) := by decide +kernel
theorem d_Mo_tied_8 : decode b_Mo_tied 8 = .ok (.invokevirtual 142, 3) := by decide +kernel
theorem d_Mo_tied_11 : decode b_Mo_tied 11 = .ok (.istore 4, 2) := by decide +kernel
theorem d_Mo_tied_13 : decode b_Mo_tied 13 = .ok (.aload_n 0, 1) := by decide +kernel
theorem d_Mo_tied_14 : decode b_Mo_tied 14 = .ok (.iload_n 2, 1) := by decide +kernel
theorem d_Mo_tied_15 : decode b_Mo_tied 15 = .ok (.iload_n 3, 1) := by decide +kernel
theorem d_Mo_tied_16 : decode b_Mo_tied 16 = .ok (.invokevirtual 168, 3) := by decide +kernel
theorem d_Mo_tied_19 : decode b_Mo_tied 19 = .ok (.ifCond .ne 55, 3) := by decide +kernel
theorem d_Mo_tied_22 : decode b_Mo_tied 22 = .ok (.aload_n 0, 1) := by decide +kernel
theorem d_Mo_tied_23 : decode b_Mo_tied 23 = .ok (.iload_n 1, 1) := by decide +kernel
theorem d_Mo_tied_24 : decode b_Mo_tied 24 = .ok (.iload 4, 2) := by decide +kernel
theorem d_Mo_tied_26 : decode b_Mo_tied 26 = .ok (.invokevirtual 168, 3) := by decide +kernel
theorem d_Mo_tied_29 : decode b_Mo_tied 29 = .ok (.ifCond .ne 45, 3) := by decide +kernel
theorem d_Mo_tied_32 : decode b_Mo_tied 32 = .ok (.iload_n 3, 1) := by decide +kernel
theorem d_Mo_tied_33 : decode b_Mo_tied 33 = .ok (.ifCond .le 9, 3) := by decide +kernel
theorem d_Mo_tied_36 : decode b_Mo_tied 36 = .ok (.iload_n 3, 1) := by decide +kernel
theorem d_Mo_tied_37 : decode b_Mo_tied 37 = .ok (.iload 4, 2) := by decide +kernel
theorem d_Mo_tied_39 : decode b_Mo_tied 39 = .ok (.if_icmp .eq 35, 3) := by decide +kernel
theorem d_Mo_tied_42 : decode b_Mo_tied 42 = .ok (.aload_n 0, 1) := by decide +kernel
theorem d_Mo_tied_43 : decode b_Mo_tied 43 = .ok (.getfield 7, 3) := by decide +kernel
theorem d_Mo_tied_46 : decode b_Mo_tied 46 = .ok (.iload_n 1, 1) := by decide +kernel
theorem d_Mo_tied_47 : decode b_Mo_tied 47 = .ok (.iaload, 1) := by decide +kernel
theorem d_Mo_tied_48 : decode b_Mo_tied 48 = .ok (.bipush 6, 2) := by decide +kernel
theorem d_Mo_tied_50 : decode b_Mo_tied 50 = .ok (.bipush 13, 2) := by decide +kernel
theorem d_Mo_tied_52 : decode b_Mo_tied 52 = .ok (.invokestatic 101, 3) := by decide +kernel
theorem d_Mo_tied_55 : decode b_Mo_tied 55 = .ok (.ifCond .eq 23, 3) := by decide +kernel
theorem d_Mo_tied_58 : decode b_Mo_tied 58 = .ok (.aload_n 0, 1) := by decide +kernel
theorem d_Mo_tied_59 : decode b_Mo_tied 59 = .ok (.getfield 7, 3) := by decide +kernel
theorem d_Mo_tied_62 : decode b_Mo_tied 62 = .ok (.iload_n 2, 1) := by decide +kernel
theorem d_Mo_tied_63 : decode b_Mo_tied 63 = .ok (.iaload, 1) := by decide +kernel
theorem d_Mo_tied_64 : decode b_Mo_tied 64 = .ok (.bipush 6, 2) := by decide +kernel
theorem d_Mo_tied_66 : decode b_Mo_tied 66 = .ok (.bipush 13, 2) := by decide +kernel
theorem d_Mo_tied_68 : decode b_Mo_tied 68 = .ok (.invokestatic 101, 3) := by decide +kernel
theorem d_Mo_tied_71 : decode b_Mo_tied 71 = .ok (.ifCond .eq 7, 3) := by decide +kernel
theorem d_Mo_tied_74 : decode b_Mo_tied 74 = .ok (.iconst 1, 1) := by decide +kernel
theorem d_Mo_tied_75 : decode b_Mo_tied 75 = .ok (.goto 4, 3) := by decide +kernel
theorem d_Mo_tied_78 : decode b_Mo_tied 78 = .ok (.iconst 0, 1) := by decide +kernel
theorem d_Mo_tied_79 : decode b_Mo_tied 79 = .ok (.ireturn, 1) := by decide +kernel
theorem d_Mo_findHeights_0 : decode b_Mo_findHeights 0 = .ok (.iload_n 2, 1) := by decide +kernel
theorem d_Mo_findHeights_1 : decode b_Mo_findHeights 1 = .ok (.iconst 1, 1) := by decide +kernel
theorem d_Mo_findHeights_2 : decode b_Mo_findHeights 2 = .ok (.isub, 1) := by decide +kernel
theorem d_Mo_findHeights_3 : decode b_Mo_findHeights 3 = .ok (.istore_n 3, 1) := by decide +kernel
theorem d_Mo_findHeights_4 : decode b_Mo_findHeights 4 = .ok (.iload_n 3, 1) := by decide +kernel
theorem d_Mo_findHeights_5 : decode b_Mo_findHeights 5 = .ok (.iload_n 1, 1) := by decide +kernel
theorem d_Mo_findHeights_6 : decode b_Mo_findHeights 6 = .ok (.if_icmp .lt 99, 3) := by decide +kernel
theorem d_Mo_findHeights_9 : decode b_Mo_findHeights 9 = .ok (.aload_n 0, 1) := by decide +kernel
theorem d_Mo_findHeights_10 : decode b_Mo_findHeights 10 = .ok (.getfield 50, 3) := by decide +kernel
theorem d_Mo_findHeights_13 : decode b_Mo_findHeights 13 = .ok (.iload_n 3, 1) := by decide +kernel
theorem d_Mo_findHeights_14 : decode b_Mo_findHeights 14 = .ok (.iconst 0, 1) := by decide +kernel
theorem d_Mo_findHeights_15 : decode b_Mo_findHeights 15 = .ok (.iastore, 1) := by decide +kernel
theorem d_Mo_findHeights_16 : decode b_Mo_findHeights 16 = .ok (.aload_n 0, 1) := by decide +kernel
theorem d_Mo_findHeights_17 : decode b_Mo_findHeights 17 = .ok (.getfield 59, 3) := by decide +kernel
theorem d_Mo_findHeights_20 : decode b_Mo_findHeights 20 = .ok (.iload_n 3, 1) := by decide +kernel
theorem d_Mo_findHeights_21 : decode b_Mo_findHeights 21 = .ok (.iconst 0, 1) := by decide +kernel
theorem d_Mo_findHeights_22 : decode b_Mo_findHeights 22 = .ok (.bastore, 1) := by decide +kernel
theorem d_Mo_findHeights_23 : decode b_Mo_findHeights 23 = .ok (.iload_n 3, 1) := by decide +kernel
theorem d_Mo_findHeights_24 : decode b_Mo_findHeights 24 = .ok (.iconst 1, 1) := by decide +kernel
theorem d_Mo_findHeights_25 : decode b_Mo_findHeights 25 = .ok (.iadd, 1) := by decide +kernel
theorem d_Mo_findHeights_26 : decode b_Mo_findHeights 26 = .ok (.istore 4, 2) := by decide +kernel
theorem d_Mo_findHeights_28 : decode b_Mo_findHeights 28 = .ok (.iload 4, 2) := by decide +kernel
theorem d_Mo_findHeights_30 : decode b_Mo_findHeights 30 = .ok (.iload_n 2, 1) := by decide +kernel
theorem d_Mo_findHeights_31 : decode b_Mo_findHeights 31 = .ok (.if_icmp .ge 68, 3) := by decide +kernel
theorem d_Mo_findHeights_34 : decode b_Mo_findHeights 34 = .ok (.aload_n 0, 1) := by decide +kernel
theorem d_Mo_findHeights_35 : decode b_Mo_findHeights 35 = .ok (.iload_n 3, 1) := by decide +kernel
theorem d_Mo_findHeights_36 : decode b_Mo_findHeights 36 = .ok (.iload 4, 2) := by decide +kernel
theorem d_Mo_findHeights_38 : decode b_Mo_findHeights 38 = .ok (.invokevirtual 172, 3) := by decide +kernel
theorem d_Mo_findHeights_41 : decode b_Mo_findHeights 41 = .ok (.ifCond .ne 6, 3) := by decide +kernel
theorem d_Mo_findHeights_44 : decode b_Mo_findHeights 44 = .ok (.goto 49, 3) := by decide +kernel
theorem d_Mo_findHeights_47 : decode b_Mo_findHeights 47 = .ok (.aload_n 0, 1) := by decide +kernel
theorem d_Mo_findHeights_48 : decode b_Mo_findHeights 48 = .ok (.getfield 50, 3) := by decide +kernel
theorem d_Mo_findHeights_51 : decode b_Mo_findHeights 51 = .ok (.iload_n 3, 1) := by decide +kernel
theorem d_Mo_findHeights_52 : decode b_Mo_findHeights 52 = .ok (.aload_n 0, 1) := by decide +kernel
theorem d_Mo_findHeights_53 : decode b_Mo_findHeights 53 = .ok (.getfield 50, 3) := by decide +kernel
theorem d_Mo_findHeights_56 : decode b_Mo_findHeights 56 = .ok (.iload_n 3, 1) := by decide +kernel
theorem d_Mo_findHeights_57 : decode b_Mo_findHeights 57 = .ok (.iaload, 1) := by decide +kernel
theorem d_Mo_findHeights_58 : decode b_Mo_findHeights 58 = .ok (.aload_n 0, 1) := by decide +kernel
theorem d_Mo_findHeights_59 : decode b_Mo_findHeights 59 = .ok (.getfield 50, 3) := by decide +kernel
theorem d_Mo_findHeights_62 : decode b_Mo_findHeights 62 = .ok (.iload 4, 2) := by decide +kernel
theorem d_Mo_findHeights_64 : decode b_Mo_findHeights 64 = .ok (.iaload, 1) := by decide +kernel
theorem d_Mo_findHeights_65 : decode b_Mo_findHeights 65 = .ok (.aload_n 0, 1) := by decide +kernel
theorem d_Mo_findHeights_66 : decode b_Mo_findHeights 66 = .ok (.iload 4, 2) := by decide +kernel
theorem d_Mo_findHeights_68 : decode b_Mo_findHeights 68 = .ok (.aload_n 0, 1) := by decide +kernel
theorem d_Mo_findHeights_69 : decode b_Mo_findHeights 69 = .ok (.iload_n 3, 1) := by decide +kernel
theorem d_Mo_findHeights_70 : decode b_Mo_findHeights 70 = .ok (.invokevirtual 142, 3) := by decide +kernel
theorem d_Mo_findHeights_73 : decode b_Mo_findHeights 73 = .ok (.invokevirtual 168, 3) := by decide +kernel
theorem d_Mo_findHeights_76 : decode b_Mo_findHeights 76 = .ok (.ifCond .eq 11, 3) := by decide +kernel
theorem d_Mo_findHeights_79 : decode b_Mo_findHeights 79 = .ok (.aload_n 0, 1) := by decide +kernel
theorem d_Mo_findHeights_80 : decode b_Mo_findHeights 80 = .ok (.iload_n 3, 1) := by decide +kernel
theorem d_Mo_findHeights_81 : decode b_Mo_findHeights 81 = .ok (.invokevirtual 145, 3) := by decide +kernel
theorem d_Mo_findHeights_84 : decode b_Mo_findHeights 84 = .ok (.goto 4, 3) := by decide +kernel
theorem d_Mo_findHeights_87 : decode b_Mo_findHeights 87 = .ok (.iconst 1, 1) := by decide +kernel
theorem d_Mo_findHeights_88 : decode b_Mo_findHeights 88 = .ok (.iadd, 1) := by decide +kernel
theorem d_Mo_findHeights_89 : decode b_Mo_findHeights 89 = .ok (.invokestatic 151, 3) := by decide +kernel
theorem d_Mo_findHeights_92 : decode b_Mo_findHeights 92 = .ok (.iastore, 1) := by decide +kernel
theorem d_Mo_findHeights_93 : decode b_Mo_findHeights 93 = .ok (.iinc 4 1, 3) := by decide +kernel
theorem d_Mo_findHeights_96 : decode b_Mo_findHeights 96 = .ok (.goto (-68), 3) := by decide +kernel
theorem d_Mo_findHeights_99 : decode b_Mo_findHeights 99 = .ok (.iinc 3 (-1), 3) := by decide +kernel
theorem d_Mo_findHeights_102 : decode b_Mo_findHeights 102 = .ok (.goto (-98), 3) := by decide +kernel
theorem d_Mo_findHeights_105 : decode b_Mo_findHeights 105 = .ok (.return_, 1) := by decide +kernel
theorem d_Mo_free_0 : decode b_Mo_free 0 = .ok (.aload_n 0, 1) := by decide +kernel
theorem d_Mo_free_1 : decode b_Mo_free 1 = .ok (.getfield 59, 3) := by decide +kernel
theorem d_Mo_free_4 : decode b_Mo_free 4 = .ok (.iload_n 1, 1) := by decide +kernel
theorem d_Mo_free_5 : decode b_Mo_free 5 = .ok (.baload, 1) := by decide +kernel
theorem d_Mo_free_6 : decode b_Mo_free 6 = .ok (.ifCond .eq 5, 3) := by decide +kernel
theorem d_Mo_free_9 : decode b_Mo_free 9 = .ok (.iconst 0, 1) := by decide +kernel
theorem d_Mo_free_10 : decode b_Mo_free 10 = .ok (.ireturn, 1) := by decide +kernel
theorem d_Mo_free_11 : decode b_Mo_free 11 = .ok (.iload_n 2, 1) := by decide +kernel
theorem d_Mo_free_12 : decode b_Mo_free 12 = .ok (.istore_n 3, 1) := by decide +kernel
theorem d_Mo_free_13 : decode b_Mo_free 13 = .ok (.iload_n 3, 1) := by decide +kernel
theorem d_Mo_free_14 : decode b_Mo_free 14 = .ok (.iload_n 1, 1) := by decide +kernel
theorem d_Mo_free_15 : decode b_Mo_free 15 = .ok (.if_icmp .ge 29, 3) := by decide +kernel
theorem d_Mo_free_18 : decode b_Mo_free 18 = .ok (.aload_n 0, 1) := by decide +kernel
theorem d_Mo_free_19 : decode b_Mo_free 19 = .ok (.getfield 59, 3) := by decide +kernel
theorem d_Mo_free_22 : decode b_Mo_free 22 = .ok (.iload_n 3, 1) := by decide +kernel
theorem d_Mo_free_23 : decode b_Mo_free 23 = .ok (.baload, 1) := by decide +kernel
theorem d_Mo_free_24 : decode b_Mo_free 24 = .ok (.ifCond .ne 14, 3) := by decide +kernel
theorem d_Mo_free_27 : decode b_Mo_free 27 = .ok (.aload_n 0, 1) := by decide +kernel
theorem d_Mo_free_28 : decode b_Mo_free 28 = .ok (.iload_n 3, 1) := by decide +kernel
theorem d_Mo_free_29 : decode b_Mo_free 29 = .ok (.iload_n 1, 1) := by decide +kernel
theorem d_Mo_free_30 : decode b_Mo_free 30 = .ok (.invokevirtual 172, 3) := by decide +kernel
theorem d_Mo_free_33 : decode b_Mo_free 33 = .ok (.ifCond .eq 5, 3) := by decide +kernel
theorem d_Mo_free_36 : decode b_Mo_free 36 = .ok (.iconst 0, 1) := by decide +kernel
theorem d_Mo_free_37 : decode b_Mo_free 37 = .ok (.ireturn, 1) := by decide +kernel
theorem d_Mo_free_38 : decode b_Mo_free 38 = .ok (.iinc 3 1, 3) := by decide +kernel
theorem d_Mo_free_41 : decode b_Mo_free 41 = .ok (.goto (-28), 3) := by decide +kernel
theorem d_Mo_free_44 : decode b_Mo_free 44 = .ok (.iconst 1, 1) := by decide +kernel
theorem d_Mo_free_45 : decode b_Mo_free 45 = .ok (.ireturn, 1) := by decide +kernel
theorem d_Mo_move_0 : decode b_Mo_move 0 = .ok (.aload_n 0, 1) := by decide +kernel
theorem d_Mo_move_1 : decode b_Mo_move 1 = .ok (.getfield 56, 3) := by decide +kernel
theorem d_Mo_move_4 : decode b_Mo_move 4 = .ok (.iload_n 1, 1) := by decide +kernel
theorem d_Mo_move_5 : decode b_Mo_move 5 = .ok (.iconst 5, 1) := by decide +kernel
theorem d_Mo_move_6 : decode b_Mo_move 6 = .ok (.imul, 1) := by decide +kernel
theorem d_Mo_move_7 : decode b_Mo_move 7 = .ok (.aload_n 0, 1) := by decide +kernel
theorem d_Mo_move_8 : decode b_Mo_move 8 = .ok (.getfield 7, 3) := by decide +kernel
theorem d_Mo_move_11 : decode b_Mo_move 11 = .ok (.iload_n 2, 1) := by decide +kernel
theorem d_Mo_move_12 : decode b_Mo_move 12 = .ok (.iaload, 1) := by decide +kernel
theorem d_Mo_move_13 : decode b_Mo_move 13 = .ok (.iastore, 1) := by decide +kernel
theorem d_Mo_move_14 : decode b_Mo_move 14 = .ok (.aload_n 0, 1) := by decide +kernel
theorem d_Mo_move_15 : decode b_Mo_move 15 = .ok (.getfield 56, 3) := by decide +kernel
theorem d_Mo_move_18 : decode b_Mo_move 18 = .ok (.iload_n 1, 1) := by decide +kernel
theorem d_Mo_move_19 : decode b_Mo_move 19 = .ok (.iconst 5, 1) := by decide +kernel
theorem d_Mo_move_20 : decode b_Mo_move 20 = .ok (.imul, 1) := by decide +kernel
theorem d_Mo_move_21 : decode b_Mo_move 21 = .ok (.iconst 1, 1) := by decide +kernel
theorem d_Mo_move_22 : decode b_Mo_move 22 = .ok (.iadd, 1) := by decide +kernel
theorem d_Mo_move_23 : decode b_Mo_move 23 = .ok (.aload_n 0, 1) := by decide +kernel
theorem d_Mo_move_24 : decode b_Mo_move 24 = .ok (.getfield 13, 3) := by decide +kernel
theorem d_Mo_move_27 : decode b_Mo_move 27 = .ok (.iload_n 2, 1) := by decide +kernel
theorem d_Mo_move_28 : decode b_Mo_move 28 = .ok (.iaload, 1) := by decide +kernel
theorem d_Mo_move_29 : decode b_Mo_move 29 = .ok (.iastore, 1) := by decide +kernel
theorem d_Mo_move_30 : decode b_Mo_move 30 = .ok (.aload_n 0, 1) := by decide +kernel
theorem d_Mo_move_31 : decode b_Mo_move 31 = .ok (.getfield 56, 3) := by decide +kernel
theorem d_Mo_move_34 : decode b_Mo_move 34 = .ok (.iload_n 1, 1) := by decide +kernel
theorem d_Mo_move_35 : decode b_Mo_move 35 = .ok (.iconst 5, 1) := by decide +kernel
theorem d_Mo_move_36 : decode b_Mo_move 36 = .ok (.imul, 1) := by decide +kernel
theorem d_Mo_move_37 : decode b_Mo_move 37 = .ok (.iconst 2, 1) := by decide +kernel
theorem d_Mo_move_38 : decode b_Mo_move 38 = .ok (.iadd, 1) := by decide +kernel
theorem d_Mo_move_39 : decode b_Mo_move 39 = .ok (.aload_n 0, 1) := by decide +kernel
theorem d_Mo_move_40 : decode b_Mo_move 40 = .ok (.getfield 16, 3) := by decide +kernel
theorem d_Mo_move_43 : decode b_Mo_move 43 = .ok (.iload_n 2, 1) := by decide +kernel
theorem d_Mo_move_44 : decode b_Mo_move 44 = .ok (.iaload, 1) := by decide +kernel
theorem d_Mo_move_45 : decode b_Mo_move 45 = .ok (.iastore, 1) := by decide +kernel
theorem d_Mo_move_46 : decode b_Mo_move 46 = .ok (.aload_n 0, 1) := by decide +kernel
theorem d_Mo_move_47 : decode b_Mo_move 47 = .ok (.getfield 56, 3) := by decide +kernel
theorem d_Mo_move_50 : decode b_Mo_move 50 = .ok (.iload_n 1, 1) := by decide +kernel
theorem d_Mo_move_51 : decode b_Mo_move 51 = .ok (.iconst 5, 1) := by decide +kernel
theorem d_Mo_move_52 : decode b_Mo_move 52 = .ok (.imul, 1) := by decide +kernel
theorem d_Mo_move_53 : decode b_Mo_move 53 = .ok (.iconst 3, 1) := by decide +kernel
theorem d_Mo_move_54 : decode b_Mo_move 54 = .ok (.iadd, 1) := by decide +kernel
theorem d_Mo_move_55 : decode b_Mo_move 55 = .ok (.aload_n 0, 1) := by decide +kernel
theorem d_Mo_move_56 : decode b_Mo_move 56 = .ok (.getfield 19, 3) := by decide +kernel
theorem d_Mo_move_59 : decode b_Mo_move 59 = .ok (.iload_n 2, 1) := by decide +kernel
theorem d_Mo_move_60 : decode b_Mo_move 60 = .ok (.iaload, 1) := by decide +kernel
theorem d_Mo_move_61 : decode b_Mo_move 61 = .ok (.iastore, 1) := by decide +kernel
theorem d_Mo_move_62 : decode b_Mo_move 62 = .ok (.aload_n 0, 1) := by decide +kernel
theorem d_Mo_move_63 : decode b_Mo_move 63 = .ok (.getfield 56, 3) := by decide +kernel
theorem d_Mo_move_66 : decode b_Mo_move 66 = .ok (.iload_n 1, 1) := by decide +kernel
theorem d_Mo_move_67 : decode b_Mo_move 67 = .ok (.iconst 5, 1) := by decide +kernel
theorem d_Mo_move_68 : decode b_Mo_move 68 = .ok (.imul, 1) := by decide +kernel
theorem d_Mo_move_69 : decode b_Mo_move 69 = .ok (.iconst 4, 1) := by decide +kernel
theorem d_Mo_move_70 : decode b_Mo_move 70 = .ok (.iadd, 1) := by decide +kernel
theorem d_Mo_move_71 : decode b_Mo_move 71 = .ok (.aload_n 0, 1) := by decide +kernel
theorem d_Mo_move_72 : decode b_Mo_move 72 = .ok (.getfield 22, 3) := by decide +kernel
theorem d_Mo_move_75 : decode b_Mo_move 75 = .ok (.iload_n 2, 1) := by decide +kernel
theorem d_Mo_move_76 : decode b_Mo_move 76 = .ok (.iaload, 1) := by decide +kernel
theorem d_Mo_move_77 : decode b_Mo_move 77 = .ok (.iastore, 1) := by decide +kernel
theorem d_Mo_move_78 : decode b_Mo_move 78 = .ok (.return_, 1) := by decide +kernel
theorem d_Mo_schedule_0 : decode b_Mo_schedule 0 = .ok (.aload_n 0, 1) := by decide +kernel
theorem d_Mo_schedule_1 : decode b_Mo_schedule 1 = .ok (.iconst 0, 1) := by decide +kernel
theorem d_Mo_schedule_2 : decode b_Mo_schedule 2 = .ok (.putfield 74, 3) := by decide +kernel
theorem d_Mo_schedule_5 : decode b_Mo_schedule 5 = .ok (.iconst 0, 1) := by decide +kernel
theorem d_Mo_schedule_6 : decode b_Mo_schedule 6 = .ok (.istore_n 1, 1) := by decide +kernel
theorem d_Mo_schedule_7 : decode b_Mo_schedule 7 = .ok (.iconst 0, 1) := by decide +kernel
theorem d_Mo_schedule_8 : decode b_Mo_schedule 8 = .ok (.istore_n 2, 1) := by decide +kernel
theorem d_Mo_schedule_9 : decode b_Mo_schedule 9 = .ok (.iconst 0, 1) := by decide +kernel
theorem d_Mo_schedule_10 : decode b_Mo_schedule 10 = .ok (.istore_n 3, 1) := by decide +kernel
theorem d_Mo_schedule_11 : decode b_Mo_schedule 11 = .ok (.iload_n 3, 1) := by decide +kernel
theorem d_Mo_schedule_12 : decode b_Mo_schedule 12 = .ok (.bipush 24, 2) := by decide +kernel
theorem d_Mo_schedule_14 : decode b_Mo_schedule 14 = .ok (.if_icmp .ge 16, 3) := by decide +kernel
theorem d_Mo_schedule_17 : decode b_Mo_schedule 17 = .ok (.aload_n 0, 1) := by decide +kernel
theorem d_Mo_schedule_18 : decode b_Mo_schedule 18 = .ok (.getfield 53, 3) := by decide +kernel
theorem d_Mo_schedule_21 : decode b_Mo_schedule 21 = .ok (.iload_n 3, 1) := by decide +kernel
theorem d_Mo_schedule_22 : decode b_Mo_schedule 22 = .ok (.iload_n 3, 1) := by decide +kernel
theorem d_Mo_schedule_23 : decode b_Mo_schedule 23 = .ok (.iastore, 1) := by decide +kernel
theorem d_Mo_schedule_24 : decode b_Mo_schedule 24 = .ok (.iinc 3 1, 3) := by decide +kernel
theorem d_Mo_schedule_27 : decode b_Mo_schedule 27 = .ok (.goto (-16), 3) := by decide +kernel
theorem d_Mo_schedule_30 : decode b_Mo_schedule 30 = .ok (.iload_n 2, 1) := by decide +kernel
theorem d_Mo_schedule_31 : decode b_Mo_schedule 31 = .ok (.bipush 24, 2) := by decide +kernel
theorem d_Mo_schedule_33 : decode b_Mo_schedule 33 = .ok (.if_icmp .ge 168, 3) := by decide +kernel
theorem d_Mo_schedule_36 : decode b_Mo_schedule 36 = .ok (.iload_n 2, 1) := by decide +kernel
theorem d_Mo_schedule_37 : decode b_Mo_schedule 37 = .ok (.istore_n 3, 1) := by decide +kernel
theorem d_Mo_schedule_38 : decode b_Mo_schedule 38 = .ok (.iload_n 3, 1) := by decide +kernel
theorem d_Mo_schedule_39 : decode b_Mo_schedule 39 = .ok (.bipush 24, 2) := by decide +kernel
theorem d_Mo_schedule_41 : decode b_Mo_schedule 41 = .ok (.if_icmp .ge 42, 3) := by decide +kernel
theorem d_Mo_schedule_44 : decode b_Mo_schedule 44 = .ok (.aload_n 0, 1) := by decide +kernel
theorem d_Mo_schedule_45 : decode b_Mo_schedule 45 = .ok (.getfield 7, 3) := by decide +kernel
theorem d_Mo_schedule_48 : decode b_Mo_schedule 48 = .ok (.iload_n 3, 1) := by decide +kernel
theorem d_Mo_schedule_49 : decode b_Mo_schedule 49 = .ok (.iaload, 1) := by decide +kernel
theorem d_Mo_schedule_50 : decode b_Mo_schedule 50 = .ok (.ifCond .le 33, 3) := by decide +kernel
theorem d_Mo_schedule_53 : decode b_Mo_schedule 53 = .ok (.aload_n 0, 1) := by decide +kernel
theorem d_Mo_schedule_54 : decode b_Mo_schedule 54 = .ok (.getfield 7, 3) := by decide +kernel
theorem d_Mo_schedule_57 : decode b_Mo_schedule 57 = .ok (.iload_n 3, 1) := by decide +kernel
theorem d_Mo_schedule_58 : decode b_Mo_schedule 58 = .ok (.iaload, 1) := by decide +kernel
theorem d_Mo_schedule_59 : decode b_Mo_schedule 59 = .ok (.bipush 17, 2) := by decide +kernel
theorem d_Mo_schedule_61 : decode b_Mo_schedule 61 = .ok (.if_icmp .ge 22, 3) := by decide +kernel
theorem d_Mo_schedule_64 : decode b_Mo_schedule 64 = .ok (.iload_n 3, 1) := by decide +kernel
theorem d_Mo_schedule_65 : decode b_Mo_schedule 65 = .ok (.iload_n 2, 1) := by decide +kernel
theorem d_Mo_schedule_66 : decode b_Mo_schedule 66 = .ok (.if_icmp .eq 11, 3) := by decide +kernel
theorem d_Mo_schedule_69 : decode b_Mo_schedule 69 = .ok (.aload_n 0, 1) := by decide +kernel
theorem d_Mo_schedule_70 : decode b_Mo_schedule 70 = .ok (.iload_n 3, 1) := by decide +kernel
theorem d_Mo_schedule_71 : decode b_Mo_schedule 71 = .ok (.invokevirtual 175, 3) := by decide +kernel
theorem d_Mo_schedule_74 : decode b_Mo_schedule 74 = .ok (.ifCond .ne 9, 3) := by decide +kernel
theorem d_Mo_schedule_77 : decode b_Mo_schedule 77 = .ok (.iinc 3 1, 3) := by decide +kernel
theorem d_Mo_schedule_80 : decode b_Mo_schedule 80 = .ok (.goto (-42), 3) := by decide +kernel
theorem d_Mo_schedule_83 : decode b_Mo_schedule 83 = .ok (.aload_n 0, 1) := by decide +kernel
theorem d_Mo_schedule_84 : decode b_Mo_schedule 84 = .ok (.iload_n 2, 1) := by decide +kernel
theorem d_Mo_schedule_85 : decode b_Mo_schedule 85 = .ok (.iload_n 3, 1) := by decide +kernel
theorem d_Mo_schedule_86 : decode b_Mo_schedule 86 = .ok (.invokevirtual 178, 3) := by decide +kernel
theorem d_Mo_schedule_89 : decode b_Mo_schedule 89 = .ok (.iload_n 2, 1) := by decide +kernel
theorem d_Mo_schedule_90 : decode b_Mo_schedule 90 = .ok (.istore 4, 2) := by decide +kernel
theorem d_Mo_schedule_92 : decode b_Mo_schedule 92 = .ok (.iload 4, 2) := by decide +kernel
theorem d_Mo_schedule_94 : decode b_Mo_schedule 94 = .ok (.iload_n 3, 1) := by decide +kernel
theorem d_Mo_schedule_95 : decode b_Mo_schedule 95 = .ok (.if_icmp .ge 90, 3) := by decide +kernel
theorem d_Mo_schedule_98 : decode b_Mo_schedule 98 = .ok (.iconst (-1), 1) := by decide +kernel
theorem d_Mo_schedule_99 : decode b_Mo_schedule 99 = .ok (.istore 5, 2) := by decide +kernel
theorem d_Mo_schedule_101 : decode b_Mo_schedule 101 = .ok (.iload_n 2, 1) := by decide +kernel
theorem d_Mo_schedule_102 : decode b_Mo_schedule 102 = .ok (.istore 6, 2) := by decide +kernel
theorem d_Mo_schedule_104 : decode b_Mo_schedule 104 = .ok (.iload 6, 2) := by decide +kernel
theorem d_Mo_schedule_106 : decode b_Mo_schedule 106 = .ok (.iload_n 3, 1) := by decide +kernel
theorem d_Mo_schedule_107 : decode b_Mo_schedule 107 = .ok (.if_icmp .ge 45, 3) := by decide +kernel
theorem d_Mo_schedule_110 : decode b_Mo_schedule 110 = .ok (.aload_n 0, 1) := by decide +kernel
theorem d_Mo_schedule_111 : decode b_Mo_schedule 111 = .ok (.iload 6, 2) := by decide +kernel
theorem d_Mo_schedule_113 : decode b_Mo_schedule 113 = .ok (.iload_n 2, 1) := by decide +kernel
theorem d_Mo_schedule_114 : decode b_Mo_schedule 114 = .ok (.invokevirtual 181, 3) := by decide +kernel
theorem d_Mo_schedule_117 : decode b_Mo_schedule 117 = .ok (.ifCond .eq 29, 3) := by decide +kernel
theorem d_Mo_schedule_120 : decode b_Mo_schedule 120 = .ok (.iload 5, 2) := by decide +kernel
theorem d_Mo_schedule_122 : decode b_Mo_schedule 122 = .ok (.ifCond .lt 20, 3) := by decide +kernel
theorem d_Mo_schedule_125 : decode b_Mo_schedule 125 = .ok (.aload_n 0, 1) := by decide +kernel
theorem d_Mo_schedule_126 : decode b_Mo_schedule 126 = .ok (.getfield 50, 3) := by decide +kernel
theorem d_Mo_schedule_129 : decode b_Mo_schedule 129 = .ok (.iload 6, 2) := by decide +kernel
theorem d_Mo_schedule_131 : decode b_Mo_schedule 131 = .ok (.iaload, 1) := by decide +kernel
theorem d_Mo_schedule_132 : decode b_Mo_schedule 132 = .ok (.aload_n 0, 1) := by decide +kernel
theorem d_Mo_schedule_133 : decode b_Mo_schedule 133 = .ok (.getfield 50, 3) := by decide +kernel
theorem d_Mo_schedule_136 : decode b_Mo_schedule 136 = .ok (.iload 5, 2) := by decide +kernel
theorem d_Mo_schedule_138 : decode b_Mo_schedule 138 = .ok (.iaload, 1) := by decide +kernel
theorem d_Mo_schedule_139 : decode b_Mo_schedule 139 = .ok (.if_icmp .le 7, 3) := by decide +kernel
theorem d_Mo_schedule_142 : decode b_Mo_schedule 142 = .ok (.iload 6, 2) := by decide +kernel
theorem d_Mo_schedule_144 : decode b_Mo_schedule 144 = .ok (.istore 5, 2) := by decide +kernel
theorem d_Mo_schedule_146 : decode b_Mo_schedule 146 = .ok (.iinc 6 1, 3) := by decide +kernel
theorem d_Mo_schedule_149 : decode b_Mo_schedule 149 = .ok (.goto (-45), 3) := by decide +kernel
theorem d_Mo_schedule_152 : decode b_Mo_schedule 152 = .ok (.aload_n 0, 1) := by decide +kernel
theorem d_Mo_schedule_153 : decode b_Mo_schedule 153 = .ok (.getfield 59, 3) := by decide +kernel
theorem d_Mo_schedule_156 : decode b_Mo_schedule 156 = .ok (.iload 5, 2) := by decide +kernel
theorem d_Mo_schedule_158 : decode b_Mo_schedule 158 = .ok (.iconst 1, 1) := by decide +kernel
theorem d_Mo_schedule_159 : decode b_Mo_schedule 159 = .ok (.bastore, 1) := by decide +kernel
theorem d_Mo_schedule_160 : decode b_Mo_schedule 160 = .ok (.aload_n 0, 1) := by decide +kernel
theorem d_Mo_schedule_161 : decode b_Mo_schedule 161 = .ok (.getfield 53, 3) := by decide +kernel
theorem d_Mo_schedule_164 : decode b_Mo_schedule 164 = .ok (.iload 4, 2) := by decide +kernel
theorem d_Mo_schedule_166 : decode b_Mo_schedule 166 = .ok (.iload 5, 2) := by decide +kernel
theorem d_Mo_schedule_168 : decode b_Mo_schedule 168 = .ok (.iastore, 1) := by decide +kernel
theorem d_Mo_schedule_169 : decode b_Mo_schedule 169 = .ok (.iload 5, 2) := by decide +kernel
theorem d_Mo_schedule_171 : decode b_Mo_schedule 171 = .ok (.iload 4, 2) := by decide +kernel
theorem d_Mo_schedule_173 : decode b_Mo_schedule 173 = .ok (.if_icmp .eq 6, 3) := by decide +kernel
theorem d_Mo_schedule_176 : decode b_Mo_schedule 176 = .ok (.iinc 1 1, 3) := by decide +kernel
theorem d_Mo_schedule_179 : decode b_Mo_schedule 179 = .ok (.iinc 4 1, 3) := by decide +kernel
theorem d_Mo_schedule_182 : decode b_Mo_schedule 182 = .ok (.goto (-90), 3) := by decide +kernel
theorem d_Mo_schedule_185 : decode b_Mo_schedule 185 = .ok (.iload_n 3, 1) := by decide +kernel
theorem d_Mo_schedule_186 : decode b_Mo_schedule 186 = .ok (.iload_n 2, 1) := by decide +kernel
theorem d_Mo_schedule_187 : decode b_Mo_schedule 187 = .ok (.if_icmp .le 7, 3) := by decide +kernel
theorem d_Mo_schedule_190 : decode b_Mo_schedule 190 = .ok (.iload_n 3, 1) := by decide +kernel
theorem d_Mo_schedule_191 : decode b_Mo_schedule 191 = .ok (.goto 6, 3) := by decide +kernel
theorem d_Mo_schedule_194 : decode b_Mo_schedule 194 = .ok (.iload_n 2, 1) := by decide +kernel
theorem d_Mo_schedule_195 : decode b_Mo_schedule 195 = .ok (.iconst 1, 1) := by decide +kernel
theorem d_Mo_schedule_196 : decode b_Mo_schedule 196 = .ok (.iadd, 1) := by decide +kernel
theorem d_Mo_schedule_197 : decode b_Mo_schedule 197 = .ok (.istore_n 2, 1) := by decide +kernel
theorem d_Mo_schedule_198 : decode b_Mo_schedule 198 = .ok (.goto (-168), 3) := by decide +kernel
theorem d_Mo_schedule_201 : decode b_Mo_schedule 201 = .ok (.iconst 0, 1) := by decide +kernel
theorem d_Mo_schedule_202 : decode b_Mo_schedule 202 = .ok (.istore_n 3, 1) := by decide +kernel
theorem d_Mo_schedule_203 : decode b_Mo_schedule 203 = .ok (.iload_n 3, 1) := by decide +kernel
theorem d_Mo_schedule_204 : decode b_Mo_schedule 204 = .ok (.bipush 24, 2) := by decide +kernel
theorem d_Mo_schedule_206 : decode b_Mo_schedule 206 = .ok (.if_icmp .ge 20, 3) := by decide +kernel
theorem d_Mo_schedule_209 : decode b_Mo_schedule 209 = .ok (.aload_n 0, 1) := by decide +kernel
theorem d_Mo_schedule_210 : decode b_Mo_schedule 210 = .ok (.iload_n 3, 1) := by decide +kernel
theorem d_Mo_schedule_211 : decode b_Mo_schedule 211 = .ok (.aload_n 0, 1) := by decide +kernel
theorem d_Mo_schedule_212 : decode b_Mo_schedule 212 = .ok (.getfield 53, 3) := by decide +kernel
theorem d_Mo_schedule_215 : decode b_Mo_schedule 215 = .ok (.iload_n 3, 1) := by decide +kernel
theorem d_Mo_schedule_216 : decode b_Mo_schedule 216 = .ok (.iaload, 1) := by decide +kernel
theorem d_Mo_schedule_217 : decode b_Mo_schedule 217 = .ok (.invokevirtual 184, 3) := by decide +kernel
theorem d_Mo_schedule_220 : decode b_Mo_schedule 220 = .ok (.iinc 3 1, 3) := by decide +kernel
theorem d_Mo_schedule_223 : decode b_Mo_schedule 223 = .ok (.goto (-20), 3) := by decide +kernel
theorem d_Mo_schedule_226 : decode b_Mo_schedule 226 = .ok (.iconst 0, 1) := by decide +kernel
theorem d_Mo_schedule_227 : decode b_Mo_schedule 227 = .ok (.istore_n 3, 1) := by decide +kernel
theorem d_Mo_schedule_228 : decode b_Mo_schedule 228 = .ok (.iload_n 3, 1) := by decide +kernel
theorem d_Mo_schedule_229 : decode b_Mo_schedule 229 = .ok (.bipush 24, 2) := by decide +kernel
theorem d_Mo_schedule_231 : decode b_Mo_schedule 231 = .ok (.if_icmp .ge 87, 3) := by decide +kernel
theorem d_Mo_schedule_234 : decode b_Mo_schedule 234 = .ok (.aload_n 0, 1) := by decide +kernel
theorem d_Mo_schedule_235 : decode b_Mo_schedule 235 = .ok (.getfield 7, 3) := by decide +kernel
theorem d_Mo_schedule_238 : decode b_Mo_schedule 238 = .ok (.iload_n 3, 1) := by decide +kernel
theorem d_Mo_schedule_239 : decode b_Mo_schedule 239 = .ok (.aload_n 0, 1) := by decide +kernel
theorem d_Mo_schedule_240 : decode b_Mo_schedule 240 = .ok (.getfield 56, 3) := by decide +kernel
theorem d_Mo_schedule_243 : decode b_Mo_schedule 243 = .ok (.iload_n 3, 1) := by decide +kernel
theorem d_Mo_schedule_244 : decode b_Mo_schedule 244 = .ok (.iconst 5, 1) := by decide +kernel
theorem d_Mo_schedule_245 : decode b_Mo_schedule 245 = .ok (.imul, 1) := by decide +kernel
theorem d_Mo_schedule_246 : decode b_Mo_schedule 246 = .ok (.iaload, 1) := by decide +kernel
theorem d_Mo_schedule_247 : decode b_Mo_schedule 247 = .ok (.iastore, 1) := by decide +kernel
theorem d_Mo_schedule_248 : decode b_Mo_schedule 248 = .ok (.aload_n 0, 1) := by decide +kernel
theorem d_Mo_schedule_249 : decode b_Mo_schedule 249 = .ok (.getfield 13, 3) := by decide +kernel
theorem d_Mo_schedule_252 : decode b_Mo_schedule 252 = .ok (.iload_n 3, 1) := by decide +kernel
theorem d_Mo_schedule_253 : decode b_Mo_schedule 253 = .ok (.aload_n 0, 1) := by decide +kernel
theorem d_Mo_schedule_254 : decode b_Mo_schedule 254 = .ok (.getfield 56, 3) := by decide +kernel
theorem d_Mo_schedule_257 : decode b_Mo_schedule 257 = .ok (.iload_n 3, 1) := by decide +kernel
theorem d_Mo_schedule_258 : decode b_Mo_schedule 258 = .ok (.iconst 5, 1) := by decide +kernel
theorem d_Mo_schedule_259 : decode b_Mo_schedule 259 = .ok (.imul, 1) := by decide +kernel
theorem d_Mo_schedule_260 : decode b_Mo_schedule 260 = .ok (.iconst 1, 1) := by decide +kernel
theorem d_Mo_schedule_261 : decode b_Mo_schedule 261 = .ok (.iadd, 1) := by decide +kernel
theorem d_Mo_schedule_262 : decode b_Mo_schedule 262 = .ok (.iaload, 1) := by decide +kernel
theorem d_Mo_schedule_263 : decode b_Mo_schedule 263 = .ok (.iastore, 1) := by decide +kernel
theorem d_Mo_schedule_264 : decode b_Mo_schedule 264 = .ok (.aload_n 0, 1) := by decide +kernel
theorem d_Mo_schedule_265 : decode b_Mo_schedule 265 = .ok (.getfield 16, 3) := by decide +kernel
theorem d_Mo_schedule_268 : decode b_Mo_schedule 268 = .ok (.iload_n 3, 1) := by decide +kernel
theorem d_Mo_schedule_269 : decode b_Mo_schedule 269 = .ok (.aload_n 0, 1) := by decide +kernel
theorem d_Mo_schedule_270 : decode b_Mo_schedule 270 = .ok (.getfield 56, 3) := by decide +kernel
theorem d_Mo_schedule_273 : decode b_Mo_schedule 273 = .ok (.iload_n 3, 1) := by decide +kernel
theorem d_Mo_schedule_274 : decode b_Mo_schedule 274 = .ok (.iconst 5, 1) := by decide +kernel
theorem d_Mo_schedule_275 : decode b_Mo_schedule 275 = .ok (.imul, 1) := by decide +kernel
theorem d_Mo_schedule_276 : decode b_Mo_schedule 276 = .ok (.iconst 2, 1) := by decide +kernel
theorem d_Mo_schedule_277 : decode b_Mo_schedule 277 = .ok (.iadd, 1) := by decide +kernel
theorem d_Mo_schedule_278 : decode b_Mo_schedule 278 = .ok (.iaload, 1) := by decide +kernel
theorem d_Mo_schedule_279 : decode b_Mo_schedule 279 = .ok (.iastore, 1) := by decide +kernel
theorem d_Mo_schedule_280 : decode b_Mo_schedule 280 = .ok (.aload_n 0, 1) := by decide +kernel
theorem d_Mo_schedule_281 : decode b_Mo_schedule 281 = .ok (.getfield 19, 3) := by decide +kernel
theorem d_Mo_schedule_284 : decode b_Mo_schedule 284 = .ok (.iload_n 3, 1) := by decide +kernel
theorem d_Mo_schedule_285 : decode b_Mo_schedule 285 = .ok (.aload_n 0, 1) := by decide +kernel
theorem d_Mo_schedule_286 : decode b_Mo_schedule 286 = .ok (.getfield 56, 3) := by decide +kernel
theorem d_Mo_schedule_289 : decode b_Mo_schedule 289 = .ok (.iload_n 3, 1) := by decide +kernel
theorem d_Mo_schedule_290 : decode b_Mo_schedule 290 = .ok (.iconst 5, 1) := by decide +kernel
theorem d_Mo_schedule_291 : decode b_Mo_schedule 291 = .ok (.imul, 1) := by decide +kernel
theorem d_Mo_schedule_292 : decode b_Mo_schedule 292 = .ok (.iconst 3, 1) := by decide +kernel
theorem d_Mo_schedule_293 : decode b_Mo_schedule 293 = .ok (.iadd, 1) := by decide +kernel
theorem d_Mo_schedule_294 : decode b_Mo_schedule 294 = .ok (.iaload, 1) := by decide +kernel
theorem d_Mo_schedule_295 : decode b_Mo_schedule 295 = .ok (.iastore, 1) := by decide +kernel
theorem d_Mo_schedule_296 : decode b_Mo_schedule 296 = .ok (.aload_n 0, 1) := by decide +kernel
theorem d_Mo_schedule_297 : decode b_Mo_schedule 297 = .ok (.getfield 22, 3) := by decide +kernel
theorem d_Mo_schedule_300 : decode b_Mo_schedule 300 = .ok (.iload_n 3, 1) := by decide +kernel
theorem d_Mo_schedule_301 : decode b_Mo_schedule 301 = .ok (.aload_n 0, 1) := by decide +kernel
theorem d_Mo_schedule_302 : decode b_Mo_schedule 302 = .ok (.getfield 56, 3) := by decide +kernel
theorem d_Mo_schedule_305 : decode b_Mo_schedule 305 = .ok (.iload_n 3, 1) := by decide +kernel
theorem d_Mo_schedule_306 : decode b_Mo_schedule 306 = .ok (.iconst 5, 1) := by decide +kernel
theorem d_Mo_schedule_307 : decode b_Mo_schedule 307 = .ok (.imul, 1) := by decide +kernel
theorem d_Mo_schedule_308 : decode b_Mo_schedule 308 = .ok (.iconst 4, 1) := by decide +kernel
theorem d_Mo_schedule_309 : decode b_Mo_schedule 309 = .ok (.iadd, 1) := by decide +kernel
theorem d_Mo_schedule_310 : decode b_Mo_schedule 310 = .ok (.iaload, 1) := by decide +kernel
theorem d_Mo_schedule_311 : decode b_Mo_schedule 311 = .ok (.iastore, 1) := by decide +kernel
theorem d_Mo_schedule_312 : decode b_Mo_schedule 312 = .ok (.iinc 3 1, 3) := by decide +kernel
theorem d_Mo_schedule_315 : decode b_Mo_schedule 315 = .ok (.goto (-87), 3) := by decide +kernel
theorem d_Mo_schedule_318 : decode b_Mo_schedule 318 = .ok (.iload_n 1, 1) := by decide +kernel
theorem d_Mo_schedule_319 : decode b_Mo_schedule 319 = .ok (.ireturn, 1) := by decide +kernel
theorem d_Mo_whole_0 : decode b_Mo_whole 0 = .ok (.aload_n 0, 1) := by decide +kernel
theorem d_Mo_whole_1 : decode b_Mo_whole 1 = .ok (.iload_n 1, 1) := by decide +kernel
theorem d_Mo_whole_2 : decode b_Mo_whole 2 = .ok (.iconst 0, 1) := by decide +kernel
theorem d_Mo_whole_3 : decode b_Mo_whole 3 = .ok (.bipush 7, 2) := by decide +kernel
theorem d_Mo_whole_5 : decode b_Mo_whole 5 = .ok (.invokestatic 101, 3) := by decide +kernel
theorem d_Mo_whole_8 : decode b_Mo_whole 8 = .ok (.invokevirtual 105, 3) := by decide +kernel
theorem d_Mo_whole_11 : decode b_Mo_whole 11 = .ok (.ifCond .eq 5, 3) := by decide +kernel
theorem d_Mo_whole_14 : decode b_Mo_whole 14 = .ok (.iconst 0, 1) := by decide +kernel
theorem d_Mo_whole_15 : decode b_Mo_whole 15 = .ok (.ireturn, 1) := by decide +kernel
theorem d_Mo_whole_16 : decode b_Mo_whole 16 = .ok (.aload_n 0, 1) := by decide +kernel
theorem d_Mo_whole_17 : decode b_Mo_whole 17 = .ok (.getfield 25, 3) := by decide +kernel
theorem d_Mo_whole_20 : decode b_Mo_whole 20 = .ok (.iload_n 1, 1) := by decide +kernel
theorem d_Mo_whole_21 : decode b_Mo_whole 21 = .ok (.iaload, 1) := by decide +kernel
theorem d_Mo_whole_22 : decode b_Mo_whole 22 = .ok (.ireturn, 1) := by decide +kernel
theorem d_Mo_fraction_0 : decode b_Mo_fraction 0 = .ok (.aload_n 0, 1) := by decide +kernel
theorem d_Mo_fraction_1 : decode b_Mo_fraction 1 = .ok (.iload_n 1, 1) := by decide +kernel
theorem d_Mo_fraction_2 : decode b_Mo_fraction 2 = .ok (.iconst 0, 1) := by decide +kernel
theorem d_Mo_fraction_3 : decode b_Mo_fraction 3 = .ok (.iconst 3, 1) := by decide +kernel
theorem d_Mo_fraction_4 : decode b_Mo_fraction 4 = .ok (.invokestatic 101, 3) := by decide +kernel
theorem d_Mo_fraction_7 : decode b_Mo_fraction 7 = .ok (.invokevirtual 105, 3) := by decide +kernel
theorem d_Mo_fraction_10 : decode b_Mo_fraction 10 = .ok (.ifCond .eq 5, 3) := by decide +kernel
theorem d_Mo_fraction_13 : decode b_Mo_fraction 13 = .ok (.dconst 0, 1) := by decide +kernel
theorem d_Mo_fraction_14 : decode b_Mo_fraction 14 = .ok (.dreturn, 1) := by decide +kernel
theorem d_Mo_fraction_15 : decode b_Mo_fraction 15 = .ok (.aload_n 0, 1) := by decide +kernel
theorem d_Mo_fraction_16 : decode b_Mo_fraction 16 = .ok (.getfield 43, 3) := by decide +kernel
theorem d_Mo_fraction_19 : decode b_Mo_fraction 19 = .ok (.iload_n 1, 1) := by decide +kernel
theorem d_Mo_fraction_20 : decode b_Mo_fraction 20 = .ok (.daload, 1) := by decide +kernel
theorem d_Mo_fraction_21 : decode b_Mo_fraction 21 = .ok (.dreturn, 1) := by decide +kernel
theorem d_Mo_memory_0 : decode b_Mo_memory 0 = .ok (.aload_n 0, 1) := by decide +kernel
theorem d_Mo_memory_1 : decode b_Mo_memory 1 = .ok (.iload_n 1, 1) := by decide +kernel
theorem d_Mo_memory_2 : decode b_Mo_memory 2 = .ok (.iconst 0, 1) := by decide +kernel
theorem d_Mo_memory_3 : decode b_Mo_memory 3 = .ok (.bipush 47, 2) := by decide +kernel
theorem d_Mo_memory_5 : decode b_Mo_memory 5 = .ok (.invokestatic 101, 3) := by decide +kernel
theorem d_Mo_memory_8 : decode b_Mo_memory 8 = .ok (.invokevirtual 105, 3) := by decide +kernel
theorem d_Mo_memory_11 : decode b_Mo_memory 11 = .ok (.ifCond .eq 5, 3) := by decide +kernel
theorem d_Mo_memory_14 : decode b_Mo_memory 14 = .ok (.dconst 0, 1) := by decide +kernel
theorem d_Mo_memory_15 : decode b_Mo_memory 15 = .ok (.dreturn, 1) := by decide +kernel
theorem d_Mo_memory_16 : decode b_Mo_memory 16 = .ok (.aload_n 0, 1) := by decide +kernel
theorem d_Mo_memory_17 : decode b_Mo_memory 17 = .ok (.getfield 47, 3) := by decide +kernel
theorem d_Mo_memory_20 : decode b_Mo_memory 20 = .ok (.iload_n 1, 1) := by decide +kernel
theorem d_Mo_memory_21 : decode b_Mo_memory 21 = .ok (.daload, 1) := by decide +kernel
theorem d_Mo_memory_22 : decode b_Mo_memory 22 = .ok (.dreturn, 1) := by decide +kernel
theorem d_Mo_told_0 : decode b_Mo_told 0 = .ok (.aload_n 0, 1) := by decide +kernel
theorem d_Mo_told_1 : decode b_Mo_told 1 = .ok (.iload_n 1, 1) := by decide +kernel
theorem d_Mo_told_2 : decode b_Mo_told 2 = .ok (.iconst 0, 1) := by decide +kernel
theorem d_Mo_told_3 : decode b_Mo_told 3 = .ok (.bipush 23, 2) := by decide +kernel
theorem d_Mo_told_5 : decode b_Mo_told 5 = .ok (.invokestatic 101, 3) := by decide +kernel
theorem d_Mo_told_8 : decode b_Mo_told 8 = .ok (.ifCond .eq 16, 3) := by decide +kernel
theorem d_Mo_told_11 : decode b_Mo_told 11 = .ok (.iload_n 2, 1) := by decide +kernel
theorem d_Mo_told_12 : decode b_Mo_told 12 = .ok (.iconst 0, 1) := by decide +kernel
theorem d_Mo_told_13 : decode b_Mo_told 13 = .ok (.iconst 4, 1) := by decide +kernel
theorem d_Mo_told_14 : decode b_Mo_told 14 = .ok (.invokestatic 101, 3) := by decide +kernel
theorem d_Mo_told_17 : decode b_Mo_told 17 = .ok (.ifCond .eq 7, 3) := by decide +kernel
theorem d_Mo_told_20 : decode b_Mo_told 20 = .ok (.iconst 1, 1) := by decide +kernel
theorem d_Mo_told_21 : decode b_Mo_told 21 = .ok (.goto 4, 3) := by decide +kernel
theorem d_Mo_told_24 : decode b_Mo_told 24 = .ok (.iconst 0, 1) := by decide +kernel
theorem d_Mo_told_25 : decode b_Mo_told 25 = .ok (.invokevirtual 105, 3) := by decide +kernel
theorem d_Mo_told_28 : decode b_Mo_told 28 = .ok (.ifCond .eq 5, 3) := by decide +kernel
theorem d_Mo_told_31 : decode b_Mo_told 31 = .ok (.iconst 0, 1) := by decide +kernel
theorem d_Mo_told_32 : decode b_Mo_told 32 = .ok (.ireturn, 1) := by decide +kernel
theorem d_Mo_told_33 : decode b_Mo_told 33 = .ok (.iload_n 2, 1) := by decide +kernel
theorem d_Mo_told_34 : decode b_Mo_told 34 = .ok (.ifCond .ne 12, 3) := by decide +kernel
theorem d_Mo_told_37 : decode b_Mo_told 37 = .ok (.aload_n 0, 1) := by decide +kernel
theorem d_Mo_told_38 : decode b_Mo_told 38 = .ok (.getfield 7, 3) := by decide +kernel
theorem d_Mo_told_41 : decode b_Mo_told 41 = .ok (.iload_n 1, 1) := by decide +kernel
theorem d_Mo_told_42 : decode b_Mo_told 42 = .ok (.iaload, 1) := by decide +kernel
theorem d_Mo_told_43 : decode b_Mo_told 43 = .ok (.goto 51, 3) := by decide +kernel
theorem d_Mo_told_46 : decode b_Mo_told 46 = .ok (.iload_n 2, 1) := by decide +kernel
theorem d_Mo_told_47 : decode b_Mo_told 47 = .ok (.iconst 1, 1) := by decide +kernel
theorem d_Mo_told_48 : decode b_Mo_told 48 = .ok (.if_icmp .ne 12, 3) := by decide +kernel
theorem d_Mo_told_51 : decode b_Mo_told 51 = .ok (.aload_n 0, 1) := by decide +kernel
theorem d_Mo_told_52 : decode b_Mo_told 52 = .ok (.getfield 13, 3) := by decide +kernel
theorem d_Mo_told_55 : decode b_Mo_told 55 = .ok (.iload_n 1, 1) := by decide +kernel
theorem d_Mo_told_56 : decode b_Mo_told 56 = .ok (.iaload, 1) := by decide +kernel
theorem d_Mo_told_57 : decode b_Mo_told 57 = .ok (.goto 37, 3) := by decide +kernel
theorem d_Mo_told_60 : decode b_Mo_told 60 = .ok (.iload_n 2, 1) := by decide +kernel
theorem d_Mo_told_61 : decode b_Mo_told 61 = .ok (.iconst 2, 1) := by decide +kernel
theorem d_Mo_told_62 : decode b_Mo_told 62 = .ok (.if_icmp .ne 12, 3) := by decide +kernel
theorem d_Mo_told_65 : decode b_Mo_told 65 = .ok (.aload_n 0, 1) := by decide +kernel
theorem d_Mo_told_66 : decode b_Mo_told 66 = .ok (.getfield 16, 3) := by decide +kernel
theorem d_Mo_told_69 : decode b_Mo_told 69 = .ok (.iload_n 1, 1) := by decide +kernel
theorem d_Mo_told_70 : decode b_Mo_told 70 = .ok (.iaload, 1) := by decide +kernel
theorem d_Mo_told_71 : decode b_Mo_told 71 = .ok (.goto 23, 3) := by decide +kernel
theorem d_Mo_told_74 : decode b_Mo_told 74 = .ok (.iload_n 2, 1) := by decide +kernel
theorem d_Mo_told_75 : decode b_Mo_told 75 = .ok (.iconst 3, 1) := by decide +kernel
theorem d_Mo_told_76 : decode b_Mo_told 76 = .ok (.if_icmp .ne 12, 3) := by decide +kernel
theorem d_Mo_told_79 : decode b_Mo_told 79 = .ok (.aload_n 0, 1) := by decide +kernel
theorem d_Mo_told_80 : decode b_Mo_told 80 = .ok (.getfield 19, 3) := by decide +kernel
theorem d_Mo_told_83 : decode b_Mo_told 83 = .ok (.iload_n 1, 1) := by decide +kernel
theorem d_Mo_told_84 : decode b_Mo_told 84 = .ok (.iaload, 1) := by decide +kernel
theorem d_Mo_told_85 : decode b_Mo_told 85 = .ok (.goto 9, 3) := by decide +kernel
theorem d_Mo_told_88 : decode b_Mo_told 88 = .ok (.aload_n 0, 1) := by decide +kernel
theorem d_Mo_told_89 : decode b_Mo_told 89 = .ok (.getfield 22, 3) := by decide +kernel
theorem d_Mo_told_92 : decode b_Mo_told 92 = .ok (.iload_n 1, 1) := by decide +kernel
theorem d_Mo_told_93 : decode b_Mo_told 93 = .ok (.iaload, 1) := by decide +kernel
theorem d_Mo_told_94 : decode b_Mo_told 94 = .ok (.ireturn, 1) := by decide +kernel
theorem d_Mo_count_0 : decode b_Mo_count 0 = .ok (.aload_n 0, 1) := by decide +kernel
theorem d_Mo_count_1 : decode b_Mo_count 1 = .ok (.iconst 0, 1) := by decide +kernel
theorem d_Mo_count_2 : decode b_Mo_count 2 = .ok (.putfield 74, 3) := by decide +kernel
theorem d_Mo_count_5 : decode b_Mo_count 5 = .ok (.iload_n 1, 1) := by decide +kernel
theorem d_Mo_count_6 : decode b_Mo_count 6 = .ok (.bipush 10, 2) := by decide +kernel
theorem d_Mo_count_8 : decode b_Mo_count 8 = .ok (.bipush 17, 2) := by decide +kernel
theorem d_Mo_count_10 : decode b_Mo_count 10 = .ok (.invokestatic 101, 3) := by decide +kernel
theorem d_Mo_count_13 : decode b_Mo_count 13 = .ok (.ifCond .eq 13, 3) := by decide +kernel
theorem d_Mo_count_16 : decode b_Mo_count 16 = .ok (.aload_n 0, 1) := by decide +kernel
theorem d_Mo_count_17 : decode b_Mo_count 17 = .ok (.getfield 28, 3) := by decide +kernel
theorem d_Mo_count_20 : decode b_Mo_count 20 = .ok (.iload_n 1, 1) := by decide +kernel
theorem d_Mo_count_21 : decode b_Mo_count 21 = .ok (.bipush 10, 2) := by decide +kernel
theorem d_Mo_count_23 : decode b_Mo_count 23 = .ok (.isub, 1) := by decide +kernel
theorem d_Mo_count_24 : decode b_Mo_count 24 = .ok (.iaload, 1) := by decide +kernel
theorem d_Mo_count_25 : decode b_Mo_count 25 = .ok (.ireturn, 1) := by decide +kernel
theorem d_Mo_count_26 : decode b_Mo_count 26 = .ok (.iload_n 1, 1) := by decide +kernel
theorem d_Mo_count_27 : decode b_Mo_count 27 = .ok (.bipush 20, 2) := by decide +kernel
theorem d_Mo_count_29 : decode b_Mo_count 29 = .ok (.bipush 23, 2) := by decide +kernel
theorem d_Mo_count_31 : decode b_Mo_count 31 = .ok (.invokestatic 101, 3) := by decide +kernel
theorem d_Mo_count_34 : decode b_Mo_count 34 = .ok (.ifCond .eq 13, 3) := by decide +kernel
theorem d_Mo_count_37 : decode b_Mo_count 37 = .ok (.aload_n 0, 1) := by decide +kernel
theorem d_Mo_count_38 : decode b_Mo_count 38 = .ok (.getfield 28, 3) := by decide +kernel
theorem d_Mo_count_41 : decode b_Mo_count 41 = .ok (.iload_n 1, 1) := by decide +kernel
theorem d_Mo_count_42 : decode b_Mo_count 42 = .ok (.bipush 12, 2) := by decide +kernel
theorem d_Mo_count_44 : decode b_Mo_count 44 = .ok (.isub, 1) := by decide +kernel
theorem d_Mo_count_45 : decode b_Mo_count 45 = .ok (.iaload, 1) := by decide +kernel
theorem d_Mo_count_46 : decode b_Mo_count 46 = .ok (.ireturn, 1) := by decide +kernel
theorem d_Mo_count_47 : decode b_Mo_count 47 = .ok (.iload_n 1, 1) := by decide +kernel
theorem d_Mo_count_48 : decode b_Mo_count 48 = .ok (.tableswitch 87 0 6 #[44, 49, 62, 67, 72, 77, 82], 44) := by decide +kernel
theorem d_Mo_count_92 : decode b_Mo_count 92 = .ok (.aload_n 0, 1) := by decide +kernel
theorem d_Mo_count_93 : decode b_Mo_count 93 = .ok (.getfield 113, 3) := by decide +kernel
theorem d_Mo_count_96 : decode b_Mo_count 96 = .ok (.ireturn, 1) := by decide +kernel
theorem d_Mo_count_97 : decode b_Mo_count 97 = .ok (.aload_n 0, 1) := by decide +kernel
theorem d_Mo_count_98 : decode b_Mo_count 98 = .ok (.getfield 67, 3) := by decide +kernel
theorem d_Mo_count_101 : decode b_Mo_count 101 = .ok (.ifCond .eq 7, 3) := by decide +kernel
theorem d_Mo_count_104 : decode b_Mo_count 104 = .ok (.iconst 1, 1) := by decide +kernel
theorem d_Mo_count_105 : decode b_Mo_count 105 = .ok (.goto 4, 3) := by decide +kernel
theorem d_Mo_count_108 : decode b_Mo_count 108 = .ok (.iconst 0, 1) := by decide +kernel
theorem d_Mo_count_109 : decode b_Mo_count 109 = .ok (.ireturn, 1) := by decide +kernel
theorem d_Mo_count_110 : decode b_Mo_count 110 = .ok (.aload_n 0, 1) := by decide +kernel
theorem d_Mo_count_111 : decode b_Mo_count 111 = .ok (.getfield 95, 3) := by decide +kernel
theorem d_Mo_count_114 : decode b_Mo_count 114 = .ok (.ireturn, 1) := by decide +kernel
theorem d_Mo_count_115 : decode b_Mo_count 115 = .ok (.aload_n 0, 1) := by decide +kernel
theorem d_Mo_count_116 : decode b_Mo_count 116 = .ok (.getfield 63, 3) := by decide +kernel
theorem d_Mo_count_119 : decode b_Mo_count 119 = .ok (.ireturn, 1) := by decide +kernel
theorem d_Mo_count_120 : decode b_Mo_count 120 = .ok (.aload_n 0, 1) := by decide +kernel
theorem d_Mo_count_121 : decode b_Mo_count 121 = .ok (.getfield 92, 3) := by decide +kernel
theorem d_Mo_count_124 : decode b_Mo_count 124 = .ok (.ireturn, 1) := by decide +kernel
theorem d_Mo_count_125 : decode b_Mo_count 125 = .ok (.aload_n 0, 1) := by decide +kernel
theorem d_Mo_count_126 : decode b_Mo_count 126 = .ok (.getfield 89, 3) := by decide +kernel
theorem d_Mo_count_129 : decode b_Mo_count 129 = .ok (.ireturn, 1) := by decide +kernel
theorem d_Mo_count_130 : decode b_Mo_count 130 = .ok (.aload_n 0, 1) := by decide +kernel
theorem d_Mo_count_131 : decode b_Mo_count 131 = .ok (.getfield 86, 3) := by decide +kernel
theorem d_Mo_count_134 : decode b_Mo_count 134 = .ok (.ireturn, 1) := by decide +kernel
theorem d_Mo_count_135 : decode b_Mo_count 135 = .ok (.bipush (-2), 2) := by decide +kernel
theorem d_Mo_count_137 : decode b_Mo_count 137 = .ok (.ireturn, 1) := by decide +kernel
end
section
/-! DECODE ROWS, by program -/
theorem d_La_code_0 : decode b_La_code 0 = .ok (.aload_n 0, 1) := by decide +kernel
theorem d_La_code_1 : decode b_La_code 1 = .ok (.iload_n 1, 1) := by decide +kernel
theorem d_La_code_2 : decode b_La_code 2 = .ok (.iload_n 2, 1) := by decide +kernel
theorem d_La_code_3 : decode b_La_code 3 = .ok (.iload_n 3, 1) := by decide +kernel
theorem d_La_code_4 : decode b_La_code 4 = .ok (.iload 4, 2) := by decide +kernel
theorem d_La_code_6 : decode b_La_code 6 = .ok (.iload 5, 2) := by decide +kernel
theorem d_La_code_8 : decode b_La_code 8 = .ok (.iload 6, 2) := by decide +kernel
theorem d_La_code_10 : decode b_La_code 10 = .ok (.invokevirtual 7, 3) := by decide +kernel
theorem d_La_code_13 : decode b_La_code 13 = .ok (.goto 7, 3) := by decide +kernel
theorem d_La_code_16 : decode b_La_code 16 = .ok (.astore 7, 2) := by decide +kernel
theorem d_La_code_18 : decode b_La_code 18 = .ok (.iconst 1, 1) := by decide +kernel
theorem d_La_code_19 : decode b_La_code 19 = .ok (.ireturn, 1) := by decide +kernel
theorem d_La_code_20 : decode b_La_code 20 = .ok (.iconst 0, 1) := by decide +kernel
theorem d_La_code_21 : decode b_La_code 21 = .ok (.ireturn, 1) := by decide +kernel
theorem d_La_cell2_0 : decode b_La_cell2 0 = .ok (.aload_n 0, 1) := by decide +kernel
theorem d_La_cell2_1 : decode b_La_cell2 1 = .ok (.iload_n 1, 1) := by decide +kernel
theorem d_La_cell2_2 : decode b_La_cell2 2 = .ok (.dload_n 2, 1) := by decide +kernel
theorem d_La_cell2_3 : decode b_La_cell2 3 = .ok (.invokevirtual 15, 3) := by decide +kernel
theorem d_La_cell2_6 : decode b_La_cell2 6 = .ok (.goto 7, 3) := by decide +kernel
theorem d_La_cell2_9 : decode b_La_cell2 9 = .ok (.astore 4, 2) := by decide +kernel
theorem d_La_cell2_11 : decode b_La_cell2 11 = .ok (.iconst 1, 1) := by decide +kernel
theorem d_La_cell2_12 : decode b_La_cell2 12 = .ok (.ireturn, 1) := by decide +kernel
theorem d_La_cell2_13 : decode b_La_cell2 13 = .ok (.iconst 0, 1) := by decide +kernel
theorem d_La_cell2_14 : decode b_La_cell2 14 = .ok (.ireturn, 1) := by decide +kernel
theorem d_La_start_0 : decode b_La_start 0 = .ok (.aload_n 0, 1) := by decide +kernel
theorem d_La_start_1 : decode b_La_start 1 = .ok (.iload_n 1, 1) := by decide +kernel
theorem d_La_start_2 : decode b_La_start 2 = .ok (.invokevirtual 19, 3) := by decide +kernel
theorem d_La_start_5 : decode b_La_start 5 = .ok (.goto 6, 3) := by decide +kernel
theorem d_La_start_8 : decode b_La_start 8 = .ok (.astore_n 2, 1) := by decide +kernel
theorem d_La_start_9 : decode b_La_start 9 = .ok (.iconst 1, 1) := by decide +kernel
theorem d_La_start_10 : decode b_La_start 10 = .ok (.ireturn, 1) := by decide +kernel
theorem d_La_start_11 : decode b_La_start 11 = .ok (.iconst 0, 1) := by decide +kernel
theorem d_La_start_12 : decode b_La_start 12 = .ok (.ireturn, 1) := by decide +kernel
theorem d_La_run_0 : decode b_La_run 0 = .ok (.aload_n 2, 1) := by decide +kernel
theorem d_La_run_1 : decode b_La_run 1 = .ok (.iconst 0, 1) := by decide +kernel
theorem d_La_run_2 : decode b_La_run 2 = .ok (.aload_n 0, 1) := by decide +kernel
theorem d_La_run_3 : decode b_La_run 3 = .ok (.iload_n 1, 1) := by decide +kernel
theorem d_La_run_4 : decode b_La_run 4 = .ok (.invokevirtual 23, 3) := by decide +kernel
theorem d_La_run_7 : decode b_La_run 7 = .ok (.i2l, 1) := by decide +kernel
theorem d_La_run_8 : decode b_La_run 8 = .ok (.lastore, 1) := by decide +kernel
theorem d_La_run_9 : decode b_La_run 9 = .ok (.goto 15, 3) := by decide +kernel
theorem d_La_run_12 : decode b_La_run 12 = .ok (.astore_n 3, 1) := by decide +kernel
theorem d_La_run_13 : decode b_La_run 13 = .ok (.iconst 1, 1) := by decide +kernel
theorem d_La_run_14 : decode b_La_run 14 = .ok (.ireturn, 1) := by decide +kernel
theorem d_La_run_15 : decode b_La_run 15 = .ok (.astore_n 3, 1) := by decide +kernel
theorem d_La_run_16 : decode b_La_run 16 = .ok (.iconst 2, 1) := by decide +kernel
theorem d_La_run_17 : decode b_La_run 17 = .ok (.ireturn, 1) := by decide +kernel
theorem d_La_run_18 : decode b_La_run 18 = .ok (.astore_n 3, 1) := by decide +kernel
theorem d_La_run_19 : decode b_La_run 19 = .ok (.iconst 3, 1) := by decide +kernel
theorem d_La_run_20 : decode b_La_run 20 = .ok (.ireturn, 1) := by decide +kernel
theorem d_La_run_21 : decode b_La_run 21 = .ok (.astore_n 3, 1) := by decide +kernel
theorem d_La_run_22 : decode b_La_run 22 = .ok (.iconst 4, 1) := by decide +kernel
theorem d_La_run_23 : decode b_La_run 23 = .ok (.ireturn, 1) := by decide +kernel
theorem d_La_run_24 : decode b_La_run 24 = .ok (.iconst 0, 1) := by decide +kernel
theorem d_La_run_25 : decode b_La_run 25 = .ok (.ireturn, 1) := by decide +kernel
theorem d_La_whole_0 : decode b_La_whole 0 = .ok (.aload_n 2, 1) := by decide +kernel
theorem d_La_whole_1 : decode b_La_whole 1 = .ok (.iconst 0, 1) := by decide +kernel
theorem d_La_whole_2 : decode b_La_whole 2 = .ok (.aload_n 0, 1) := by decide +kernel
theorem d_La_whole_3 : decode b_La_whole 3 = .ok (.iload_n 1, 1) := by decide +kernel
theorem d_La_whole_4 : decode b_La_whole 4 = .ok (.invokevirtual 33, 3) := by decide +kernel
theorem d_La_whole_7 : decode b_La_whole 7 = .ok (.i2l, 1) := by decide +kernel
theorem d_La_whole_8 : decode b_La_whole 8 = .ok (.lastore, 1) := by decide +kernel
theorem d_La_whole_9 : decode b_La_whole 9 = .ok (.goto 6, 3) := by decide +kernel
theorem d_La_whole_12 : decode b_La_whole 12 = .ok (.astore_n 3, 1) := by decide +kernel
theorem d_La_whole_13 : decode b_La_whole 13 = .ok (.iconst 1, 1) := by decide +kernel
theorem d_La_whole_14 : decode b_La_whole 14 = .ok (.ireturn, 1) := by decide +kernel
theorem d_La_whole_15 : decode b_La_whole 15 = .ok (.iconst 0, 1) := by decide +kernel
theorem d_La_whole_16 : decode b_La_whole 16 = .ok (.ireturn, 1) := by decide +kernel
theorem d_La_fraction_0 : decode b_La_fraction 0 = .ok (.aload_n 2, 1) := by decide +kernel
theorem d_La_fraction_1 : decode b_La_fraction 1 = .ok (.iconst 0, 1) := by decide +kernel
theorem d_La_fraction_2 : decode b_La_fraction 2 = .ok (.aload_n 0, 1) := by decide +kernel
theorem d_La_fraction_3 : decode b_La_fraction 3 = .ok (.iload_n 1, 1) := by decide +kernel
theorem d_La_fraction_4 : decode b_La_fraction 4 = .ok (.invokevirtual 36, 3) := by decide +kernel
theorem d_La_fraction_7 : decode b_La_fraction 7 = .ok (.dastore, 1) := by decide +kernel
theorem d_La_fraction_8 : decode b_La_fraction 8 = .ok (.goto 6, 3) := by decide +kernel
theorem d_La_fraction_11 : decode b_La_fraction 11 = .ok (.astore_n 3, 1) := by decide +kernel
theorem d_La_fraction_12 : decode b_La_fraction 12 = .ok (.iconst 1, 1) := by decide +kernel
theorem d_La_fraction_13 : decode b_La_fraction 13 = .ok (.ireturn, 1) := by decide +kernel
theorem d_La_fraction_14 : decode b_La_fraction 14 = .ok (.iconst 0, 1) := by decide +kernel
theorem d_La_fraction_15 : decode b_La_fraction 15 = .ok (.ireturn, 1) := by decide +kernel
theorem d_La_memory_0 : decode b_La_memory 0 = .ok (.aload_n 2, 1) := by decide +kernel
theorem d_La_memory_1 : decode b_La_memory 1 = .ok (.iconst 0, 1) := by decide +kernel
theorem d_La_memory_2 : decode b_La_memory 2 = .ok (.aload_n 0, 1) := by decide +kernel
theorem d_La_memory_3 : decode b_La_memory 3 = .ok (.iload_n 1, 1) := by decide +kernel
theorem d_La_memory_4 : decode b_La_memory 4 = .ok (.invokevirtual 40, 3) := by decide +kernel
theorem d_La_memory_7 : decode b_La_memory 7 = .ok (.dastore, 1) := by decide +kernel
theorem d_La_memory_8 : decode b_La_memory 8 = .ok (.goto 6, 3) := by decide +kernel
theorem d_La_memory_11 : decode b_La_memory 11 = .ok (.astore_n 3, 1) := by decide +kernel
theorem d_La_memory_12 : decode b_La_memory 12 = .ok (.iconst 1, 1) := by decide +kernel
theorem d_La_memory_13 : decode b_La_memory 13 = .ok (.ireturn, 1) := by decide +kernel
theorem d_La_memory_14 : decode b_La_memory 14 = .ok (.iconst 0, 1) := by decide +kernel
theorem d_La_memory_15 : decode b_La_memory 15 = .ok (.ireturn, 1) := by decide +kernel
theorem d_La_told_0 : decode b_La_told 0 = .ok (.aload_n 3, 1) := by decide +kernel
theorem d_La_told_1 : decode b_La_told 1 = .ok (.iconst 0, 1) := by decide +kernel
theorem d_La_told_2 : decode b_La_told 2 = .ok (.aload_n 0, 1) := by decide +kernel
theorem d_La_told_3 : decode b_La_told 3 = .ok (.iload_n 1, 1) := by decide +kernel
theorem d_La_told_4 : decode b_La_told 4 = .ok (.iload_n 2, 1) := by decide +kernel
theorem d_La_told_5 : decode b_La_told 5 = .ok (.invokevirtual 43, 3) := by decide +kernel
theorem d_La_told_8 : decode b_La_told 8 = .ok (.i2l, 1) := by decide +kernel
theorem d_La_told_9 : decode b_La_told 9 = .ok (.lastore, 1) := by decide +kernel
theorem d_La_told_10 : decode b_La_told 10 = .ok (.goto 7, 3) := by decide +kernel
theorem d_La_told_13 : decode b_La_told 13 = .ok (.astore 4, 2) := by decide +kernel
theorem d_La_told_15 : decode b_La_told 15 = .ok (.iconst 1, 1) := by decide +kernel
theorem d_La_told_16 : decode b_La_told 16 = .ok (.ireturn, 1) := by decide +kernel
theorem d_La_told_17 : decode b_La_told 17 = .ok (.iconst 0, 1) := by decide +kernel
theorem d_La_told_18 : decode b_La_told 18 = .ok (.ireturn, 1) := by decide +kernel
theorem d_La_law_0 : decode b_La_law 0 = .ok (.new 8, 3) := by decide +kernel
theorem d_La_law_3 : decode b_La_law 3 = .ok (.dup, 1) := by decide +kernel
theorem d_La_law_4 : decode b_La_law 4 = .ok (.invokespecial 47, 3) := by decide +kernel
theorem d_La_law_7 : decode b_La_law 7 = .ok (.astore_n 1, 1) := by decide +kernel
theorem d_La_law_8 : decode b_La_law 8 = .ok (.new 48, 3) := by decide +kernel
theorem d_La_law_11 : decode b_La_law 11 = .ok (.dup, 1) := by decide +kernel
theorem d_La_law_12 : decode b_La_law 12 = .ok (.invokespecial 50, 3) := by decide +kernel
theorem d_La_law_15 : decode b_La_law 15 = .ok (.astore_n 2, 1) := by decide +kernel
theorem d_La_law_16 : decode b_La_law 16 = .ok (.iconst 1, 1) := by decide +kernel
theorem d_La_law_17 : decode b_La_law 17 = .ok (.newarray .long, 2) := by decide +kernel
theorem d_La_law_19 : decode b_La_law 19 = .ok (.astore_n 3, 1) := by decide +kernel
theorem d_La_law_20 : decode b_La_law 20 = .ok (.iconst 1, 1) := by decide +kernel
theorem d_La_law_21 : decode b_La_law 21 = .ok (.newarray .double, 2) := by decide +kernel
theorem d_La_law_23 : decode b_La_law 23 = .ok (.astore 4, 2) := by decide +kernel
theorem d_La_law_25 : decode b_La_law 25 = .ok (.iconst 0, 1) := by decide +kernel
theorem d_La_law_26 : decode b_La_law 26 = .ok (.istore 5, 2) := by decide +kernel
theorem d_La_law_28 : decode b_La_law 28 = .ok (.iload 5, 2) := by decide +kernel
theorem d_La_law_30 : decode b_La_law 30 = .ok (.aload_n 0, 1) := by decide +kernel
theorem d_La_law_31 : decode b_La_law 31 = .ok (.arraylength, 1) := by decide +kernel
theorem d_La_law_32 : decode b_La_law 32 = .ok (.bipush 7, 2) := by decide +kernel
theorem d_La_law_34 : decode b_La_law 34 = .ok (.isub, 1) := by decide +kernel
theorem d_La_law_35 : decode b_La_law 35 = .ok (.if_icmp .gt 635, 3) := by decide +kernel
theorem d_La_law_38 : decode b_La_law 38 = .ok (.aload_n 0, 1) := by decide +kernel
theorem d_La_law_39 : decode b_La_law 39 = .ok (.iload 5, 2) := by decide +kernel
theorem d_La_law_41 : decode b_La_law 41 = .ok (.iaload, 1) := by decide +kernel
theorem d_La_law_42 : decode b_La_law 42 = .ok (.bipush 15, 2) := by decide +kernel
theorem d_La_law_44 : decode b_La_law 44 = .ok (.iand, 1) := by decide +kernel
theorem d_La_law_45 : decode b_La_law 45 = .ok (.tableswitch 619 0 9 #[55, 153, 211, 247, 303, 316, 372, 449, 526, 594], 55) := by decide +kernel
theorem d_La_law_100 : decode b_La_law 100 = .ok (.aload_n 1, 1) := by decide +kernel
theorem d_La_law_101 : decode b_La_law 101 = .ok (.aload_n 0, 1) := by decide +kernel
theorem d_La_law_102 : decode b_La_law 102 = .ok (.iload 5, 2) := by decide +kernel
theorem d_La_law_104 : decode b_La_law 104 = .ok (.iconst 1, 1) := by decide +kernel
theorem d_La_law_105 : decode b_La_law 105 = .ok (.iadd, 1) := by decide +kernel
theorem d_La_law_106 : decode b_La_law 106 = .ok (.iaload, 1) := by decide +kernel
theorem d_La_law_107 : decode b_La_law 107 = .ok (.aload_n 0, 1) := by decide +kernel
theorem d_La_law_108 : decode b_La_law 108 = .ok (.iload 5, 2) := by decide +kernel
theorem d_La_law_110 : decode b_La_law 110 = .ok (.iconst 2, 1) := by decide +kernel
theorem d_La_law_111 : decode b_La_law 111 = .ok (.iadd, 1) := by decide +kernel
theorem d_La_law_112 : decode b_La_law 112 = .ok (.iaload, 1) := by decide +kernel
theorem d_La_law_113 : decode b_La_law 113 = .ok (.aload_n 0, 1) := by decide +kernel
theorem d_La_law_114 : decode b_La_law 114 = .ok (.iload 5, 2) := by decide +kernel
theorem d_La_law_116 : decode b_La_law 116 = .ok (.iconst 3, 1) := by decide +kernel
theorem d_La_law_117 : decode b_La_law 117 = .ok (.iadd, 1) := by decide +kernel
theorem d_La_law_118 : decode b_La_law 118 = .ok (.iaload, 1) := by decide +kernel
theorem d_La_law_119 : decode b_La_law 119 = .ok (.aload_n 0, 1) := by decide +kernel
theorem d_La_law_120 : decode b_La_law 120 = .ok (.iload 5, 2) := by decide +kernel
theorem d_La_law_122 : decode b_La_law 122 = .ok (.iconst 4, 1) := by decide +kernel
theorem d_La_law_123 : decode b_La_law 123 = .ok (.iadd, 1) := by decide +kernel
theorem d_La_law_124 : decode b_La_law 124 = .ok (.iaload, 1) := by decide +kernel
theorem d_La_law_125 : decode b_La_law 125 = .ok (.aload_n 0, 1) := by decide +kernel
theorem d_La_law_126 : decode b_La_law 126 = .ok (.iload 5, 2) := by decide +kernel
theorem d_La_law_128 : decode b_La_law 128 = .ok (.iconst 5, 1) := by decide +kernel
theorem d_La_law_129 : decode b_La_law 129 = .ok (.iadd, 1) := by decide +kernel
theorem d_La_law_130 : decode b_La_law 130 = .ok (.iaload, 1) := by decide +kernel
theorem d_La_law_131 : decode b_La_law 131 = .ok (.aload_n 0, 1) := by decide +kernel
theorem d_La_law_132 : decode b_La_law 132 = .ok (.iload 5, 2) := by decide +kernel
theorem d_La_law_134 : decode b_La_law 134 = .ok (.bipush 6, 2) := by decide +kernel
theorem d_La_law_136 : decode b_La_law 136 = .ok (.iadd, 1) := by decide +kernel
theorem d_La_law_137 : decode b_La_law 137 = .ok (.iaload, 1) := by decide +kernel
theorem d_La_law_138 : decode b_La_law 138 = .ok (.invokestatic 51, 3) := by decide +kernel
theorem d_La_law_141 : decode b_La_law 141 = .ok (.istore 6, 2) := by decide +kernel
theorem d_La_law_143 : decode b_La_law 143 = .ok (.aload_n 2, 1) := by decide +kernel
theorem d_La_law_144 : decode b_La_law 144 = .ok (.aload_n 0, 1) := by decide +kernel
theorem d_La_law_145 : decode b_La_law 145 = .ok (.iload 5, 2) := by decide +kernel
theorem d_La_law_147 : decode b_La_law 147 = .ok (.iconst 1, 1) := by decide +kernel
theorem d_La_law_148 : decode b_La_law 148 = .ok (.iadd, 1) := by decide +kernel
theorem d_La_law_149 : decode b_La_law 149 = .ok (.iaload, 1) := by decide +kernel
theorem d_La_law_150 : decode b_La_law 150 = .ok (.aload_n 0, 1) := by decide +kernel
theorem d_La_law_151 : decode b_La_law 151 = .ok (.iload 5, 2) := by decide +kernel
theorem d_La_law_153 : decode b_La_law 153 = .ok (.iconst 2, 1) := by decide +kernel
theorem d_La_law_154 : decode b_La_law 154 = .ok (.iadd, 1) := by decide +kernel
theorem d_La_law_155 : decode b_La_law 155 = .ok (.iaload, 1) := by decide +kernel
theorem d_La_law_156 : decode b_La_law 156 = .ok (.aload_n 0, 1) := by decide +kernel
theorem d_La_law_157 : decode b_La_law 157 = .ok (.iload 5, 2) := by decide +kernel
theorem d_La_law_159 : decode b_La_law 159 = .ok (.iconst 3, 1) := by decide +kernel
theorem d_La_law_160 : decode b_La_law 160 = .ok (.iadd, 1) := by decide +kernel
theorem d_La_law_161 : decode b_La_law 161 = .ok (.iaload, 1) := by decide +kernel
theorem d_La_law_162 : decode b_La_law 162 = .ok (.aload_n 0, 1) := by decide +kernel
theorem d_La_law_163 : decode b_La_law 163 = .ok (.iload 5, 2) := by decide +kernel
theorem d_La_law_165 : decode b_La_law 165 = .ok (.iconst 4, 1) := by decide +kernel
theorem d_La_law_166 : decode b_La_law 166 = .ok (.iadd, 1) := by decide +kernel
theorem d_La_law_167 : decode b_La_law 167 = .ok (.iaload, 1) := by decide +kernel
theorem d_La_law_168 : decode b_La_law 168 = .ok (.aload_n 0, 1) := by decide +kernel
theorem d_La_law_169 : decode b_La_law 169 = .ok (.iload 5, 2) := by decide +kernel
theorem d_La_law_171 : decode b_La_law 171 = .ok (.iconst 5, 1) := by decide +kernel
theorem d_La_law_172 : decode b_La_law 172 = .ok (.iadd, 1) := by decide +kernel
theorem d_La_law_173 : decode b_La_law 173 = .ok (.iaload, 1) := by decide +kernel
theorem d_La_law_174 : decode b_La_law 174 = .ok (.aload_n 0, 1) := by decide +kernel
theorem d_La_law_175 : decode b_La_law 175 = .ok (.iload 5, 2) := by decide +kernel
theorem d_La_law_177 : decode b_La_law 177 = .ok (.bipush 6, 2) := by decide +kernel
theorem d_La_law_179 : decode b_La_law 179 = .ok (.iadd, 1) := by decide +kernel
theorem d_La_law_180 : decode b_La_law 180 = .ok (.iaload, 1) := by decide +kernel
theorem d_La_law_181 : decode b_La_law 181 = .ok (.invokevirtual 56, 3) := by decide +kernel
theorem d_La_law_184 : decode b_La_law 184 = .ok (.aload_n 2, 1) := by decide +kernel
theorem d_La_law_185 : decode b_La_law 185 = .ok (.invokevirtual 57, 3) := by decide +kernel
theorem d_La_law_188 : decode b_La_law 188 = .ok (.iload 6, 2) := by decide +kernel
theorem d_La_law_190 : decode b_La_law 190 = .ok (.if_icmp .eq 5, 3) := by decide +kernel
theorem d_La_law_193 : decode b_La_law 193 = .ok (.iconst 0, 1) := by decide +kernel
theorem d_La_law_194 : decode b_La_law 194 = .ok (.ireturn, 1) := by decide +kernel
theorem d_La_law_195 : decode b_La_law 195 = .ok (.goto 469, 3) := by decide +kernel
theorem d_La_law_198 : decode b_La_law 198 = .ok (.aload_n 1, 1) := by decide +kernel
theorem d_La_law_199 : decode b_La_law 199 = .ok (.aload_n 0, 1) := by decide +kernel
theorem d_La_law_200 : decode b_La_law 200 = .ok (.iload 5, 2) := by decide +kernel
theorem d_La_law_202 : decode b_La_law 202 = .ok (.iconst 1, 1) := by decide +kernel
theorem d_La_law_203 : decode b_La_law 203 = .ok (.iadd, 1) := by decide +kernel
theorem d_La_law_204 : decode b_La_law 204 = .ok (.iaload, 1) := by decide +kernel
theorem d_La_law_205 : decode b_La_law 205 = .ok (.aload_n 0, 1) := by decide +kernel
theorem d_La_law_206 : decode b_La_law 206 = .ok (.iload 5, 2) := by decide +kernel
theorem d_La_law_208 : decode b_La_law 208 = .ok (.iconst 2, 1) := by decide +kernel
theorem d_La_law_209 : decode b_La_law 209 = .ok (.iadd, 1) := by decide +kernel
theorem d_La_law_210 : decode b_La_law 210 = .ok (.iaload, 1) := by decide +kernel
theorem d_La_law_211 : decode b_La_law 211 = .ok (.i2d, 1) := by decide +kernel
theorem d_La_law_212 : decode b_La_law 212 = .ok (.ldc2_w 61, 3) := by decide +kernel
theorem d_La_law_215 : decode b_La_law 215 = .ok (.dmul, 1) := by decide +kernel
theorem d_La_law_216 : decode b_La_law 216 = .ok (.invokestatic 63, 3) := by decide +kernel
theorem d_La_law_219 : decode b_La_law 219 = .ok (.istore 6, 2) := by decide +kernel
theorem d_La_law_221 : decode b_La_law 221 = .ok (.aload_n 2, 1) := by decide +kernel
theorem d_La_law_222 : decode b_La_law 222 = .ok (.aload_n 0, 1) := by decide +kernel
theorem d_La_law_223 : decode b_La_law 223 = .ok (.iload 5, 2) := by decide +kernel
theorem d_La_law_225 : decode b_La_law 225 = .ok (.iconst 1, 1) := by decide +kernel
theorem d_La_law_226 : decode b_La_law 226 = .ok (.iadd, 1) := by decide +kernel
theorem d_La_law_227 : decode b_La_law 227 = .ok (.iaload, 1) := by decide +kernel
theorem d_La_law_228 : decode b_La_law 228 = .ok (.aload_n 0, 1) := by decide +kernel
theorem d_La_law_229 : decode b_La_law 229 = .ok (.iload 5, 2) := by decide +kernel
theorem d_La_law_231 : decode b_La_law 231 = .ok (.iconst 2, 1) := by decide +kernel
theorem d_La_law_232 : decode b_La_law 232 = .ok (.iadd, 1) := by decide +kernel
theorem d_La_law_233 : decode b_La_law 233 = .ok (.iaload, 1) := by decide +kernel
theorem d_La_law_234 : decode b_La_law 234 = .ok (.i2d, 1) := by decide +kernel
theorem d_La_law_235 : decode b_La_law 235 = .ok (.ldc2_w 61, 3) := by decide +kernel
theorem d_La_law_238 : decode b_La_law 238 = .ok (.dmul, 1) := by decide +kernel
theorem d_La_law_239 : decode b_La_law 239 = .ok (.invokevirtual 66, 3) := by decide +kernel
theorem d_La_law_242 : decode b_La_law 242 = .ok (.aload_n 2, 1) := by decide +kernel
theorem d_La_law_243 : decode b_La_law 243 = .ok (.invokevirtual 57, 3) := by decide +kernel
theorem d_La_law_246 : decode b_La_law 246 = .ok (.iload 6, 2) := by decide +kernel
theorem d_La_law_248 : decode b_La_law 248 = .ok (.if_icmp .eq 5, 3) := by decide +kernel
theorem d_La_law_251 : decode b_La_law 251 = .ok (.iconst 0, 1) := by decide +kernel
theorem d_La_law_252 : decode b_La_law 252 = .ok (.ireturn, 1) := by decide +kernel
theorem d_La_law_253 : decode b_La_law 253 = .ok (.goto 411, 3) := by decide +kernel
theorem d_La_law_256 : decode b_La_law 256 = .ok (.aload_n 1, 1) := by decide +kernel
theorem d_La_law_257 : decode b_La_law 257 = .ok (.aload_n 0, 1) := by decide +kernel
theorem d_La_law_258 : decode b_La_law 258 = .ok (.iload 5, 2) := by decide +kernel
theorem d_La_law_260 : decode b_La_law 260 = .ok (.iconst 1, 1) := by decide +kernel
theorem d_La_law_261 : decode b_La_law 261 = .ok (.iadd, 1) := by decide +kernel
theorem d_La_law_262 : decode b_La_law 262 = .ok (.iaload, 1) := by decide +kernel
theorem d_La_law_263 : decode b_La_law 263 = .ok (.invokestatic 67, 3) := by decide +kernel
theorem d_La_law_266 : decode b_La_law 266 = .ok (.istore 6, 2) := by decide +kernel
theorem d_La_law_268 : decode b_La_law 268 = .ok (.aload_n 2, 1) := by decide +kernel
theorem d_La_law_269 : decode b_La_law 269 = .ok (.aload_n 0, 1) := by decide +kernel
theorem d_La_law_270 : decode b_La_law 270 = .ok (.iload 5, 2) := by decide +kernel
theorem d_La_law_272 : decode b_La_law 272 = .ok (.iconst 1, 1) := by decide +kernel
theorem d_La_law_273 : decode b_La_law 273 = .ok (.iadd, 1) := by decide +kernel
theorem d_La_law_274 : decode b_La_law 274 = .ok (.iaload, 1) := by decide +kernel
theorem d_La_law_275 : decode b_La_law 275 = .ok (.invokevirtual 70, 3) := by decide +kernel
theorem d_La_law_278 : decode b_La_law 278 = .ok (.aload_n 2, 1) := by decide +kernel
theorem d_La_law_279 : decode b_La_law 279 = .ok (.invokevirtual 57, 3) := by decide +kernel
theorem d_La_law_282 : decode b_La_law 282 = .ok (.iload 6, 2) := by decide +kernel
theorem d_La_law_284 : decode b_La_law 284 = .ok (.if_icmp .eq 5, 3) := by decide +kernel
theorem d_La_law_287 : decode b_La_law 287 = .ok (.iconst 0, 1) := by decide +kernel
theorem d_La_law_288 : decode b_La_law 288 = .ok (.ireturn, 1) := by decide +kernel
theorem d_La_law_289 : decode b_La_law 289 = .ok (.goto 375, 3) := by decide +kernel
theorem d_La_law_292 : decode b_La_law 292 = .ok (.aload_n 1, 1) := by decide +kernel
theorem d_La_law_293 : decode b_La_law 293 = .ok (.aload_n 0, 1) := by decide +kernel
theorem d_La_law_294 : decode b_La_law 294 = .ok (.iload 5, 2) := by decide +kernel
theorem d_La_law_296 : decode b_La_law 296 = .ok (.iconst 1, 1) := by decide +kernel
theorem d_La_law_297 : decode b_La_law 297 = .ok (.iadd, 1) := by decide +kernel
theorem d_La_law_298 : decode b_La_law 298 = .ok (.iaload, 1) := by decide +kernel
theorem d_La_law_299 : decode b_La_law 299 = .ok (.aload_n 3, 1) := by decide +kernel
theorem d_La_law_300 : decode b_La_law 300 = .ok (.invokestatic 71, 3) := by decide +kernel
theorem d_La_law_303 : decode b_La_law 303 = .ok (.istore 6, 2) := by decide +kernel
theorem d_La_law_305 : decode b_La_law 305 = .ok (.aload_n 2, 1) := by decide +kernel
theorem d_La_law_306 : decode b_La_law 306 = .ok (.aload_n 0, 1) := by decide +kernel
theorem d_La_law_307 : decode b_La_law 307 = .ok (.iload 5, 2) := by decide +kernel
theorem d_La_law_309 : decode b_La_law 309 = .ok (.iconst 1, 1) := by decide +kernel
theorem d_La_law_310 : decode b_La_law 310 = .ok (.iadd, 1) := by decide +kernel
theorem d_La_law_311 : decode b_La_law 311 = .ok (.iaload, 1) := by decide +kernel
theorem d_La_law_312 : decode b_La_law 312 = .ok (.invokevirtual 74, 3) := by decide +kernel
theorem d_La_law_315 : decode b_La_law 315 = .ok (.istore 7, 2) := by decide +kernel
theorem d_La_law_317 : decode b_La_law 317 = .ok (.aload_n 2, 1) := by decide +kernel
theorem d_La_law_318 : decode b_La_law 318 = .ok (.invokevirtual 57, 3) := by decide +kernel
theorem d_La_law_321 : decode b_La_law 321 = .ok (.iload 6, 2) := by decide +kernel
theorem d_La_law_323 : decode b_La_law 323 = .ok (.if_icmp .eq 5, 3) := by decide +kernel
theorem d_La_law_326 : decode b_La_law 326 = .ok (.iconst 0, 1) := by decide +kernel
theorem d_La_law_327 : decode b_La_law 327 = .ok (.ireturn, 1) := by decide +kernel
theorem d_La_law_328 : decode b_La_law 328 = .ok (.iload 6, 2) := by decide +kernel
theorem d_La_law_330 : decode b_La_law 330 = .ok (.ifCond .ne 15, 3) := by decide +kernel
theorem d_La_law_333 : decode b_La_law 333 = .ok (.aload_n 3, 1) := by decide +kernel
theorem d_La_law_334 : decode b_La_law 334 = .ok (.iconst 0, 1) := by decide +kernel
theorem d_La_law_335 : decode b_La_law 335 = .ok (.laload, 1) := by decide +kernel
theorem d_La_law_336 : decode b_La_law 336 = .ok (.iload 7, 2) := by decide +kernel
theorem d_La_law_338 : decode b_La_law 338 = .ok (.i2l, 1) := by decide +kernel
theorem d_La_law_339 : decode b_La_law 339 = .ok (.lcmp, 1) := by decide +kernel
theorem d_La_law_340 : decode b_La_law 340 = .ok (.ifCond .eq 5, 3) := by decide +kernel
theorem d_La_law_343 : decode b_La_law 343 = .ok (.iconst 0, 1) := by decide +kernel
theorem d_La_law_344 : decode b_La_law 344 = .ok (.ireturn, 1) := by decide +kernel
theorem d_La_law_345 : decode b_La_law 345 = .ok (.goto 319, 3) := by decide +kernel
theorem d_La_law_348 : decode b_La_law 348 = .ok (.aload_n 1, 1) := by decide +kernel
theorem d_La_law_349 : decode b_La_law 349 = .ok (.invokevirtual 75, 3) := by decide +kernel
theorem d_La_law_352 : decode b_La_law 352 = .ok (.aload_n 2, 1) := by decide +kernel
theorem d_La_law_353 : decode b_La_law 353 = .ok (.invokevirtual 78, 3) := by decide +kernel
theorem d_La_law_356 : decode b_La_law 356 = .ok (.if_icmp .eq 308, 3) := by decide +kernel
theorem d_La_law_359 : decode b_La_law 359 = .ok (.iconst 0, 1) := by decide +kernel
theorem d_La_law_360 : decode b_La_law 360 = .ok (.ireturn, 1) := by decide +kernel
theorem d_La_law_361 : decode b_La_law 361 = .ok (.aload_n 1, 1) := by decide +kernel
theorem d_La_law_362 : decode b_La_law 362 = .ok (.aload_n 0, 1) := by decide +kernel
theorem d_La_law_363 : decode b_La_law 363 = .ok (.iload 5, 2) := by decide +kernel
theorem d_La_law_365 : decode b_La_law 365 = .ok (.iconst 1, 1) := by decide +kernel
theorem d_La_law_366 : decode b_La_law 366 = .ok (.iadd, 1) := by decide +kernel
theorem d_La_law_367 : decode b_La_law 367 = .ok (.iaload, 1) := by decide +kernel
theorem d_La_law_368 : decode b_La_law 368 = .ok (.aload_n 3, 1) := by decide +kernel
theorem d_La_law_369 : decode b_La_law 369 = .ok (.invokestatic 79, 3) := by decide +kernel
theorem d_La_law_372 : decode b_La_law 372 = .ok (.istore 6, 2) := by decide +kernel
theorem d_La_law_374 : decode b_La_law 374 = .ok (.aload_n 2, 1) := by decide +kernel
theorem d_La_law_375 : decode b_La_law 375 = .ok (.aload_n 0, 1) := by decide +kernel
theorem d_La_law_376 : decode b_La_law 376 = .ok (.iload 5, 2) := by decide +kernel
theorem d_La_law_378 : decode b_La_law 378 = .ok (.iconst 1, 1) := by decide +kernel
theorem d_La_law_379 : decode b_La_law 379 = .ok (.iadd, 1) := by decide +kernel
theorem d_La_law_380 : decode b_La_law 380 = .ok (.iaload, 1) := by decide +kernel
theorem d_La_law_381 : decode b_La_law 381 = .ok (.invokevirtual 81, 3) := by decide +kernel
theorem d_La_law_384 : decode b_La_law 384 = .ok (.istore 7, 2) := by decide +kernel
theorem d_La_law_386 : decode b_La_law 386 = .ok (.aload_n 2, 1) := by decide +kernel
theorem d_La_law_387 : decode b_La_law 387 = .ok (.invokevirtual 57, 3) := by decide +kernel
theorem d_La_law_390 : decode b_La_law 390 = .ok (.iload 6, 2) := by decide +kernel
theorem d_La_law_392 : decode b_La_law 392 = .ok (.if_icmp .eq 5, 3) := by decide +kernel
theorem d_La_law_395 : decode b_La_law 395 = .ok (.iconst 0, 1) := by decide +kernel
theorem d_La_law_396 : decode b_La_law 396 = .ok (.ireturn, 1) := by decide +kernel
theorem d_La_law_397 : decode b_La_law 397 = .ok (.iload 6, 2) := by decide +kernel
theorem d_La_law_399 : decode b_La_law 399 = .ok (.ifCond .ne 15, 3) := by decide +kernel
theorem d_La_law_402 : decode b_La_law 402 = .ok (.aload_n 3, 1) := by decide +kernel
theorem d_La_law_403 : decode b_La_law 403 = .ok (.iconst 0, 1) := by decide +kernel
theorem d_La_law_404 : decode b_La_law 404 = .ok (.laload, 1) := by decide +kernel
theorem d_La_law_405 : decode b_La_law 405 = .ok (.iload 7, 2) := by decide +kernel
theorem d_La_law_407 : decode b_La_law 407 = .ok (.i2l, 1) := by decide +kernel
theorem d_La_law_408 : decode b_La_law 408 = .ok (.lcmp, 1) := by decide +kernel
theorem d_La_law_409 : decode b_La_law 409 = .ok (.ifCond .eq 5, 3) := by decide +kernel
theorem d_La_law_412 : decode b_La_law 412 = .ok (.iconst 0, 1) := by decide +kernel
theorem d_La_law_413 : decode b_La_law 413 = .ok (.ireturn, 1) := by decide +kernel
theorem d_La_law_414 : decode b_La_law 414 = .ok (.goto 250, 3) := by decide +kernel
theorem d_La_law_417 : decode b_La_law 417 = .ok (.aload_n 1, 1) := by decide +kernel
theorem d_La_law_418 : decode b_La_law 418 = .ok (.aload_n 0, 1) := by decide +kernel
theorem d_La_law_419 : decode b_La_law 419 = .ok (.iload 5, 2) := by decide +kernel
theorem d_La_law_421 : decode b_La_law 421 = .ok (.iconst 1, 1) := by decide +kernel
theorem d_La_law_422 : decode b_La_law 422 = .ok (.iadd, 1) := by decide +kernel
theorem d_La_law_423 : decode b_La_law 423 = .ok (.iaload, 1) := by decide +kernel
theorem d_La_law_424 : decode b_La_law 424 = .ok (.aload 4, 2) := by decide +kernel
theorem d_La_law_426 : decode b_La_law 426 = .ok (.invokestatic 82, 3) := by decide +kernel
theorem d_La_law_429 : decode b_La_law 429 = .ok (.istore 6, 2) := by decide +kernel
theorem d_La_law_431 : decode b_La_law 431 = .ok (.aload_n 2, 1) := by decide +kernel
theorem d_La_law_432 : decode b_La_law 432 = .ok (.aload_n 0, 1) := by decide +kernel
theorem d_La_law_433 : decode b_La_law 433 = .ok (.iload 5, 2) := by decide +kernel
theorem d_La_law_435 : decode b_La_law 435 = .ok (.iconst 1, 1) := by decide +kernel
theorem d_La_law_436 : decode b_La_law 436 = .ok (.iadd, 1) := by decide +kernel
theorem d_La_law_437 : decode b_La_law 437 = .ok (.iaload, 1) := by decide +kernel
theorem d_La_law_438 : decode b_La_law 438 = .ok (.invokevirtual 85, 3) := by decide +kernel
theorem d_La_law_441 : decode b_La_law 441 = .ok (.dstore 7, 2) := by decide +kernel
theorem d_La_law_443 : decode b_La_law 443 = .ok (.aload_n 2, 1) := by decide +kernel
theorem d_La_law_444 : decode b_La_law 444 = .ok (.invokevirtual 57, 3) := by decide +kernel
theorem d_La_law_447 : decode b_La_law 447 = .ok (.iload 6, 2) := by decide +kernel
theorem d_La_law_449 : decode b_La_law 449 = .ok (.if_icmp .eq 5, 3) := by decide +kernel
theorem d_La_law_452 : decode b_La_law 452 = .ok (.iconst 0, 1) := by decide +kernel
theorem d_La_law_453 : decode b_La_law 453 = .ok (.ireturn, 1) := by decide +kernel
theorem d_La_law_454 : decode b_La_law 454 = .ok (.iload 6, 2) := by decide +kernel
theorem d_La_law_456 : decode b_La_law 456 = .ok (.ifCond .ne 35, 3) := by decide +kernel
theorem d_La_law_459 : decode b_La_law 459 = .ok (.aload 4, 2) := by decide +kernel
theorem d_La_law_461 : decode b_La_law 461 = .ok (.iconst 0, 1) := by decide +kernel
theorem d_La_law_462 : decode b_La_law 462 = .ok (.daload, 1) := by decide +kernel
theorem d_La_law_463 : decode b_La_law 463 = .ok (.dload 7, 2) := by decide +kernel
theorem d_La_law_465 : decode b_La_law 465 = .ok (.dcmp .l, 1) := by decide +kernel
theorem d_La_law_466 : decode b_La_law 466 = .ok (.ifCond .eq 25, 3) := by decide +kernel
theorem d_La_law_469 : decode b_La_law 469 = .ok (.aload 4, 2) := by decide +kernel
theorem d_La_law_471 : decode b_La_law 471 = .ok (.iconst 0, 1) := by decide +kernel
theorem d_La_law_472 : decode b_La_law 472 = .ok (.daload, 1) := by decide +kernel
theorem d_La_law_473 : decode b_La_law 473 = .ok (.aload 4, 2) := by decide +kernel
theorem d_La_law_475 : decode b_La_law 475 = .ok (.iconst 0, 1) := by decide +kernel
theorem d_La_law_476 : decode b_La_law 476 = .ok (.daload, 1) := by decide +kernel
theorem d_La_law_477 : decode b_La_law 477 = .ok (.dcmp .l, 1) := by decide +kernel
theorem d_La_law_478 : decode b_La_law 478 = .ok (.ifCond .eq 11, 3) := by decide +kernel
theorem d_La_law_481 : decode b_La_law 481 = .ok (.dload 7, 2) := by decide +kernel
theorem d_La_law_483 : decode b_La_law 483 = .ok (.dload 7, 2) := by decide +kernel
theorem d_La_law_485 : decode b_La_law 485 = .ok (.dcmp .l, 1) := by decide +kernel
theorem d_La_law_486 : decode b_La_law 486 = .ok (.ifCond .ne 5, 3) := by decide +kernel
theorem d_La_law_489 : decode b_La_law 489 = .ok (.iconst 0, 1) := by decide +kernel
theorem d_La_law_490 : decode b_La_law 490 = .ok (.ireturn, 1) := by decide +kernel
theorem d_La_law_491 : decode b_La_law 491 = .ok (.goto 173, 3) := by decide +kernel
theorem d_La_law_494 : decode b_La_law 494 = .ok (.aload_n 1, 1) := by decide +kernel
theorem d_La_law_495 : decode b_La_law 495 = .ok (.aload_n 0, 1) := by decide +kernel
theorem d_La_law_496 : decode b_La_law 496 = .ok (.iload 5, 2) := by decide +kernel
theorem d_La_law_498 : decode b_La_law 498 = .ok (.iconst 1, 1) := by decide +kernel
theorem d_La_law_499 : decode b_La_law 499 = .ok (.iadd, 1) := by decide +kernel
theorem d_La_law_500 : decode b_La_law 500 = .ok (.iaload, 1) := by decide +kernel
theorem d_La_law_501 : decode b_La_law 501 = .ok (.aload 4, 2) := by decide +kernel
theorem d_La_law_503 : decode b_La_law 503 = .ok (.invokestatic 86, 3) := by decide +kernel
theorem d_La_law_506 : decode b_La_law 506 = .ok (.istore 6, 2) := by decide +kernel
theorem d_La_law_508 : decode b_La_law 508 = .ok (.aload_n 2, 1) := by decide +kernel
theorem d_La_law_509 : decode b_La_law 509 = .ok (.aload_n 0, 1) := by decide +kernel
theorem d_La_law_510 : decode b_La_law 510 = .ok (.iload 5, 2) := by decide +kernel
theorem d_La_law_512 : decode b_La_law 512 = .ok (.iconst 1, 1) := by decide +kernel
theorem d_La_law_513 : decode b_La_law 513 = .ok (.iadd, 1) := by decide +kernel
theorem d_La_law_514 : decode b_La_law 514 = .ok (.iaload, 1) := by decide +kernel
theorem d_La_law_515 : decode b_La_law 515 = .ok (.invokevirtual 88, 3) := by decide +kernel
theorem d_La_law_518 : decode b_La_law 518 = .ok (.dstore 7, 2) := by decide +kernel
theorem d_La_law_520 : decode b_La_law 520 = .ok (.aload_n 2, 1) := by decide +kernel
theorem d_La_law_521 : decode b_La_law 521 = .ok (.invokevirtual 57, 3) := by decide +kernel
theorem d_La_law_524 : decode b_La_law 524 = .ok (.iload 6, 2) := by decide +kernel
theorem d_La_law_526 : decode b_La_law 526 = .ok (.if_icmp .eq 5, 3) := by decide +kernel
theorem d_La_law_529 : decode b_La_law 529 = .ok (.iconst 0, 1) := by decide +kernel
theorem d_La_law_530 : decode b_La_law 530 = .ok (.ireturn, 1) := by decide +kernel
theorem d_La_law_531 : decode b_La_law 531 = .ok (.iload 6, 2) := by decide +kernel
theorem d_La_law_533 : decode b_La_law 533 = .ok (.ifCond .ne 35, 3) := by decide +kernel
theorem d_La_law_536 : decode b_La_law 536 = .ok (.aload 4, 2) := by decide +kernel
theorem d_La_law_538 : decode b_La_law 538 = .ok (.iconst 0, 1) := by decide +kernel
theorem d_La_law_539 : decode b_La_law 539 = .ok (.daload, 1) := by decide +kernel
theorem d_La_law_540 : decode b_La_law 540 = .ok (.dload 7, 2) := by decide +kernel
theorem d_La_law_542 : decode b_La_law 542 = .ok (.dcmp .l, 1) := by decide +kernel
theorem d_La_law_543 : decode b_La_law 543 = .ok (.ifCond .eq 25, 3) := by decide +kernel
theorem d_La_law_546 : decode b_La_law 546 = .ok (.aload 4, 2) := by decide +kernel
theorem d_La_law_548 : decode b_La_law 548 = .ok (.iconst 0, 1) := by decide +kernel
theorem d_La_law_549 : decode b_La_law 549 = .ok (.daload, 1) := by decide +kernel
theorem d_La_law_550 : decode b_La_law 550 = .ok (.aload 4, 2) := by decide +kernel
theorem d_La_law_552 : decode b_La_law 552 = .ok (.iconst 0, 1) := by decide +kernel
theorem d_La_law_553 : decode b_La_law 553 = .ok (.daload, 1) := by decide +kernel
theorem d_La_law_554 : decode b_La_law 554 = .ok (.dcmp .l, 1) := by decide +kernel
theorem d_La_law_555 : decode b_La_law 555 = .ok (.ifCond .eq 11, 3) := by decide +kernel
theorem d_La_law_558 : decode b_La_law 558 = .ok (.dload 7, 2) := by decide +kernel
theorem d_La_law_560 : decode b_La_law 560 = .ok (.dload 7, 2) := by decide +kernel
theorem d_La_law_562 : decode b_La_law 562 = .ok (.dcmp .l, 1) := by decide +kernel
theorem d_La_law_563 : decode b_La_law 563 = .ok (.ifCond .ne 5, 3) := by decide +kernel
theorem d_La_law_566 : decode b_La_law 566 = .ok (.iconst 0, 1) := by decide +kernel
theorem d_La_law_567 : decode b_La_law 567 = .ok (.ireturn, 1) := by decide +kernel
theorem d_La_law_568 : decode b_La_law 568 = .ok (.goto 96, 3) := by decide +kernel
theorem d_La_law_571 : decode b_La_law 571 = .ok (.aload_n 1, 1) := by decide +kernel
theorem d_La_law_572 : decode b_La_law 572 = .ok (.aload_n 0, 1) := by decide +kernel
theorem d_La_law_573 : decode b_La_law 573 = .ok (.iload 5, 2) := by decide +kernel
theorem d_La_law_575 : decode b_La_law 575 = .ok (.iconst 1, 1) := by decide +kernel
theorem d_La_law_576 : decode b_La_law 576 = .ok (.iadd, 1) := by decide +kernel
theorem d_La_law_577 : decode b_La_law 577 = .ok (.iaload, 1) := by decide +kernel
theorem d_La_law_578 : decode b_La_law 578 = .ok (.aload_n 0, 1) := by decide +kernel
theorem d_La_law_579 : decode b_La_law 579 = .ok (.iload 5, 2) := by decide +kernel
theorem d_La_law_581 : decode b_La_law 581 = .ok (.iconst 2, 1) := by decide +kernel
theorem d_La_law_582 : decode b_La_law 582 = .ok (.iadd, 1) := by decide +kernel
theorem d_La_law_583 : decode b_La_law 583 = .ok (.iaload, 1) := by decide +kernel
theorem d_La_law_584 : decode b_La_law 584 = .ok (.aload_n 3, 1) := by decide +kernel
theorem d_La_law_585 : decode b_La_law 585 = .ok (.invokestatic 89, 3) := by decide +kernel
theorem d_La_law_588 : decode b_La_law 588 = .ok (.istore 6, 2) := by decide +kernel
theorem d_La_law_590 : decode b_La_law 590 = .ok (.aload_n 2, 1) := by decide +kernel
theorem d_La_law_591 : decode b_La_law 591 = .ok (.aload_n 0, 1) := by decide +kernel
theorem d_La_law_592 : decode b_La_law 592 = .ok (.iload 5, 2) := by decide +kernel
theorem d_La_law_594 : decode b_La_law 594 = .ok (.iconst 1, 1) := by decide +kernel
theorem d_La_law_595 : decode b_La_law 595 = .ok (.iadd, 1) := by decide +kernel
theorem d_La_law_596 : decode b_La_law 596 = .ok (.iaload, 1) := by decide +kernel
theorem d_La_law_597 : decode b_La_law 597 = .ok (.aload_n 0, 1) := by decide +kernel
theorem d_La_law_598 : decode b_La_law 598 = .ok (.iload 5, 2) := by decide +kernel
theorem d_La_law_600 : decode b_La_law 600 = .ok (.iconst 2, 1) := by decide +kernel
theorem d_La_law_601 : decode b_La_law 601 = .ok (.iadd, 1) := by decide +kernel
theorem d_La_law_602 : decode b_La_law 602 = .ok (.iaload, 1) := by decide +kernel
theorem d_La_law_603 : decode b_La_law 603 = .ok (.invokevirtual 92, 3) := by decide +kernel
theorem d_La_law_606 : decode b_La_law 606 = .ok (.istore 7, 2) := by decide +kernel
theorem d_La_law_608 : decode b_La_law 608 = .ok (.aload_n 2, 1) := by decide +kernel
theorem d_La_law_609 : decode b_La_law 609 = .ok (.invokevirtual 57, 3) := by decide +kernel
theorem d_La_law_612 : decode b_La_law 612 = .ok (.iload 6, 2) := by decide +kernel
theorem d_La_law_614 : decode b_La_law 614 = .ok (.if_icmp .eq 5, 3) := by decide +kernel
theorem d_La_law_617 : decode b_La_law 617 = .ok (.iconst 0, 1) := by decide +kernel
theorem d_La_law_618 : decode b_La_law 618 = .ok (.ireturn, 1) := by decide +kernel
theorem d_La_law_619 : decode b_La_law 619 = .ok (.iload 6, 2) := by decide +kernel
theorem d_La_law_621 : decode b_La_law 621 = .ok (.ifCond .ne 15, 3) := by decide +kernel
theorem d_La_law_624 : decode b_La_law 624 = .ok (.aload_n 3, 1) := by decide +kernel
theorem d_La_law_625 : decode b_La_law 625 = .ok (.iconst 0, 1) := by decide +kernel
theorem d_La_law_626 : decode b_La_law 626 = .ok (.laload, 1) := by decide +kernel
theorem d_La_law_627 : decode b_La_law 627 = .ok (.iload 7, 2) := by decide +kernel
theorem d_La_law_629 : decode b_La_law 629 = .ok (.i2l, 1) := by decide +kernel
theorem d_La_law_630 : decode b_La_law 630 = .ok (.lcmp, 1) := by decide +kernel
theorem d_La_law_631 : decode b_La_law 631 = .ok (.ifCond .eq 5, 3) := by decide +kernel
theorem d_La_law_634 : decode b_La_law 634 = .ok (.iconst 0, 1) := by decide +kernel
theorem d_La_law_635 : decode b_La_law 635 = .ok (.ireturn, 1) := by decide +kernel
theorem d_La_law_636 : decode b_La_law 636 = .ok (.goto 28, 3) := by decide +kernel
theorem d_La_law_639 : decode b_La_law 639 = .ok (.aload_n 1, 1) := by decide +kernel
theorem d_La_law_640 : decode b_La_law 640 = .ok (.aload_n 0, 1) := by decide +kernel
theorem d_La_law_641 : decode b_La_law 641 = .ok (.iload 5, 2) := by decide +kernel
theorem d_La_law_643 : decode b_La_law 643 = .ok (.iconst 1, 1) := by decide +kernel
theorem d_La_law_644 : decode b_La_law 644 = .ok (.iadd, 1) := by decide +kernel
theorem d_La_law_645 : decode b_La_law 645 = .ok (.iaload, 1) := by decide +kernel
theorem d_La_law_646 : decode b_La_law 646 = .ok (.invokevirtual 93, 3) := by decide +kernel
theorem d_La_law_649 : decode b_La_law 649 = .ok (.aload_n 2, 1) := by decide +kernel
theorem d_La_law_650 : decode b_La_law 650 = .ok (.aload_n 0, 1) := by decide +kernel
theorem d_La_law_651 : decode b_La_law 651 = .ok (.iload 5, 2) := by decide +kernel
theorem d_La_law_653 : decode b_La_law 653 = .ok (.iconst 1, 1) := by decide +kernel
theorem d_La_law_654 : decode b_La_law 654 = .ok (.iadd, 1) := by decide +kernel
theorem d_La_law_655 : decode b_La_law 655 = .ok (.iaload, 1) := by decide +kernel
theorem d_La_law_656 : decode b_La_law 656 = .ok (.invokevirtual 96, 3) := by decide +kernel
theorem d_La_law_659 : decode b_La_law 659 = .ok (.if_icmp .eq 5, 3) := by decide +kernel
theorem d_La_law_662 : decode b_La_law 662 = .ok (.iconst 0, 1) := by decide +kernel
theorem d_La_law_663 : decode b_La_law 663 = .ok (.ireturn, 1) := by decide +kernel
theorem d_La_law_664 : decode b_La_law 664 = .ok (.iinc 5 7, 3) := by decide +kernel
theorem d_La_law_667 : decode b_La_law 667 = .ok (.goto (-639), 3) := by decide +kernel
theorem d_La_law_670 : decode b_La_law 670 = .ok (.iconst 1, 1) := by decide +kernel
theorem d_La_law_671 : decode b_La_law 671 = .ok (.ireturn, 1) := by decide +kernel
end
section
/-! CALCULUS: a contract of a method that either returns, having made no cell, or throws, having made one (the exception). A: the addresses that it may write (all addresses from the heap's size on among them). -/
section CXdefs
/-- how such a method ends: it wrote in A alone; it returned and Rt holds, or threw an exception of class E and Tx E holds -/
def cx_Q (A : Nat → Prop) (Rt : Option Value → State → Prop) (Tx : String → State → Prop) : Array Value → State → Outcome → State → Prop := fun _ st o t =>
  va_F A st t ∧ st.WarmedH t.vm ∧ ∃ L : List Loc, (∀ z ∈ L, A z.base) ∧
    ((∃ v, o = .returned v ∧ Rt v t ∧ st.sameButNew ({ t with vm := st.vm } : State) L 0 0) ∨
     (∃ (q : Addr) (E : String) (ce : Cell), o = .threw q ∧ Tx E t ∧ t.heap[q]? = some ce ∧ ce.vm = .none ∧ st.vm.findClass E = some ce.cls ∧ st.sameButNew ({ t with vm := st.vm } : State) L 1 6))
abbrev cx_room (fr lo : Nat) : Room := { frames := fr, cells := 1, slots := 6, locals := lo }
/-- the contract: its code by the word w0 -/
def cx_M (l : Launch) (y : MethodName) (w0 : Cond) (fr lo : Nat) (A : Nat → Prop) (As : List Value) (Pre : State → Prop) (Rt : Option Value → State → Prop) (Tx : String → State → Prop) : Prop :=
  MetFree l y (headSpec [w0] (cx_room fr lo)) (fun v U => v = As.toArray ∧ Pre U) (fun _ _ _ _ _ => True) (cx_Q A Rt Tx)
/-- what a body owes at its end -/
def cx_E (below : List Frame) (A : Nat → Prop) (Rt : Option Value → State → Prop) (Tx : String → State → Prop) (a : Array Value) (s : State) : State → Prop := fun t =>
  ∃ o, t.status = .running ∧ Ended t below o ∧ cx_Q A Rt Tx a s o t
/-- frame g of the method, with q thrown over it -/
def cx_W (p : Program) (l : Launch) (e : Env) (R : Room) (s : State) (m : MethodId) (args : Array Value) (below : List Frame) (meth : Method) (c : Code) (H : Heap) (locs : List Loc) (cells slots : Nat) (Q : State → Prop) (g : JFrame) (q : Addr) : Prop :=
  ∀ T : State, T.heap = H → Stand p l e R s m args below meth c T locs cells slots → ∃ t, Steps p.tables e below ((T.setTop g).pushFrame (.throwing q)) t ∧ Q t
end CXdefs
section CXbody
variable {l : Launch} {y : MethodName} {cc : ByteArray} {maxL fr lo : Nat} {ret : Option FieldType} {A : Nat → Prop} {As : List Value} {Pre : State → Prop} {Rt : Option Value → State → Prop} {Tx : String → State → Prop}
/-- a contract out of the walk of its body (no exception table) -/
theorem cx_of (hy : plainFor y = true)
    (body : ∀ p e s m below meth c s₁, BodyLoose p l y (headSpec [Cond.code y cc maxL ret] (cx_room fr lo)) cc maxL ret e s m As.toArray below meth c s₁ → c.maxLocals = maxL → (∀ x ∈ c.exceptionTable.toList, False) → Pre s →
      W p l e (cx_room fr lo) s m As.toArray below meth c s.heap [] 0 0 (cx_E below A Rt Tx As.toArray s) (entryFrame m As.toArray maxL)) : cx_M l y (.code y cc maxL ret) fr lo A As Pre Rt Tx := by
  refine MetFree.of_bodySF (code := cc) (maxLocals := maxL) (ret := ret) hy ?_ ?_
  · intro args s m h hn
    obtain ⟨meth, c, h1, h2, h3, h4, h5, h6, -, -⟩ := Cond.code_spec hn (atoms_spec (ws := [Cond.code y cc maxL ret]) h _ List.mem_cons_self)
    exact ⟨meth, c, h1, h2, h3, h4, h5, h6⟩
  · intro p e s m args below meth c s₁ B hml hP _
    obtain ⟨rfl, hP⟩ := hP
    have hh0 : s₁.heap = s.heap := by rw [B.state]; rfl
    have ht : ∀ x ∈ c.exceptionTable.toList, False := by
      obtain ⟨meth9, c9, h1, h2, -, -, -, -, h7, -⟩ := Cond.code_spec B.named (atoms_spec (ws := [Cond.code y cc maxL ret]) B.pre _ List.mem_cons_self)
      cases Option.some.inj (h1.symm.trans B.method)
      cases Option.some.inj (h2.symm.trans (Stand.of_body B).code)
      intro x hx
      rw [Array.isEmpty_iff.mp h7] at hx
      cases hx
    obtain ⟨t, a1, o, b1, b2, b3⟩ := body p e s m below meth c s₁ B hml ht hP s₁ hh0 (Stand.of_body B)
    exact ⟨t, o, a1, b1, b2, b3⟩
end CXbody
section CXends
variable {p : Program} {l : Launch} {e : Env} {R : Room} {s : State} {m : MethodId} {args : Array Value} {below : List Frame} {meth : Method} {c : Code} {H : Heap} {locs : List Loc} {cells slots : Nat}
variable {A : Nat → Prop} {Rt : Option Value → State → Prop} {Tx : String → State → Prop}
/-- a return -/
theorem cx_ret {g : JFrame} (k : W p l e R s m args below meth c H locs 0 0 (MQ below (fun _ st o t => va_F A st t ∧ ∃ v, o = .returned v ∧ Rt v t) args s 0 0 A) g) : W p l e R s m args below meth c H locs 0 0 (cx_E below A Rt Tx args s) g := by
  intro T hT X
  obtain ⟨t, a1, o, b1, b2, ⟨hF, v, rfl, hR⟩, L, ⟨-, hW, hS⟩, hf⟩ := k T hT X
  exact ⟨t, a1, _, b1, b2, hF, hW, L, hf, Or.inl ⟨v, rfl, hR, hS⟩⟩
/-- it isn't caught here: it goes on to the caller -/
theorem cx_out {pc : Nat} {ls : Array Slot} {rest : List Value} {E : String} {ce : Cell} {q : Addr} (ht : ∀ x ∈ c.exceptionTable.toList, False) (hlocks : meth.locks = false) (hcell : H[q]? = some ce) (hv : ce.vm = .none) (hcl : s.vm.findClass E = some ce.cls)
    (hS : va_S A s.heap H locs) (hx : ∀ t : State, t.heap = H → s.WarmedH t.vm → Tx E t) (hc : cells ≤ 1) (hs : slots ≤ 6) :
    cx_W p l e R s m args below meth c H locs cells slots (cx_E below A Rt Tx args s) (F0 m pc ls rest) q := by
  intro T hT X
  obtain ⟨st1, hrun, hend, hW, hsm⟩ := X.leaveThrown q (g := F0 m pc ls rest) rfl rfl rfl (fun x hx => (ht x hx).elim) hlocks
  have hheap : (T.setFrames (.throwing q :: below)).heap = H := hT
  exact ⟨_, st1, .threw q, hrun, hend, hS.F hheap, hW, locs, hS.2.2, Or.inr ⟨q, E, ce, rfl, hx _ hheap hW, by rw [hheap]; exact hcell, hv, hcl, hsm.mono hc hs⟩⟩
end CXends
section CXcall
variable {p : Program} {l : Launch} {e : Env} {R : Room} {s : State} {m : MethodId} {args : Array Value} {below : List Frame} {meth : Method} {c : Code} {U : State} {locs : List Loc} {cells slots : Nat}
variable {y : MethodName} {w0 : Cond} {maxL fr lo : Nat} {A : Nat → Prop} {As : List Value} {Pre : State → Prop} {Rt : Option Value → State → Prop} {Tx : String → State → Prop}
/-- the callee, entered at a point where this method stands: it comes back, or its exception lies over our frame -/
theorem cx_inv (hM : cx_M l y w0 fr lo A As Pre Rt Tx) (X : Stand p l e R s m args below meth c U locs cells slots)
    {g : JFrame} {ig : Instr} {len : Nat} (hg : g.method = m) (hsize : g.locals.size = c.maxLocals) (hdg : decode c.code g.pc = .ok (ig, len))
    (hW : 2 * g.monitorRoom + (g.stack.map fun v => v.category).sum ≤ 8) {mk : MethodId} (hn : U.methodNamed? y = some mk)
    (hcode : ∃ methY cY, U.vm.method? mk = some methY ∧ methY.code = some cY ∧ cY.maxLocals = maxL) (hw0 : w0.before As.toArray U = true) (hini : (Cond.initialized y.cls).before As.toArray U = true)
    (hP : Pre (U.calling g mk As.toArray)) (hfr : fr + 1 ≤ R.frames) (hlo : 8 + (maxL + 11) + lo ≤ R.locals) (hc : cells + 1 ≤ R.cells) (hs : slots + 6 ≤ R.slots) :
    ∃ (t T' : State) (L : List Loc), T'.heap = t.heap ∧ T'.vm = t.vm ∧ (∀ z ∈ L, A z.base) ∧ va_F A (U.calling g mk As.toArray) t ∧
      ((∃ v, Stand p l e R s m args below meth c T' (locs ++ L) cells slots ∧ Rt v t ∧ Steps p.tables e below (doInvoke e (U.setTop g) [] mk As.toArray).1 (T'.setTop { g with pc := g.pc + len, stack := v.toList ++ g.stack })) ∨
       (∃ (q : Addr) (E : String) (ce : Cell), Stand p l e R s m args below meth c T' (locs ++ L) (cells + 1) (slots + 6) ∧ Tx E t ∧ t.heap[q]? = some ce ∧ ce.vm = .none ∧ U.vm.findClass E = some ce.cls ∧
          Steps p.tables e below (doInvoke e (U.setTop g) [] mk As.toArray).1 ((T'.setTop g).pushFrame (.throwing q)))) := by
  obtain ⟨methY, cY, hmY, hcY, hlY⟩ := hcode
  obtain ⟨kY, hkY, -⟩ := className_of_methodNamed hn
  have hinitY : kY.init = .initialized := Cond.initialized_spec (findClass_of_methodNamed hn) hkY hini
  have h : At U g.method c below := by rw [hg]; exact X.here
  have h1 : (headSpec [w0] (cx_room fr lo)).pre.before As.toArray U = true := atoms_intro fun w hw => by rw [List.mem_singleton.mp hw]; exact hw0
  have happ : (headSpec [w0] (cx_room fr lo)).appliesLoose y e.platform (U.calling g mk As.toArray) = true :=
    Spec.appliesLoose_calling (g := g) h hdg hn hkY hinitY
      (X.room_calling (g := g) (R' := cx_room fr lo) hsize hmY hcY hfr (by rw [hlY]; show _ + lo ≤ _; omega) hc hs) h1
  obtain ⟨mid, hmid⟩ := h.above
  have hfr9 : (U.setTop g).frames = (.java g :: mid) ++ below := by rw [State.frames_setTop' g h.top, hmid]; rfl
  obtain ⟨o, s₂, hsteps, -, hend, hq⟩ := Steps.callFree hM p X.admits X.cas X.clock (acts := []) hfr9 happ ⟨rfl, hP⟩ trivial
  have hq' : cx_Q A Rt Tx As.toArray (U.calling g mk As.toArray) o s₂ := hq
  rw [State.frames_setTop' g h.top] at hend
  obtain ⟨g₀, hg0⟩ := Option.isSome_iff_exists.mp h.top
  obtain ⟨r, hr⟩ := State.topJava?_eq_some.mp hg0
  have hr' : (({ U with heap := s₂.heap, slotsUsed := s₂.slotsUsed } : State).setVm s₂.vm).frames = .java g₀ :: r := hr
  obtain ⟨hF, hW₂, L, hL, hq'⟩ := hq'
  have hW' : U.WarmedH s₂.vm := hW₂
  have key : ∀ {k n : Nat}, (U.calling g mk As.toArray).sameButNew ({ s₂ with vm := (U.calling g mk As.toArray).vm } : State) L k n →
      s₂ = ({ (U.calling g mk As.toArray).setFrames s₂.frames with heap := s₂.heap, slotsUsed := s₂.slotsUsed } : State).setVm s₂.vm ∧
      Stand p l e R s m args below meth c (({ U with heap := s₂.heap, slotsUsed := s₂.slotsUsed } : State).setVm s₂.vm) (locs ++ L) (cells + k) (slots + n) := by
    intro k n hsm
    obtain ⟨e2, q2, q3, q4, q5, q6⟩ := hsm
    have e3 : s₂ = ({ (U.calling g mk As.toArray).setFrames s₂.frames with heap := s₂.heap, slotsUsed := s₂.slotsUsed } : State).setVm s₂.vm := by
      have : s₂ = ({ s₂ with vm := (U.calling g mk As.toArray).vm } : State).setVm s₂.vm := rfl
      rw [e2] at this
      exact this
    have hsame : U.sameButNew ({ U with heap := s₂.heap, slotsUsed := s₂.slotsUsed } : State) L k n := by
      refine ⟨?_, q2, q3, q4, q5, q6⟩
      obtain ⟨t, ht, -⟩ := State.frames_cons hr
      show ({ U with heap := s₂.heap, slotsUsed := s₂.slotsUsed } : State) = { U.setFrames U.frames with heap := s₂.heap, slotsUsed := s₂.slotsUsed }
      rw [State.setFrames_self ht]
    refine ⟨e3, ?_⟩
    exact ⟨X.admits, X.cas, X.clock, X.frames, X.room, X.hears, X.method, X.code, (X.here.setHeapUsed s₂.heap s₂.slotsUsed).setVm hW'.alike, X.tail, State.WarmedH.trans X.warmed hW', X.limits, X.bytes, X.same.trans (hsame.setVm s.vm)⟩
  subst hg
  refine ⟨s₂, ({ U with heap := s₂.heap, slotsUsed := s₂.slotsUsed } : State).setVm s₂.vm, L, rfl, rfl, hL, hF, ?_⟩
  rcases hq' with ⟨v, rfl, hR, hsm⟩ | ⟨q, E, ce, rfl, hx, hce, hcv, hcl, hsm⟩
  · obtain ⟨e3, XS⟩ := key hsm
    obtain ⟨c₂, i₂, len₂, hc₂, hd₂, hf₂⟩ := hend
    have hcc : c₂ = c := by
      have h1 : s₂.code? g.method = U.code? g.method := by
        rw [State.code?_eq, State.code?_eq, hW'.alike.method?]
      exact Option.some.inj (hc₂.symm.trans (h1.trans h.code))
    subst hcc
    have hlen : len₂ = len := by rw [hdg] at hd₂; cases hd₂; rfl
    subst hlen
    have hs₂ : s₂ = (({ U with heap := s₂.heap, slotsUsed := s₂.slotsUsed } : State).setVm s₂.vm).setTop { g with pc := g.pc + len₂, stack := v.toList ++ g.stack } := by
      refine e3.trans ?_
      rw [hf₂, State.calling_eq h.top, State.setFrames_setFrames, State.setTop_of_frames _ hr', hr]
      rfl
    refine Or.inl ⟨v, XS, hR, ?_⟩
    rw [← hs₂]
    exact hsteps
  · obtain ⟨e3, XS⟩ := key hsm
    have hf₂ : s₂.frames = .throwing q :: .java g :: U.frames.tail := hend
    have hs₂ : s₂ = ((({ U with heap := s₂.heap, slotsUsed := s₂.slotsUsed } : State).setVm s₂.vm).setTop g).pushFrame (.throwing q) := by
      refine e3.trans ?_
      rw [hf₂, State.calling_eq h.top, State.setFrames_setFrames, State.pushFrame, State.frames_setTop _ hr', State.setTop_of_frames _ hr', State.setFrames_setFrames, hr]
      rfl
    refine Or.inr ⟨q, E, ce, XS, hx, hce, hcv, hcl, ?_⟩
    rw [← hs₂]
    exact hsteps
end CXcall
section CXrows
variable {p : Program} {l : Launch} {e : Env} {R : Room} {s : State} {m : MethodId} {args : Array Value} {below : List Frame} {meth : Method} {c : Code} {H : Heap} {locs : List Loc} {cells slots : Nat} {Q : State → Prop}
variable {y : MethodName} {bytes cc : ByteArray} {maxL fr lo nL index pc : Nat} {ret : Option FieldType} {A : Nat → Prop} {As rest : List Value} {Pre : State → Prop} {Rt : Option Value → State → Prop} {Tx : String → State → Prop} {own C : String} {b : Addr} {ls : Array Slot} {H0 : Heap}
theorem cx_keep {A0 : Nat → Prop} {st₀ t T' : State} {L : List Loc} (h0 : st₀.heap = H) (e1 : T'.heap = t.heap) (hA : ∀ q, A q → A0 q) (hS : va_S A0 H0 H locs) (hL : ∀ z ∈ L, A z.base) (hF : va_F A st₀ t) :
    H.size ≤ T'.heap.size ∧ (∀ q : Nat, q < H.size → ¬ A q → T'.heap[q]? = H[q]?) ∧ va_S A0 H0 T'.heap (locs ++ L) := by
  obtain ⟨hz, hk⟩ := hF
  rw [h0] at hz hk
  refine ⟨by rw [e1]; exact hz, fun q h1 h2 => by rw [e1]; exact hk q h1 h2, Nat.le_trans hS.1 (by rw [e1]; exact hz), fun q h1 h2 => by rw [e1, hk q (Nat.lt_of_lt_of_le h1 hS.1) (fun z => h2 (hA q z))]; exact hS.2.1 q h1 h2, fun q hq => ?_⟩
  rcases List.mem_append.mp hq with h | h
  · exact hS.2.2 q h
  · exact hA _ (hL q h)
theorem cx_len {d : String} {n : Nat} {sig : MethodDescriptor} (h : (parseMethodDescriptor d).map (fun d => d.parameters.length) = some n) (hs : parseMethodDescriptor d = some sig) : n = sig.parameters.length := by
  rw [hs] at h
  exact (Option.some.inj h).symm
/-- invokevirtual -/
theorem cx_V {A0 : Nat → Prop} (S : CallFix p m c cc nL s args [] own) (hM : cx_M l y (.code y bytes maxL ret) fr lo A (.ref b :: As) Pre Rt Tx)
    (hlink : (Cond.methodLink own index y).before args s = true) (hinst : (Cond.instanceMethod y).before args s = true) (hsel : (Cond.selects C y y).before args s = true) (hcode : (Cond.code y bytes maxL ret).before args s = true) (hini : (Cond.initialized y.cls).before args s = true)
    {n : Nat} (hn : As.length = n) (hy : y.cls ≠ "java/lang/invoke/MethodHandle" ∧ y.cls ≠ "java/lang/invoke/VarHandle" ∧ (parseMethodDescriptor y.desc).map (fun d => d.parameters.length) = some n)
    (hrecv : ∃ cellB : Cell, H[b]? = some cellB ∧ cellB.vm.isStatics = false ∧ s.vm.findClass C = some cellB.cls)
    (hpre : ∀ U : State, U.heap = H → s.WarmedH U.vm → Pre U) (hR : fr + 1 ≤ R.frames ∧ 8 + (maxL + 11) + lo ≤ R.locals) (hf : cells + 1 ≤ R.cells ∧ slots + 6 ≤ R.slots)
    (hsz : ls.size = nL) (hW : (rest.map fun v => v.category).sum ≤ 8) (hdg : decode cc pc = .ok (.invokevirtual index, 3)) (hA : ∀ q, A q → A0 q) (hS : va_S A0 H0 H locs)
    (kx : ∀ (E : String) (ce : Cell) (q : Addr) (t : State) (H1 : Heap) (locs1 : List Loc), t.heap = H1 → Tx E t → H.size ≤ H1.size → (∀ q : Nat, q < H.size → ¬ A q → H1[q]? = H[q]?) → va_S A0 H0 H1 locs1 → H1[q]? = some ce → ce.vm = .none → s.vm.findClass E = some ce.cls → cx_W p l e R s m args below meth c H1 locs1 (cells + 1) (slots + 6) Q (F0 m pc ls rest) q)
    (kk : ∀ (v : Option Value) (t : State) (H1 : Heap) (locs1 : List Loc), t.heap = H1 → Rt v t → H.size ≤ H1.size → (∀ q : Nat, q < H.size → ¬ A q → H1[q]? = H[q]?) → va_S A0 H0 H1 locs1 → W p l e R s m args below meth c H1 locs1 cells slots Q (F0 m (pc + 3) ls (v.toList ++ rest))) :
    W p l e R s m args below meth c H locs cells slots Q (F0 m pc ls (As.reverse ++ .ref b :: rest)) := by
  intro T hT X
  obtain ⟨hx, hb, hml, hown, -⟩ := S
  obtain ⟨cellB, hcB, hoB, hclB⟩ := hrecv
  obtain ⟨mk, methM, hnamed, hmethM, hstM, habM⟩ := Cond.instanceMethod_spec hinst
  obtain ⟨methM', cM, hmethM', -, -, -, -, -, -, hsigM⟩ := Cond.code_spec hnamed hcode
  cases hmethM.symm.trans hmethM'
  obtain ⟨c2, r2, m2, q1, q2, q3, q4, kP, hkP, hkPi⟩ := Cond.selects_spec hsel
  cases hclB.symm.trans q1
  cases (State.methodFound?_of_named hnamed ⟨hy.1, hy.2.1⟩).symm.trans q2
  cases hnamed.symm.trans q3
  have hselP : selectMethod e.platform s.vm cellB.cls mk = .method mk := by rw [Launch.admits_selectMethod X.admits]; exact q4
  obtain ⟨vm₁, X₁, hstep₁⟩ := X.invokevirtual hx hown hlink hnamed hmethM hstM hkP hkPi ⟨hy.1, hy.2.1⟩ (a := b) (cell := cellB) (by rw [hT]; exact hcB)
    (fun z h => by rw [h] at hoB; cases hoB) hselP hmethM habM hkP hkPi (g := F0 m pc ls (As.reverse ++ .ref b :: rest)) rfl (argsL := As) (rest := rest) (hn.trans (cx_len hy.2.2 hsigM)) rfl (by rw [hb]; exact hdg)
  have hcU : (Cond.code y bytes maxL ret).before (Value.ref b :: As).toArray (T.setVm vm₁) = true := word_at X₁.warmed (Or.inl (by first | rfl | simp [Cond.onTables, Cond.keeps, Cond.steady])) hcode
  have hiU : (Cond.initialized y.cls).before (Value.ref b :: As).toArray (T.setVm vm₁) = true := word_at X₁.warmed (Or.inl (by first | rfl | simp [Cond.onTables, Cond.keeps, Cond.steady])) hini
  obtain ⟨methY, cY, hmY, hcY, -, hlY, -, -, -, -⟩ := Cond.code_spec (X₁.named hnamed) hcU
  have hWs : 2 * (F0 m pc ls rest).monitorRoom + ((F0 m pc ls rest).stack.map fun v => v.category).sum ≤ 8 := lv_room hW
  obtain ⟨t, T', L, e1, e2, hL, hF, hres⟩ := cx_inv hM X₁ (g := F0 m pc ls rest) rfl (hsz.trans hml.symm) (by rw [hb]; exact hdg) hWs (X₁.named hnamed) ⟨methY, cY, hmY, hcY, hlY⟩ hcU hiU
    (hpre _ hT X₁.warmed) hR.1 hR.2 hf.1 hf.2
  obtain ⟨hz1, hk1, hS1⟩ := cx_keep (st₀ := (T.setVm vm₁).calling (F0 m pc ls rest) mk (Value.ref b :: As).toArray) hT e1 hA hS hL hF
  rcases hres with ⟨v, XS, hRt, st⟩ | ⟨q, E, ce, XS, hTx, hce, hcv, hcl, st⟩
  · obtain ⟨t2, a1, b1⟩ := kk v t T'.heap (locs ++ L) e1.symm hRt hz1 hk1 hS1 T' rfl XS
    exact ⟨t2, hstep₁ _ fun acts => by rw [doInvoke_state]; exact st.trans a1, b1⟩
  · have hcl' : s.vm.findClass E = some ce.cls := by
      have h1 := hcl
      rw [X₁.warmed.alike.findClass] at h1
      exact h1
    obtain ⟨t2, a1, b1⟩ := kx E ce q t T'.heap (locs ++ L) e1.symm hTx hz1 hk1 hS1 (by rw [e1]; exact hce) hcv hcl' T' rfl XS
    exact ⟨t2, hstep₁ _ fun acts => by rw [doInvoke_state]; exact st.trans a1, b1⟩
/-- invokestatic -/
theorem cx_S {A0 : Nat → Prop} (S : CallFix p m c cc nL s args [] own) (hM : cx_M l y (.code y bytes maxL ret) fr lo A As Pre Rt Tx)
    (hlink : (Cond.methodLink own index y).before args s = true) (hst : (Cond.static y).before args s = true) (hcode : (Cond.code y bytes maxL ret).before args s = true) (hini : (Cond.initialized y.cls).before args s = true)
    {n : Nat} (hn : As.length = n) (hy : y.cls ≠ "java/lang/invoke/MethodHandle" ∧ y.cls ≠ "java/lang/invoke/VarHandle" ∧ (parseMethodDescriptor y.desc).map (fun d => d.parameters.length) = some n)
    (hpre : ∀ U : State, U.heap = H → s.WarmedH U.vm → Pre U) (hR : fr + 1 ≤ R.frames ∧ 8 + (maxL + 11) + lo ≤ R.locals) (hf : cells + 1 ≤ R.cells ∧ slots + 6 ≤ R.slots)
    (hsz : ls.size = nL) (hW : (rest.map fun v => v.category).sum ≤ 8) (hdg : decode cc pc = .ok (.invokestatic index, 3)) (hA : ∀ q, A q → A0 q) (hS : va_S A0 H0 H locs)
    (kx : ∀ (E : String) (ce : Cell) (q : Addr) (t : State) (H1 : Heap) (locs1 : List Loc), t.heap = H1 → Tx E t → H.size ≤ H1.size → (∀ q : Nat, q < H.size → ¬ A q → H1[q]? = H[q]?) → va_S A0 H0 H1 locs1 → H1[q]? = some ce → ce.vm = .none → s.vm.findClass E = some ce.cls → cx_W p l e R s m args below meth c H1 locs1 (cells + 1) (slots + 6) Q (F0 m pc ls rest) q)
    (kk : ∀ (v : Option Value) (t : State) (H1 : Heap) (locs1 : List Loc), t.heap = H1 → Rt v t → H.size ≤ H1.size → (∀ q : Nat, q < H.size → ¬ A q → H1[q]? = H[q]?) → va_S A0 H0 H1 locs1 → W p l e R s m args below meth c H1 locs1 cells slots Q (F0 m (pc + 3) ls (v.toList ++ rest))) :
    W p l e R s m args below meth c H locs cells slots Q (F0 m pc ls (As.reverse ++ rest)) := by
  intro T hT X
  obtain ⟨hx, hb, hml, hown, -⟩ := S
  obtain ⟨mk, hnamed⟩ := Cond.code_named hcode
  obtain ⟨methM, cM, hmethM, -, -, -, -, -, -, hsigM⟩ := Cond.code_spec hnamed hcode
  have hstatic : methM.isStatic = true := Cond.static_spec hnamed hmethM hst
  obtain ⟨kP, hkP, -⟩ := className_of_methodNamed hnamed
  have hinitP : kP.init = .initialized := Cond.initialized_spec (findClass_of_methodNamed hnamed) hkP hini
  obtain ⟨vm₁, X₁, hstep₁⟩ := X.invokestatic hx hown hlink hnamed hmethM hstatic hkP hinitP ⟨hy.1, hy.2.1⟩ (g := F0 m pc ls (As.reverse ++ rest)) rfl (argsL := As) (rest := rest) (hn.trans (cx_len hy.2.2 hsigM)) rfl (by rw [hb]; exact hdg)
  have hcU : (Cond.code y bytes maxL ret).before As.toArray (T.setVm vm₁) = true := word_at X₁.warmed (Or.inl (by first | rfl | simp [Cond.onTables, Cond.keeps, Cond.steady])) hcode
  have hiU : (Cond.initialized y.cls).before As.toArray (T.setVm vm₁) = true := word_at X₁.warmed (Or.inl (by first | rfl | simp [Cond.onTables, Cond.keeps, Cond.steady])) hini
  obtain ⟨methY, cY, hmY, hcY, -, hlY, -, -, -, -⟩ := Cond.code_spec (X₁.named hnamed) hcU
  have hWs : 2 * (F0 m pc ls rest).monitorRoom + ((F0 m pc ls rest).stack.map fun v => v.category).sum ≤ 8 := lv_room hW
  obtain ⟨t, T', L, e1, e2, hL, hF, hres⟩ := cx_inv hM X₁ (g := F0 m pc ls rest) rfl (hsz.trans hml.symm) (by rw [hb]; exact hdg) hWs (X₁.named hnamed) ⟨methY, cY, hmY, hcY, hlY⟩ hcU hiU
    (hpre _ hT X₁.warmed) hR.1 hR.2 hf.1 hf.2
  obtain ⟨hz1, hk1, hS1⟩ := cx_keep (st₀ := (T.setVm vm₁).calling (F0 m pc ls rest) mk As.toArray) hT e1 hA hS hL hF
  rcases hres with ⟨v, XS, hRt, st⟩ | ⟨q, E, ce, XS, hTx, hce, hcv, hcl, st⟩
  · obtain ⟨t2, a1, b1⟩ := kk v t T'.heap (locs ++ L) e1.symm hRt hz1 hk1 hS1 T' rfl XS
    exact ⟨t2, hstep₁ _ fun acts => by rw [doInvoke_state]; exact st.trans a1, b1⟩
  · have hcl' : s.vm.findClass E = some ce.cls := by
      have h1 := hcl
      rw [X₁.warmed.alike.findClass] at h1
      exact h1
    obtain ⟨t2, a1, b1⟩ := kx E ce q t T'.heap (locs ++ L) e1.symm hTx hz1 hk1 hS1 (by rw [e1]; exact hce) hcv hcl' T' rfl XS
    exact ⟨t2, hstep₁ _ fun acts => by rw [doInvoke_state]; exact st.trans a1, b1⟩
end CXrows
section CXthrow
variable {p : Program} {l : Launch} {e : Env} {R : Room} {s : State} {m : MethodId} {args : Array Value} {below : List Frame} {meth : Method} {c : Code} {H : Heap} {locs : List Loc} {cells slots : Nat}
/-- the same point of the same frame, seen as if the method had been called here: nothing written, nothing made since -/
theorem cx_here {T : State} (X : Stand p l e R s m args below meth c T locs cells slots) (hc : cells + 1 ≤ R.cells) (hs : slots + 6 ≤ R.slots) :
    Stand p l e { frames := R.frames, cells := 1, slots := 6, locals := R.locals } ((T.setVm s.vm).setFrames (.invoking m args :: below)) m args below meth c T [] 0 0 := by
  have htop : (T.setVm s.vm).topJava?.isSome := X.here.top
  have hF : ((T.setVm s.vm).setFrames (.invoking m args :: below)).frames = .invoking m args :: below := State.frames_setFrames _ (State.cur_lt_of_top htop)
  obtain ⟨g₀, hg0⟩ := Option.isSome_iff_exists.mp htop
  obtain ⟨r, hr⟩ := State.topJava?_eq_some.mp hg0
  have h1 : ((T.setVm s.vm).setFrames (.invoking m args :: below)).localsInUse = s.localsInUse := by
    rw [State.localsInUse_invoking hF (meth := meth) (c := c) X.method X.code, State.localsInUse_invoking X.frames X.method X.code]
  have h2 : e.platform.stackLimits (T.setVm s.vm).me = e.platform.stackLimits s.me := X.limits
  have h3 : (T.setVm s.vm).me.stackBytes = s.me.stackBytes := X.bytes
  have hz : T.heap.toList.drop T.heap.size = [] := List.drop_eq_nil_of_le (Nat.le_of_eq Array.length_toList)
  constructor
  · exact X.admits
  · exact X.cas
  · exact X.clock
  · exact hF
  · have h := X.room
    have q1 := X.heapSize
    have q2 := X.used
    simp only [State.hasRoom, Bool.and_eq_true, decide_eq_true_eq] at h ⊢
    obtain ⟨⟨⟨⟨a1, a2, a3, a4, a5, a6⟩, a7⟩, a8⟩, a9⟩ := h
    rw [X.frames, List.length_cons] at a2 a3
    simp only [hF, h1, List.length_cons, State.stackLimits_setFrames, State.stackBytes_setFrames, h2, h3]
    refine ⟨⟨⟨⟨by omega, by omega, by omega, by omega, by omega, a6⟩, ?_⟩, ?_⟩, X.book⟩
    · show T.heap.size + 1 ≤ e.platform.maxCells
      omega
    · show T.slotsUsed + 6 ≤ e.platform.maxSlots
      omega
  · exact X.hears
  · exact X.method
  · exact X.code
  · exact X.here
  · exact X.tail
  · exact X.warmed
  · rw [State.stackLimits_setFrames]; rfl
  · rw [State.stackBytes_setFrames]; rfl
  · refine ⟨?_, Nat.le_refl _, Nat.le_refl _, ?_, ?_, fun a c9 h9 => ⟨c9, h9, rfl, rfl, fun _ _ => rfl⟩⟩
    · obtain ⟨t, ht, -⟩ := State.frames_cons hr
      show T.setVm s.vm = { ((T.setVm s.vm).setFrames (.invoking m args :: below)).setFrames (T.setVm s.vm).frames with heap := T.heap, slotsUsed := T.slotsUsed }
      rw [State.setFrames_setFrames, State.setFrames_self ht]
      rfl
    · show T.slotsUsed = T.slotsUsed + ((T.heap.toList.drop T.heap.size).map (·.slots.size)).sum
      rw [hz]
      rfl
    · show ((T.heap.toList.drop T.heap.size).map (·.slots.size)).sum ≤ 0
      rw [hz]
      exact Nat.le_refl _
/-- nothing that was there has changed -/
theorem cx_same {S U : State} {k n : Nat} (h : S.sameButNew ({ U with vm := S.vm } : State) [] k n) : S.heap.size ≤ U.heap.size ∧ ∀ q : Nat, q < S.heap.size → U.heap[q]? = S.heap[q]? := by
  obtain ⟨-, h2, -, -, -, h6⟩ := h
  refine ⟨h2, fun q hq => ?_⟩
  obtain ⟨c9, e1, e2, e3, e4⟩ := h6 q _ (Array.getElem?_eq_getElem hq)
  have hs : c9.slots = (S.heap[q]).slots := Array.ext_getElem? fun i => e4 i (fun hm => nomatch hm)
  rw [hs] at e2
  have e5 : U.heap[q]? = some c9 := e1
  have h9 : c9 = S.heap[q] := e2
  rw [e5, h9, Array.getElem?_eq_getElem hq]
variable {A : Nat → Prop} {Rt : Option Value → State → Prop} {Tx : String → State → Prop}
/-- throw new E(): new; dup; invokespecial; athrow, where no table takes it -/
theorem cx_throw {cc : ByteArray} {pc : Nat} {ls : Array Slot} {rest : List Value} {own cls : String} {names : List String} {ik ic : Nat} (hexec : p.tables.exec = Jvm.exec) (hb : c.code = cc) (hl : l.stackTraces = false)
    (hown : s.vm.findClass own = some m.cls) (hcls : Bundle.fit cls = true) (hnames : ∀ n ∈ names, Bundle.fit n = true)
    (hat : ∀ U : State, U.heap = H → s.WarmedH U.vm → (Cond.classLink own ik cls).before args U = true ∧ (Cond.initialized cls).before args U = true ∧ ∀ w ∈ Bundle.ownAtoms0 own ic cls names, w.before args U = true)
    (hS : va_S A s.heap H locs) (hA : ∀ q, s.heap.size ≤ q → A q) (hsize : ls.size = c.maxLocals)
    (d0 : decode cc pc = .ok (.new ik, 3)) (d3 : decode cc (pc + 3) = .ok (.dup, 1)) (d4 : decode cc (pc + 4) = .ok (.invokespecial ic, 3)) (d7 : decode cc (pc + 7) = .ok (.athrow, 1))
    (ht : ∀ x ∈ c.exceptionTable.toList, False) (hlocks : meth.locks = false)
    (hRf : names.length + 3 < R.frames) (hRl : (rest.map fun v => v.category).sum + (13 * (names.length + 1) + 42) ≤ R.locals) (hRc : 1 ≤ R.cells) (hRs : 6 ≤ R.slots)
    (hx : ∀ t : State, s.WarmedH t.vm → H.size ≤ t.heap.size → (∀ q : Nat, q < H.size → t.heap[q]? = H[q]?) → Tx cls t) :
    W p l e R s m args below meth c H locs 0 0 (cx_E below A Rt Tx args s) (F0 m pc ls rest) := by
  intro T hT X
  have htr : e.platform.stackTraces = false := (show e.platform.stackTraces = l.stackTraces by rw [X.admits.platform]).trans hl
  have Y := cx_here X (by omega) (by omega)
  obtain ⟨s', hs'⟩ : ∃ z, z = (T.setVm s.vm).setFrames (.invoking m args :: below) := ⟨_, rfl⟩
  rw [← hs'] at Y
  have hvm : s'.vm = s.vm := by rw [hs']; rfl
  have hhp : s'.heap = H := by rw [hs']; exact hT
  have hW0 : s.WarmedH s'.vm := by rw [hvm]; exact State.WarmedH.refl s
  obtain ⟨hk', hini', h⟩ := hat s' hhp hW0
  have hown' : s'.vm.findClass own = some m.cls := by rw [hvm]; exact hown
  have hins : (Cond.instantiable cls 6).before args s' = true := h _ (by simp [Bundle.ownAtoms0])
  obtain ⟨vm₁, cX, kX, hfX, hkX, -, -, X₁, st1⟩ := Y.newCold hexec (own := own) (C := cls) (index := ik) (n := 6) hown' hk' hins hini'
    (g := F0 m pc ls rest) rfl (by rw [hb]; exact d0) (Nat.le_refl _) (Nat.le_refl _)
  generalize hT1 : (T.setVm vm₁).pushCell { cls := cX, slots := kX.instanceTypes.map defaultValue, vm := .none } = T1 at X₁ st1
  have hcat : (Value.ref T.heap.size).category = 1 := rfl
  have hcellA : T1.heap[T.heap.size]? = some (freshCell cX kX) := by rw [← hT1]; exact State.heap_pushCell_size _ _
  have d3' : decode c.code (pc + 3) = .ok (.dup, 1) := by rw [hb]; exact d3
  obtain ⟨U, hsteps, hrun, hend, hW, hsame, ce, hce, hO⟩ := X₁.ctorThrow0 hexec htr (own := own) (cls := cls) (names := names) (ic := ic) hown' hcls hnames h (fun x hx => nomatch hx) hfX hkX hcellA (by rw [hhp, hT]; exact Nat.le_refl _)
    (g := { method := m, pc := pc + 4, locals := ls, stack := .ref T.heap.size :: .ref T.heap.size :: rest, locked := none }) rfl hsize rfl rfl (rest := rest) rfl
    (by rw [hb]; exact d4) (by rw [hb]; exact d7) (fun x hx => (ht x hx).elim) hRf (by simp only [List.map_cons, List.sum_cons, hcat]; omega) hlocks
  obtain ⟨f1, f2⟩ := cx_same hsame
  rw [hhp] at f1 f2
  have hWs : s.WarmedH U.vm := State.WarmedH.trans hW0 hW
  have hcl : s.vm.findClass cls = some ce.cls := by
    have h9 := hO.cls
    rw [hvm] at h9
    exact h9
  have hall : s.sameButNew ({ U with vm := s.vm } : State) locs 1 6 := by
    subst hs'
    obtain ⟨e1, e2⟩ := hsame
    rw [State.setFrames_setFrames] at e1
    have h2 : (T.setVm s.vm).sameButNew ({ U with vm := s.vm } : State) [] (0 + 1) (0 + 6) := ⟨e1, e2⟩
    have h3 := X.same.trans h2
    rw [List.append_nil] at h3
    exact h3.mono (by omega) (by omega)
  have hFA : va_F A s U := ⟨Nat.le_trans hS.1 f1, fun q q1 q2 => (f2 q (Nat.lt_of_lt_of_le q1 hS.1)).trans (hS.2.1 q q1 q2)⟩
  refine ⟨U, ?_, .threw T.heap.size, hrun, hend, hFA, hWs, locs, hS.2.2, Or.inr ⟨T.heap.size, cls, ce, rfl, hx U hWs f1 f2, hce, hO.vm, hcl, hall⟩⟩
  refine st1 _ ?_
  show Steps p.tables e below (T1.setTop { method := m, pc := pc + 3, locals := ls, stack := .ref T.heap.size :: rest, locked := none }) _
  jvm_step X₁.here [X₁.here.top, hexec, d3', Value.category]
  exact hsteps
end CXthrow
end
section
/-! BASE: what holds at the law's start s0 and stays: the tables' words, old cells unchanged. -/
section Base
def tb_ok (w : Cond) : Bool := goodWord w || (match w with
  | .fieldLinkNest .. => true
  | .methodLinkNest .. => true
  | .castable .. => true
  | .declares .. => true
  | _ => false)
def Tb (U : State) : Prop := ∀ w ∈ lw_tbl, tb_ok w = true → w.before #[] U = true
theorem Tb.warm {s U : State} (h : Tb s) (hW : s.WarmedH U.vm) : Tb U := by
  intro w hw hk
  have h1 := h w hw hk
  by_cases hg : goodWord w = true
  · exact word_at hW (good_of_word hg) h1
  · have hg' : goodWord w = false := by simpa using hg
    unfold tb_ok at hk
    rw [hg', Bool.false_or] at hk
    split at hk
    · exact va_Nw.warmF hW h1
    · exact va_Nw.warmM hW h1
    · exact va_Nw.warmC hW h1
    · exact va_Nw.warmD hW h1
    · cases hk
theorem Tb.w {s : State} (h : Tb s) {args : Array Value} {w : Cond} (hw : w ∈ lw_tbl) (hk : tb_ok w = true) : w.before args s = true := by
  have h1 := h w hw hk
  by_cases hg : goodWord w = true
  · exact word_at (State.WarmedH.refl s) (good_of_word hg) h1
  · have hg' : goodWord w = false := by simpa using hg
    unfold tb_ok at hk
    rw [hg', Bool.false_or] at hk
    split at hk
    · exact va_any rfl h1
    · exact va_any rfl h1
    · exact va_any rfl h1
    · exact va_any rfl h1
    · cases hk
/-- U is a later state: its tables warmer, every cell that s0 had as it was -/
def Ow (s0 U : State) : Prop := s0.WarmedH U.vm ∧ s0.heap.size ≤ U.heap.size ∧ ∀ q : Nat, q < s0.heap.size → U.heap[q]? = s0.heap[q]?
theorem Ow.rf (s0 : State) : Ow s0 s0 := ⟨State.WarmedH.refl s0, Nat.le_refl _, fun _ _ => rfl⟩
theorem Ow.to {s0 s U : State} {A : Nat → Prop} {H : Heap} {locs : List Loc} (h : Ow s0 s) (hA : ∀ q, A q → s0.heap.size ≤ q) (hS : va_S A s.heap H locs) (hU : U.heap = H) (hW : s.WarmedH U.vm) : Ow s0 U := by
  refine ⟨State.WarmedH.trans h.1 hW, ?_, fun q hq => ?_⟩
  · rw [hU]; exact Nat.le_trans h.2.1 hS.1
  · rw [hU, hS.2.1 q (Nat.lt_of_lt_of_le hq h.2.1) (fun z => absurd (hA q z) (Nat.not_le.mpr hq))]
    exact h.2.2 q hq
theorem Ow.kept {s0 U : State} {A : Nat → Prop} (h : Ow s0 U) : ∀ a : Nat, a < s0.heap.size → ¬ A a → U.heap[a]? = s0.heap[a]? := fun a ha _ => h.2.2 a ha
end Base
section CXcatch
variable {p : Program} {l : Launch} {e : Env} {R : Room} {s : State} {m : MethodId} {args : Array Value} {below : List Frame} {meth : Method} {c : Code} {H : Heap} {locs : List Loc} {cells slots : Nat} {Q : State → Prop}
/-- one row of an exception table whose class is linked: it takes the object or lets it pass -/
theorem cx_row {Q : Handler → Pre} {E : CtlPost} {d : Bool} {acts : List Action} {S : State} {f : JFrame} {a : Addr} {x : ExceptionTableEntry} {t : List ExceptionTableEntry} {k : ClassId} {cell : Cell} {b : Bool} (hx : covers x f.pc = true) (h0 : x.catchType ≠ 0)
    (hl : S.vm.ClassLinks e.platform f.method.cls x.catchType k) (hcell : S.heap[a]? = some cell) (hobj : ∀ z, cell.vm ≠ .statics z)
    (hk : ∃ z, S.vm.classes[cell.cls]? = some z) (hc : ∃ z, S.vm.classes[k]? = some z) (hb : S.vm.assignable cell.cls k = b) :
    wp (findHandler.go f a (x :: t)) Q E e d acts S ↔ (if b = true then Q (.found x.handlerPc) d acts (S.setVm (S.vm.noted f.method.cls x.catchType (.cls k))) else wp (findHandler.go f a t) Q E e d acts (S.setVm (S.vm.noted f.method.cls x.catchType (.cls k)))) := by
  have hal : S.vm.Alike (S.vm.noted f.method.cls x.catchType (.cls k)) := (Vm.Alike.refl S.vm).noted _ _ _
  obtain ⟨ha, ht⟩ := (resolveClass_links e.toSetting hl).op (op := VmOp.resolveClass f.method.cls x.catchType) rfl
  simp only [covers] at hx
  obtain ⟨z1, hz1⟩ := hk
  obtain ⟨z2, hz2⟩ := hc
  obtain ⟨z1', hz1', -⟩ := hal.2.2 _ _ hz1
  obtain ⟨z2', hz2', -⟩ := hal.2.2 _ _ hz2
  have hb' : (S.vm.noted f.method.cls x.catchType (.cls k)).assignable cell.cls k = b := by rw [hal.assignable]; exact hb
  cases b <;> simp [findHandler.go, hx, h0, ha, ht, hcell, hobj, hz1', hz2', hb', VmOp.dirties, VmOp.acts]
end CXcatch
end
section
/-! DOUBLES: which operations give no NaN; the finite ones -/
section FPx
def fp_fin (a : UInt64) : Prop := ∃ s c q, FP.Core.val64 a = .fin s c q
theorem fp_n {a : UInt64} (h : FP.Core.val64 a ≠ .nan) : vf_n64 a := by
  unfold vf_n64
  rw [UInt64.le_iff_toNat_le, UInt64.toNat_and]
  have h1 : (0x7fffffffffffffff : UInt64).toNat = 2 ^ 63 - 1 := by decide
  have h2 : (0x7ff0000000000000 : UInt64).toNat = 9218868437227405312 := by decide
  rw [h1, h2, Nat.and_two_pow_sub_one_eq_mod]
  unfold FP.Core.val64 FP.Core.decode at h
  have t1 : FP.Core.b64.tails = 4503599627370496 := by decide
  have t2 : FP.Core.b64.exps = 2048 := by decide
  unfold FP.Core.fieldE FP.Core.fieldT at h
  rw [t1, t2] at h
  generalize a.toNat = n at h ⊢
  by_cases c1 : n / 4503599627370496 % 2048 = 2048 - 1
  · rw [if_pos c1] at h
    by_cases c2 : n % 4503599627370496 = 0
    · omega
    · rw [if_neg c2] at h
      exact absurd rfl h
  · omega
theorem fp_fin.n {a : UInt64} (h : fp_fin a) : vf_n64 a := by
  obtain ⟨s, c, q, h⟩ := h
  exact fp_n (by rw [h]; intro z; cases z)
theorem fp_ratio (f : FP.Core.Fmt) (s : Bool) (n d : Nat) (e : Int) : FP.Core.roundRatio f s n d e ≠ .nan := by
  unfold FP.Core.roundRatio FP.Core.roundAt FP.Core.settle FP.Core.bound
  split
  · intro z; cases z
  · split <;> split <;> (intro z; cases z)
theorem fp_add {a b : UInt64} (ha : fp_fin a) (hb : fp_fin b) : vf_n64 (FP.dadd a b) := by
  obtain ⟨s, c, q, ha⟩ := ha
  obtain ⟨t, d, r, hb⟩ := hb
  refine fp_n ?_
  rw [FP.Core.val64_dadd, ha, hb]
  exact fp_ratio _ _ _ _ _
theorem fp_sub {a b : UInt64} (ha : fp_fin a) (hb : fp_fin b) : vf_n64 (FP.dsub a b) := by
  obtain ⟨s, c, q, ha⟩ := ha
  obtain ⟨t, d, r, hb⟩ := hb
  refine fp_n ?_
  rw [FP.Core.val64_dsub, ha, hb]
  exact fp_ratio _ _ _ _ _
theorem fp_mul {a b : UInt64} (ha : fp_fin a) (hb : fp_fin b) : vf_n64 (FP.dmul a b) := by
  obtain ⟨s, c, q, ha⟩ := ha
  obtain ⟨t, d, r, hb⟩ := hb
  refine fp_n ?_
  rw [FP.Core.val64_dmul, ha, hb]
  exact fp_ratio _ _ _ _ _
/-- the divisor isn't 0.0 by dcmp -/
theorem fp_div {a b : UInt64} (ha : fp_fin a) (hb : fp_fin b) (hz : ¬ FP.dcmp b FP.dconst0 = some .eq) : vf_n64 (FP.ddiv a b) := by
  obtain ⟨s, c, q, ha⟩ := ha
  obtain ⟨t, d, r, hb⟩ := hb
  refine fp_n ?_
  rw [FP.Core.val64_ddiv, ha, hb]
  have hd : d ≠ 0 := by
    intro z
    apply hz
    show FP.Core.order (FP.Core.val64 b) (FP.Core.val64 FP.dconst0) = some .eq
    rw [hb, show FP.Core.val64 FP.dconst0 = .fin false 0 FP.Core.b64.qmin by decide, z]
    simp [FP.Core.order, FP.Core.inUnits, FP.Core.signed_zero]
  show (if d = 0 then _ else _) ≠ _
  rw [if_neg hd]
  exact fp_ratio _ _ _ _ _
/-- a number that lies between two finite ones is finite -/
theorem fp_between {a lo hi : UInt64} (hn : FP.Core.val64 a ≠ .nan) (hl : fp_fin lo) (hh : fp_fin hi) (h1 : ¬ FP.dcmp a hi = some .gt) (h2 : ¬ FP.dcmp a lo = some .lt) : fp_fin a := by
  obtain ⟨t, d, r, hl⟩ := hl
  obtain ⟨t', d', r', hh⟩ := hh
  change ¬ FP.Core.order (FP.Core.val64 a) (FP.Core.val64 hi) = some .gt at h1
  change ¬ FP.Core.order (FP.Core.val64 a) (FP.Core.val64 lo) = some .lt at h2
  rw [hh] at h1
  rw [hl] at h2
  unfold fp_fin
  cases hv : FP.Core.val64 a with
  | nan => exact absurd hv hn
  | inf s =>
    rw [hv] at h1 h2
    cases s
    · exact absurd (by simp [FP.Core.order, FP.Core.signed]; decide) h1
    · exact absurd (by simp [FP.Core.order, FP.Core.signed]; decide) h2
  | fin s c q => exact ⟨s, c, q, rfl⟩
theorem fp_i2d (x : Int32) : vf_n64 (FP.i2d x) := by
  refine fp_n ?_
  rw [show FP.Core.val64 (FP.i2d x) = FP.Core.round FP.Core.b64 (FP.Core.ofInt x.toInt) from FP.Core.val64_i2d x]
  exact fp_ratio _ _ _ _ _
theorem fp_notnan {a : UInt64} (h : vf_n64 a) : FP.Core.val64 a ≠ .nan := by
  intro z
  unfold vf_n64 at h
  rw [UInt64.le_iff_toNat_le, UInt64.toNat_and] at h
  have h1 : (0x7fffffffffffffff : UInt64).toNat = 2 ^ 63 - 1 := by decide
  have h2 : (0x7ff0000000000000 : UInt64).toNat = 9218868437227405312 := by decide
  rw [h1, h2, Nat.and_two_pow_sub_one_eq_mod] at h
  unfold FP.Core.val64 FP.Core.decode at z
  have t1 : FP.Core.b64.tails = 4503599627370496 := by decide
  have t2 : FP.Core.b64.exps = 2048 := by decide
  unfold FP.Core.fieldE FP.Core.fieldT at z
  rw [t1, t2] at z
  generalize a.toNat = n at h z
  by_cases c1 : n / 4503599627370496 % 2048 = 2048 - 1
  · rw [if_pos c1] at z
    by_cases c2 : n % 4503599627370496 = 0
    · rw [if_pos c2] at z; cases z
    · omega
  · rw [if_neg c1] at z
    split at z <;> cases z
end FPx
end
section
/-! THE CLASS AS PURE FUNCTIONS. State: scalars, int arrays, double arrays, places of instructions, fields of the 24 instruction objects.
scalars: 0 at, 1 stopped, 2 done, 3 began, 4 dividerFree, 5 memoryFree, 6 afterWrongJump, 7 code notFound, 8 data notFound, 9 uses, 10 wrong
int arrays: 0 wholes, 1 ready, 2 groups, 3 lines, 4 latestUse, 5 counters, 6 leaders, 7 heights, 8 behind; double arrays: 0 cells, 1 fractions; places: 0 program, 1 old (24: null)
fields: 0 op, 1 d, 2 a, 3 b, 4 n, 5 written, 6 firstRead, 7 secondRead -/
section Pure
abbrev CS : Type := (Nat → Int32) × (Nat → Nat → Int32) × (Nat → Nat → UInt64) × (Nat → Nat → Nat) × (Nat → Nat → Int32)
def cI (σ : CS) (k : Nat) : Int32 := σ.1 k
def cJ (σ : CS) (k : Nat) : Nat → Int32 := σ.2.1 k
def cF (σ : CS) (k : Nat) : Nat → UInt64 := σ.2.2.1 k
def cP (σ : CS) (k : Nat) : Nat → Nat := σ.2.2.2.1 k
def cQ (σ : CS) (i : Nat) : Nat → Int32 := σ.2.2.2.2 i
def sI (σ : CS) (k : Nat) (v : Int32) : CS := (va_up σ.1 k v, σ.2)
def sJ (σ : CS) (k : Nat) (f : Nat → Int32) : CS := (σ.1, va_up σ.2.1 k f, σ.2.2)
def sF (σ : CS) (k : Nat) (f : Nat → UInt64) : CS := (σ.1, σ.2.1, va_up σ.2.2.1 k f, σ.2.2.2)
def sP (σ : CS) (k : Nat) (f : Nat → Nat) : CS := (σ.1, σ.2.1, σ.2.2.1, va_up σ.2.2.2.1 k f, σ.2.2.2.2)
def sQ (σ : CS) (i : Nat) (f : Nat → Int32) : CS := (σ.1, σ.2.1, σ.2.2.1, σ.2.2.2.1, va_up σ.2.2.2.2 i f)
def ix (x : Int32) : Nat := x.toNatClampNeg
def tabF (l : List Int32) : Nat → Int32 := fun j => l.getD j 0
def latT : Nat → Int32 := tabF [0, 1, 1, 1, 1, 1, 2, 0, 2, 0, 3, 3, 4, 8, 3, 3, 3, 0, 0, 0]
def wrdT : Nat → Int32 := tabF [0, 1, 1, 1, 1, 1, 1, 0, 2, 0, 2, 2, 2, 2, 1, 2, 1, 0, 0, 0]
def rdaT : Nat → Int32 := tabF [0, 1, 1, 1, 1, 1, 1, 1, 1, 1, 2, 2, 2, 2, 2, 1, 2, 1, 1, 0]
def rdbT : Nat → Int32 := tabF [0, 0, 1, 1, 1, 1, 0, 1, 0, 2, 2, 2, 2, 2, 2, 0, 0, 1, 1, 0]
def b2i (c : Bool) : Int32 := if c then 1 else 0
/-- Instruction.register -/
def regF (kind number : Int32) : Int32 := if kind = 2 then 8 + (number - number / 4 * 4) else if kind = 1 then (if number = 0 then -1 else number) else -1
/-- Instruction.become -/
def becQ (op d a b n : Int32) : Nat → Int32 := fun k => match k with
  | 0 => op
  | 1 => d
  | 2 => a
  | 3 => b
  | 4 => n
  | 5 => regF (wrdT (ix op)) d
  | 6 => regF (rdaT (ix op)) a
  | 7 => regF (rdbT (ix op)) b
  | _ => 0
def memQ (q : Nat → Int32) : Bool := if q 0 < 6 then false else if 9 < q 0 then false else true
def tgtQ (q : Nat → Int32) : Bool := if q 0 < 17 then false else true
def endQ (q : Nat → Int32) : Bool := if q 0 = 0 then true else tgtQ q
/-- Math.floorMod -/
def flm (x y : Int32) : Int32 := if 0 ≤ x ^^^ y then x - x / y * y else if x - x / y * y = 0 then x - x / y * y else x - x / y * y + y
/-- Instruction.readsWhatIsWrittenBy -/
def rwQ (q o : Nat → Int32) : Bool := if o 5 = -1 then false else if q 6 = o 5 then true else if q 7 = o 5 then true else false
def trnQ (q : Nat → Int32) : Bool := if q 0 < 6 then false else if 13 < q 0 then false else true
def bwQ (q e : Nat → Int32) : Bool := if q 5 = -1 then false else if q 5 = e 5 then true else false
/-- Instruction.mustStayBehind -/
def msbQ (q e : Nat → Int32) : Bool := if bwQ q e then true else if rwQ q e then true else if rwQ e q then true else if trnQ q then trnQ e else false
/-- CodeCache.misses -/
def cmF (σ : CS) (g : Int32) : Bool × CS := if cJ σ 2 (ix (g - g / 2 * 2)) = g then (false, σ) else (true, sI (sJ σ 2 (upd (cJ σ 2) (ix (g - g / 2 * 2)) g)) 7 (cI σ 7 + 1))
/-- DataCache.misses -/
def dmF (σ : CS) (ln : Int32) : Bool × CS :=
  if cJ σ 3 (ix ((ln - ln / 2 * 2) * 2)) = ln then (false, sJ (sI σ 9 (cI σ 9 + 1)) 4 (upd (cJ σ 4) (ix ((ln - ln / 2 * 2) * 2)) (cI σ 9 + 1)))
  else if cJ σ 3 (ix ((ln - ln / 2 * 2) * 2 + 1)) = ln then (false, sJ (sI σ 9 (cI σ 9 + 1)) 4 (upd (cJ σ 4) (ix ((ln - ln / 2 * 2) * 2 + 1)) (cI σ 9 + 1)))
  else if cJ σ 4 (ix ((ln - ln / 2 * 2) * 2 + 1)) < cJ σ 4 (ix ((ln - ln / 2 * 2) * 2)) then
    (true, sI (sJ (sJ (sI σ 9 (cI σ 9 + 1)) 3 (upd (cJ σ 3) (ix ((ln - ln / 2 * 2) * 2 + 1)) ln)) 4 (upd (cJ σ 4) (ix ((ln - ln / 2 * 2) * 2 + 1)) (cI σ 9 + 1))) 8 (cI σ 8 + 1))
  else (true, sI (sJ (sJ (sI σ 9 (cI σ 9 + 1)) 3 (upd (cJ σ 3) (ix ((ln - ln / 2 * 2) * 2)) ln)) 4 (upd (cJ σ 4) (ix ((ln - ln / 2 * 2) * 2)) (cI σ 9 + 1))) 8 (cI σ 8 + 1))
def imax (x y : Int32) : Int32 := if x < y then y else x
def imin (x y : Int32) : Int32 := if y < x then y else x
/-- Predictor.guessesWrong -/
def gwW (σ : CS) (pl : Int32) (j : Bool) : Bool := if cJ σ 5 (ix (pl - pl / 8 * 8)) < 2 then j else !j
def gwF (σ : CS) (pl : Int32) (j : Bool) : CS :=
  let σ1 := if j then sJ σ 5 (upd (cJ σ 5) (ix (pl - pl / 8 * 8)) (imin (cJ σ 5 (ix (pl - pl / 8 * 8)) + 1) 3)) else sJ σ 5 (upd (cJ σ 5) (ix (pl - pl / 8 * 8)) (imax (cJ σ 5 (ix (pl - pl / 8 * 8)) - 1) 0))
  if gwW σ pl j then sI σ1 10 (cI σ 10 + 1) else σ1
/-- Clock.readyTime -/
def rtF (σ : CS) (r : Int32) : Int32 := if r = -1 then 0 else cJ σ 1 (ix r)
/-- Clock.beginning -/
def bgF (σ : CS) (q : Nat → Int32) (lat : Int32) (gm : Bool) : Int32 :=
  let t0 := cI σ 3 + 1 + (if b2i gm = 0 then 0 else 4) + (if cI σ 6 = 0 then 0 else 2)
  let t1 := imax (imax t0 (rtF σ (q 6))) (rtF σ (q 7))
  let t2 := if q 0 = 13 then imax t1 (cI σ 4) else t1
  let t3 := if memQ q then imax t2 (cI σ 5) else t2
  imax t3 (rtF σ (q 5) - lat + 1)
/-- Clock.begin -/
def beF (σ : CS) (q : Nat → Int32) (gm lm wj : Bool) : CS :=
  let ld : Int32 := if b2i lm = 0 then 0 else 5
  let lat := latT (ix (q 0)) + ld
  let b := bgF σ q lat gm
  let σ1 := sI (sI σ 3 b) 6 (b2i wj)
  let σ2 := if q 5 = -1 then σ1 else sJ σ1 1 (upd (cJ σ 1) (ix (q 5)) (b + lat))
  let σ3 := if q 0 = 13 then sI σ2 4 (b + 8) else σ2
  if memQ q then sI σ3 5 (b + 1 + ld) else σ3
/-- putWhole -/
def pwF (σ : CS) (r v : Int32) : CS := if r = 0 then σ else sJ σ 0 (upd (cJ σ 0) (ix r) v)
abbrev m4 (x : Int32) : Nat := ix (x - x / 4 * 4)
/-- moveCell: what it does to the cells and registers before the cache is asked -/
def mvF (σ : CS) (q : Nat → Int32) (ad : Int32) : CS :=
  if q 0 = 6 then pwF σ (q 1) (FP.d2i (cF σ 0 (ix ad)))
  else if q 0 = 7 then sF σ 0 (vf_upd (cF σ 0) (ix ad) (FP.i2d (cJ σ 0 (ix (q 3)))))
  else if q 0 = 8 then sF σ 1 (vf_upd (cF σ 1) (m4 (q 1)) (cF σ 0 (ix ad)))
  else sF σ 0 (vf_upd (cF σ 0) (ix ad) (cF σ 1 (m4 (q 3))))
def adF (σ : CS) (q : Nat → Int32) : Int32 := cJ σ 0 (ix (q 2)) + q 4
def badA (ad : Int32) : Bool := if ad < 0 then true else if ad < 48 then false else true
/-- computedWhole -/
def cwF (σ : CS) (q : Nat → Int32) : Int32 :=
  if q 0 = 1 then cJ σ 0 (ix (q 2)) + q 4 else if q 0 = 2 then cJ σ 0 (ix (q 2)) + cJ σ 0 (ix (q 3)) else if q 0 = 3 then cJ σ 0 (ix (q 2)) - cJ σ 0 (ix (q 3)) else if q 0 = 4 then cJ σ 0 (ix (q 2)) * cJ σ 0 (ix (q 3))
  else if cJ σ 0 (ix (q 3)) ≤ cJ σ 0 (ix (q 2)) then 0 else 1
def lim9 : UInt64 := 4741671816366391296
def lim9m : UInt64 := 13965043853221167104
/-- quotient and outcomeOf: whether they throw; what they answer -/
def dzF (op : Int32) (y : UInt64) : Bool := if op = 10 then false else if op = 11 then false else if op = 12 then false else if Op.cmpValue (FP.dcmp y FP.dconst0) .l = 0 then true else false
def ocF (op : Int32) (x y : UInt64) : UInt64 := if op = 10 then FP.dadd x y else if op = 11 then FP.dsub x y else if op = 12 then FP.dmul x y else FP.ddiv x y
def ovF (r : UInt64) : Bool := if 0 < Op.cmpValue (FP.dcmp r lim9) .l then true else if 0 ≤ Op.cmpValue (FP.dcmp r lim9m) .g then false else true
/-- computedFraction throws -/
def cfT (op : Int32) (x y : UInt64) : Bool := if dzF op y then true else ovF (ocF op x y)
/-- compute throws -/
def cpT (σ : CS) (q : Nat → Int32) : Bool := if 5 < q 0 then (if q 0 = 14 then false else if q 0 = 15 then false else if q 0 = 16 then false else cfT (q 0) (cF σ 1 (m4 (q 2))) (cF σ 1 (m4 (q 3)))) else false
def cpF (σ : CS) (q : Nat → Int32) : CS :=
  if 5 < q 0 then
    (if q 0 = 14 then pwF σ (q 1) (if 0 ≤ Op.cmpValue (FP.dcmp (cF σ 1 (m4 (q 2))) (cF σ 1 (m4 (q 3)))) .g then 0 else 1)
    else if q 0 = 15 then sF σ 1 (vf_upd (cF σ 1) (m4 (q 1)) (FP.i2d (cJ σ 0 (ix (q 2)))))
    else if q 0 = 16 then pwF σ (q 1) (FP.d2i (cF σ 1 (m4 (q 2))))
    else sF σ 1 (vf_upd (cF σ 1) (m4 (q 1)) (ocF (q 0) (cF σ 1 (m4 (q 2))) (cF σ 1 (m4 (q 3))))))
  else pwF σ (q 1) (cwF σ q)
/-- jumpIsDue -/
def jdF (σ : CS) (q : Nat → Int32) : Bool :=
  if q 0 = 17 then (if cJ σ 0 (ix (q 2)) = cJ σ 0 (ix (q 3)) then true else false) else if q 0 = 18 then (if cJ σ 0 (ix (q 2)) = cJ σ 0 (ix (q 3)) then false else true) else true
/-- the end of doOne -/
def dnF (σ : CS) (q : Nat → Int32) (gm lm wr jp : Bool) : CS :=
  let σ1 := beF σ q gm lm wr
  let σ2 := sI σ1 2 (cI σ1 2 + 1)
  if cI σ1 1 = 0 then sI σ2 0 (if jp then flm (q 4) 24 else (cI σ1 0 + 1) - (cI σ1 0 + 1) / 24 * 24) else σ2
/-- doOne: 0, or what it throws (3 an index, 4 arithmetic) -/
def doT (σ : CS) (q : Nat → Int32) : Nat := if memQ q then (if badA (adF σ q) then 3 else 0) else if tgtQ q then 0 else if q 0 = 0 then 0 else if cpT σ q then 4 else 0
def doQ (σ : CS) : Nat → Int32 := cQ (cmF σ (cI σ 0 / 4)).2 (cP σ 0 (ix (cI σ 0)))
def doG (σ : CS) (q : Nat → Int32) (gm : Bool) : CS :=
  if memQ q then (if badA (adF σ q) then sI σ 1 1 else dnF (dmF (mvF σ q (adF σ q)) (adF σ q / 4)).2 q gm (dmF (mvF σ q (adF σ q)) (adF σ q / 4)).1 false false)
  else if tgtQ q then (if q 0 = 19 then dnF σ q gm false false (jdF σ q) else dnF (gwF σ (cI σ 0) (jdF σ q)) q gm false (gwW σ (cI σ 0) (jdF σ q)) (jdF σ q))
  else if q 0 = 0 then dnF (sI σ 1 1) q gm false false false
  else if cpT σ q then sI σ 1 1 else dnF (cpF σ q) q gm false false false
def doF (σ : CS) : Nat × CS := (doT (cmF σ (cI σ 0 / 4)).2 (doQ σ), doG (cmF σ (cI σ 0 / 4)).2 (doQ σ) (cmF σ (cI σ 0 / 4)).1)
/-- run's loop, with so much fuel -/
def ruF : Nat → CS → Int32 → Int32 → Nat × Int32 × CS
  | 0, σ, k, _ => (0, k, σ)
  | f + 1, σ, k, n => if n ≤ k then (0, k, σ) else if cI σ 1 = 0 then (if (doF σ).1 = 0 then ruF f (doF σ).2 (k + 1) n else ((doF σ).1, k, (doF σ).2)) else (0, k, σ)
/-- refuseOutside throws -/
def badR (n g : Int32) : Bool := if n < 0 then true else if n ≤ g then false else true
def badC (i o d a b : Int32) : Bool := if badR i 23 then true else if badR o 19 then true else if badR d 7 then true else if badR a 7 then true else badR b 7
def badV (v : UInt64) : Bool := if Op.cmpValue (FP.dcmp v 13920209183539462144) .l < 0 then true else if 0 < Op.cmpValue (FP.dcmp v 4696837146684686336) .g then true else false
def toldF (q : Nat → Int32) (w : Int32) : Int32 := if w = 0 then q 0 else if w = 1 then q 1 else if w = 2 then q 2 else if w = 3 then q 3 else q 4
def cntF (σ : CS) (w : Int32) : Int32 :=
  if ¬ w < 10 ∧ ¬ 18 ≤ w then cJ σ 1 (ix (w - 10)) else if ¬ w < 20 ∧ ¬ 24 ≤ w then cJ σ 1 (ix (8 + w - 20)) else
  if w = 0 then cI σ 0 else if w = 1 then (if cI σ 1 = 0 then 0 else 1) else if w = 2 then cI σ 2 else if w = 3 then cI σ 3 else if w = 4 then cI σ 7 else if w = 5 then cI σ 8 else if w = 6 then cI σ 10 else -2
/-- an instruction's fields are in range -/
def okQ (q : Nat → Int32) : Prop := vp_in (q 0) 20 ∧ vp_in (q 1) 8 ∧ vp_in (q 2) 8 ∧ vp_in (q 3) 8 ∧ (q 5 = -1 ∨ vp_in (q 5) 12) ∧ (q 6 = -1 ∨ vp_in (q 6) 12) ∧ (q 7 = -1 ∨ vp_in (q 7) 12)
theorem cJ_sI (σ : CS) (k : Nat) (v : Int32) : cJ (sI σ k v) = cJ σ := rfl
theorem cF_sI (σ : CS) (k : Nat) (v : Int32) : cF (sI σ k v) = cF σ := rfl
theorem cP_sI (σ : CS) (k : Nat) (v : Int32) : cP (sI σ k v) = cP σ := rfl
theorem cQ_sI (σ : CS) (k : Nat) (v : Int32) : cQ (sI σ k v) = cQ σ := rfl
theorem cI_sJ (σ : CS) (k : Nat) (f : Nat → Int32) : cI (sJ σ k f) = cI σ := rfl
theorem cF_sJ (σ : CS) (k : Nat) (f : Nat → Int32) : cF (sJ σ k f) = cF σ := rfl
theorem cP_sJ (σ : CS) (k : Nat) (f : Nat → Int32) : cP (sJ σ k f) = cP σ := rfl
theorem cQ_sJ (σ : CS) (k : Nat) (f : Nat → Int32) : cQ (sJ σ k f) = cQ σ := rfl
theorem cI_sF (σ : CS) (k : Nat) (f : Nat → UInt64) : cI (sF σ k f) = cI σ := rfl
theorem cJ_sF (σ : CS) (k : Nat) (f : Nat → UInt64) : cJ (sF σ k f) = cJ σ := rfl
theorem cP_sF (σ : CS) (k : Nat) (f : Nat → UInt64) : cP (sF σ k f) = cP σ := rfl
theorem cQ_sF (σ : CS) (k : Nat) (f : Nat → UInt64) : cQ (sF σ k f) = cQ σ := rfl
theorem cI_sP (σ : CS) (k : Nat) (f : Nat → Nat) : cI (sP σ k f) = cI σ := rfl
theorem cJ_sP (σ : CS) (k : Nat) (f : Nat → Nat) : cJ (sP σ k f) = cJ σ := rfl
theorem cF_sP (σ : CS) (k : Nat) (f : Nat → Nat) : cF (sP σ k f) = cF σ := rfl
theorem cQ_sP (σ : CS) (k : Nat) (f : Nat → Nat) : cQ (sP σ k f) = cQ σ := rfl
theorem cI_sI (σ : CS) (k : Nat) (v : Int32) (j : Nat) : cI (sI σ k v) j = if j = k then v else cI σ j := rfl
theorem cJ_sJ (σ : CS) (k : Nat) (f : Nat → Int32) (j : Nat) : cJ (sJ σ k f) j = if j = k then f else cJ σ j := rfl
theorem cF_sF (σ : CS) (k : Nat) (f : Nat → UInt64) (j : Nat) : cF (sF σ k f) j = if j = k then f else cF σ j := rfl
theorem cP_sP (σ : CS) (k : Nat) (f : Nat → Nat) (j : Nat) : cP (sP σ k f) j = if j = k then f else cP σ j := rfl
/-- the state is in range: the place, the program, the instructions; doubles are finite -/
def Wf (σ : CS) : Prop := vp_in (cI σ 0) 24 ∧ (∀ i, i < 24 → cP σ 0 i < 24) ∧ (∀ i, i < 24 → okQ (cQ σ i)) ∧ (∀ j, j < 48 → fp_fin (cF σ 0 j)) ∧ (∀ j, j < 4 → fp_fin (cF σ 1 j))
theorem cmF_Q (σ : CS) (g : Int32) : cQ (cmF σ g).2 = cQ σ := by unfold cmF; split <;> rfl
theorem cmF_F (σ : CS) (g : Int32) : cF (cmF σ g).2 = cF σ := by unfold cmF; split <;> rfl
theorem dmF_Q (σ : CS) (g : Int32) : cQ (dmF σ g).2 = cQ σ := by unfold dmF; split; rfl; split; rfl; split <;> rfl
theorem pwF_Q (σ : CS) (r v : Int32) : cQ (pwF σ r v) = cQ σ := by unfold pwF; split <;> rfl
theorem mvF_Q (σ : CS) (q : Nat → Int32) (a : Int32) : cQ (mvF σ q a) = cQ σ := by
  unfold mvF
  split
  · exact pwF_Q _ _ _
  · split
    · rfl
    · split <;> rfl
theorem gwF_Q (σ : CS) (x : Int32) (j : Bool) : cQ (gwF σ x j) = cQ σ := by
  unfold gwF
  cases j <;> simp <;> split <;> rfl
theorem cpF_Q (σ : CS) (q : Nat → Int32) : cQ (cpF σ q) = cQ σ := by
  unfold cpF
  split
  · split
    · exact pwF_Q _ _ _
    · split
      · rfl
      · split
        · exact pwF_Q _ _ _
        · rfl
  · exact pwF_Q _ _ _
theorem beF_Q (σ : CS) (q : Nat → Int32) (a b c : Bool) : cQ (beF σ q a b c) = cQ σ := by
  unfold beF
  dsimp only
  split <;> split <;> split <;> rfl
end Pure
end
section
/-! WORDS, by program (wip/whole/prog/words.py): each word of the tables that a row may want -/
section Words
variable {s : State} {args : Array Value}
theorem in_t1 {w : Cond} (h : w ∈ tables_1_1) : w ∈ lw_tbl := List.mem_append_right _ (List.mem_append_left _ h)
theorem in_t2 {w : Cond} (h : w ∈ tables_1_2) : w ∈ lw_tbl := List.mem_append_right _ (List.mem_append_right _ (List.mem_append_left _ h))
theorem in_t3 {w : Cond} (h : w ∈ tables_1_3) : w ∈ lw_tbl := List.mem_append_right _ (List.mem_append_right _ (List.mem_append_right _ (List.mem_append_left _ h)))
theorem in_t4 {w : Cond} (h : w ∈ tables_1_4) : w ∈ lw_tbl := List.mem_append_right _ (List.mem_append_right _ (List.mem_append_right _ (List.mem_append_right _ h)))
theorem in_s {w : Cond} (h : w ∈ k2_sels lw_privs) : w ∈ lw_tbl := List.mem_append_left _ h
theorem k_0 (h : Tb s) : (Cond.initialized R_La).before args s = true := h.w (in_t1 (List.mem_of_getElem? (i := 0) rfl)) rfl
theorem k_1 (h : Tb s) : (Cond.initialized R_Pc).before args s = true := h.w (in_t1 (List.mem_of_getElem? (i := 1) rfl)) rfl
theorem k_2 (h : Tb s) : (Cond.initialized R_Ck).before args s = true := h.w (in_t1 (List.mem_of_getElem? (i := 2) rfl)) rfl
theorem k_3 (h : Tb s) : (Cond.initialized R_Cc).before args s = true := h.w (in_t1 (List.mem_of_getElem? (i := 3) rfl)) rfl
theorem k_4 (h : Tb s) : (Cond.initialized R_Ar).before args s = true := h.w (in_t1 (List.mem_of_getElem? (i := 4) rfl)) rfl
theorem k_5 (h : Tb s) : (Cond.initialized R_Dc).before args s = true := h.w (in_t1 (List.mem_of_getElem? (i := 5) rfl)) rfl
theorem k_6 (h : Tb s) : (Cond.initialized R_Pr).before args s = true := h.w (in_t1 (List.mem_of_getElem? (i := 6) rfl)) rfl
theorem k_7 (h : Tb s) : (Cond.initialized R_Sc).before args s = true := h.w (in_t1 (List.mem_of_getElem? (i := 7) rfl)) rfl
theorem k_8 (h : Tb s) : (Cond.initialized R_In).before args s = true := h.w (in_t1 (List.mem_of_getElem? (i := 8) rfl)) rfl
theorem k_9 (h : Tb s) : (Cond.initialized R_Mo).before args s = true := h.w (in_t1 (List.mem_of_getElem? (i := 9) rfl)) rfl
theorem k_10 (h : Tb s) : (Cond.initialized "java/lang/Throwable").before args s = true := h.w (in_t1 (List.mem_of_getElem? (i := 10) rfl)) rfl
theorem k_11 (h : Tb s) : (Cond.initialized "java/lang/Exception").before args s = true := h.w (in_t1 (List.mem_of_getElem? (i := 11) rfl)) rfl
theorem k_12 (h : Tb s) : (Cond.initialized "java/lang/RuntimeException").before args s = true := h.w (in_t1 (List.mem_of_getElem? (i := 12) rfl)) rfl
theorem k_13 (h : Tb s) : (Cond.initialized "java/lang/IllegalArgumentException").before args s = true := h.w (in_t1 (List.mem_of_getElem? (i := 13) rfl)) rfl
theorem k_14 (h : Tb s) : (Cond.initialized "java/lang/IllegalStateException").before args s = true := h.w (in_t1 (List.mem_of_getElem? (i := 14) rfl)) rfl
theorem k_15 (h : Tb s) : (Cond.initialized "java/lang/IndexOutOfBoundsException").before args s = true := h.w (in_t1 (List.mem_of_getElem? (i := 15) rfl)) rfl
theorem k_16 (h : Tb s) : (Cond.initialized R_Ma).before args s = true := h.w (in_t1 (List.mem_of_getElem? (i := 16) rfl)) rfl
theorem k_17 (h : Tb s) : (Cond.initialized "java/lang/ArithmeticException").before args s = true := h.w (in_t1 (List.mem_of_getElem? (i := 17) rfl)) rfl
theorem k_18 (h : Tb s) : (Cond.classLink R_La 8 R_Pc).before args s = true := h.w (in_t1 (List.mem_of_getElem? (i := 18) rfl)) rfl
theorem k_19 (h : Tb s) : (Cond.instantiable R_Pc 12).before args s = true := h.w (in_t1 (List.mem_of_getElem? (i := 19) rfl)) rfl
theorem k_20 (h : Tb s) : (Cond.methodLink R_La 47 y_Pc_init).before args s = true := h.w (in_t1 (List.mem_of_getElem? (i := 20) rfl)) rfl
theorem k_21 (h : Tb s) : (Cond.instanceMethod y_Pc_init).before args s = true := h.w (in_t1 (List.mem_of_getElem? (i := 21) rfl)) rfl
theorem k_22 (h : Tb s) : (Cond.code y_Pc_init b_Pc_init 2 none).before args s = true := h.w (in_t1 (List.mem_of_getElem? (i := 22) rfl)) rfl
theorem k_23 (h : Tb s) : (Cond.methodLink R_Pc 1 objectInit).before args s = true := h.w (in_t1 (List.mem_of_getElem? (i := 23) rfl)) rfl
theorem k_24 (h : Tb s) : (Cond.instanceMethod objectInit).before args s = true := h.w (in_t1 (List.mem_of_getElem? (i := 24) rfl)) rfl
theorem k_25 (h : Tb s) : (Cond.code objectInit ⟨#[0xb1]⟩ 1 none).before args s = true := h.w (in_t1 (List.mem_of_getElem? (i := 25) rfl)) rfl
theorem k_26 (h : Tb s) : (Cond.classLink R_Pc 9 R_In).before args s = true := h.w (in_t1 (List.mem_of_getElem? (i := 26) rfl)) rfl
theorem k_28 (h : Tb s) : (Cond.classLink R_Pc 26 R_Ck).before args s = true := h.w (in_t1 (List.mem_of_getElem? (i := 28) rfl)) rfl
theorem k_29 (h : Tb s) : (Cond.instantiable R_Ck 5).before args s = true := h.w (in_t1 (List.mem_of_getElem? (i := 29) rfl)) rfl
theorem k_30 (h : Tb s) : (Cond.methodLinkNest R_Pc 28 y_Ck_init "PipeComputer").before args s = true := h.w (in_t1 (List.mem_of_getElem? (i := 30) rfl)) rfl
theorem k_31 (h : Tb s) : (Cond.instanceMethod y_Ck_init).before args s = true := h.w (in_t1 (List.mem_of_getElem? (i := 31) rfl)) rfl
theorem k_32 (h : Tb s) : (Cond.code y_Ck_init b_Ck_init 1 none).before args s = true := h.w (in_t1 (List.mem_of_getElem? (i := 32) rfl)) rfl
theorem k_33 (h : Tb s) : (Cond.methodLink R_Ck 3 objectInit).before args s = true := h.w (in_t1 (List.mem_of_getElem? (i := 33) rfl)) rfl
theorem k_34 (h : Tb s) : (Cond.fieldLink R_Ck 9 "PipeComputer$Clock" "ready" "[I").before args s = true := h.w (in_t1 (List.mem_of_getElem? (i := 34) rfl)) rfl
theorem k_35 (h : Tb s) : (Cond.fieldLink R_Pc 130 "PipeComputer$Clock" "ready" "[I").before args s = true := h.w (in_t1 (List.mem_of_getElem? (i := 35) rfl)) rfl
theorem k_36 (h : Tb s) : (Cond.fieldLink R_Ck 15 "PipeComputer$Clock" "began" "I").before args s = true := h.w (in_t1 (List.mem_of_getElem? (i := 36) rfl)) rfl
theorem k_37 (h : Tb s) : (Cond.fieldLink R_Pc 133 "PipeComputer$Clock" "began" "I").before args s = true := h.w (in_t1 (List.mem_of_getElem? (i := 37) rfl)) rfl
theorem k_38 (h : Tb s) : (Cond.fieldLink R_Ck 19 "PipeComputer$Clock" "dividerFree" "I").before args s = true := h.w (in_t1 (List.mem_of_getElem? (i := 38) rfl)) rfl
theorem k_39 (h : Tb s) : (Cond.fieldLink R_Ck 22 "PipeComputer$Clock" "memoryFree" "I").before args s = true := h.w (in_t1 (List.mem_of_getElem? (i := 39) rfl)) rfl
theorem k_40 (h : Tb s) : (Cond.fieldLink R_Ck 25 "PipeComputer$Clock" "afterWrongJump" "Z").before args s = true := h.w (in_t1 (List.mem_of_getElem? (i := 40) rfl)) rfl
theorem k_52 (h : Tb s) : (Cond.arrayClass .double).before args s = true := h.w (in_t1 (List.mem_of_getElem? (i := 52) rfl)) rfl
theorem k_53 (h : Tb s) : (Cond.arrayClass .int).before args s = true := h.w (in_t1 (List.mem_of_getElem? (i := 53) rfl)) rfl
theorem k_54 (h : Tb s) : (Cond.classLink R_Pc 33 R_Cc).before args s = true := h.w (in_t1 (List.mem_of_getElem? (i := 54) rfl)) rfl
theorem k_55 (h : Tb s) : (Cond.instantiable R_Cc 2).before args s = true := h.w (in_t1 (List.mem_of_getElem? (i := 55) rfl)) rfl
theorem k_56 (h : Tb s) : (Cond.methodLink R_Pc 35 y_Cc_init).before args s = true := h.w (in_t1 (List.mem_of_getElem? (i := 56) rfl)) rfl
theorem k_57 (h : Tb s) : (Cond.instanceMethod y_Cc_init).before args s = true := h.w (in_t1 (List.mem_of_getElem? (i := 57) rfl)) rfl
theorem k_58 (h : Tb s) : (Cond.code y_Cc_init b_Cc_init 1 none).before args s = true := h.w (in_t1 (List.mem_of_getElem? (i := 58) rfl)) rfl
theorem k_59 (h : Tb s) : (Cond.methodLink R_Cc 3 objectInit).before args s = true := h.w (in_t1 (List.mem_of_getElem? (i := 59) rfl)) rfl
theorem k_60 (h : Tb s) : (Cond.methodLink R_Cc 19 y_Cc_empty).before args s = true := h.w (in_t1 (List.mem_of_getElem? (i := 60) rfl)) rfl
theorem k_61 (h : Tb s) : (Cond.instanceMethod y_Cc_empty).before args s = true := h.w (in_t1 (List.mem_of_getElem? (i := 61) rfl)) rfl
theorem k_62 (h : Tb s) : (Cond.selects R_Cc y_Cc_empty y_Cc_empty).before args s = true := h.w (in_t1 (List.mem_of_getElem? (i := 62) rfl)) rfl
theorem k_63 (h : Tb s) : (Cond.code y_Cc_empty b_Cc_empty 1 none).before args s = true := h.w (in_t1 (List.mem_of_getElem? (i := 63) rfl)) rfl
theorem k_64 (h : Tb s) : (Cond.methodLink R_Cc 22 y_Ar_fill2).before args s = true := h.w (in_t1 (List.mem_of_getElem? (i := 64) rfl)) rfl
theorem k_65 (h : Tb s) : (Cond.static y_Ar_fill2).before args s = true := h.w (in_t1 (List.mem_of_getElem? (i := 65) rfl)) rfl
theorem k_66 (h : Tb s) : (Cond.code y_Ar_fill2 b_Ar_fill2 4 none).before args s = true := h.w (in_t1 (List.mem_of_getElem? (i := 66) rfl)) rfl
theorem k_67 (h : Tb s) : (Cond.fieldLink R_Cc 9 "PipeComputer$CodeCache" "notFound" "I").before args s = true := h.w (in_t1 (List.mem_of_getElem? (i := 67) rfl)) rfl
theorem k_68 (h : Tb s) : (Cond.fieldLink R_Pc 136 "PipeComputer$CodeCache" "notFound" "I").before args s = true := h.w (in_t1 (List.mem_of_getElem? (i := 68) rfl)) rfl
theorem k_69 (h : Tb s) : (Cond.fieldLink R_Cc 15 "PipeComputer$CodeCache" "groups" "[I").before args s = true := h.w (in_t1 (List.mem_of_getElem? (i := 69) rfl)) rfl
theorem k_75 (h : Tb s) : (Cond.classLink R_Pc 40 R_Dc).before args s = true := h.w (in_t1 (List.mem_of_getElem? (i := 75) rfl)) rfl
theorem k_76 (h : Tb s) : (Cond.instantiable R_Dc 4).before args s = true := h.w (in_t1 (List.mem_of_getElem? (i := 76) rfl)) rfl
theorem k_77 (h : Tb s) : (Cond.methodLink R_Pc 42 y_Dc_init).before args s = true := h.w (in_t1 (List.mem_of_getElem? (i := 77) rfl)) rfl
theorem k_78 (h : Tb s) : (Cond.instanceMethod y_Dc_init).before args s = true := h.w (in_t1 (List.mem_of_getElem? (i := 78) rfl)) rfl
theorem k_79 (h : Tb s) : (Cond.code y_Dc_init b_Dc_init 1 none).before args s = true := h.w (in_t1 (List.mem_of_getElem? (i := 79) rfl)) rfl
theorem k_80 (h : Tb s) : (Cond.methodLink R_Dc 3 objectInit).before args s = true := h.w (in_t1 (List.mem_of_getElem? (i := 80) rfl)) rfl
theorem k_81 (h : Tb s) : (Cond.methodLink R_Dc 25 y_Dc_empty).before args s = true := h.w (in_t1 (List.mem_of_getElem? (i := 81) rfl)) rfl
theorem k_82 (h : Tb s) : (Cond.instanceMethod y_Dc_empty).before args s = true := h.w (in_t1 (List.mem_of_getElem? (i := 82) rfl)) rfl
theorem k_83 (h : Tb s) : (Cond.selects R_Dc y_Dc_empty y_Dc_empty).before args s = true := h.w (in_t1 (List.mem_of_getElem? (i := 83) rfl)) rfl
theorem k_84 (h : Tb s) : (Cond.code y_Dc_empty b_Dc_empty 1 none).before args s = true := h.w (in_t1 (List.mem_of_getElem? (i := 84) rfl)) rfl
theorem k_85 (h : Tb s) : (Cond.methodLink R_Dc 28 y_Ar_fill2).before args s = true := h.w (in_t1 (List.mem_of_getElem? (i := 85) rfl)) rfl
theorem k_86 (h : Tb s) : (Cond.fieldLink R_Dc 9 "PipeComputer$DataCache" "notFound" "I").before args s = true := h.w (in_t1 (List.mem_of_getElem? (i := 86) rfl)) rfl
theorem k_87 (h : Tb s) : (Cond.fieldLink R_Pc 139 "PipeComputer$DataCache" "notFound" "I").before args s = true := h.w (in_t1 (List.mem_of_getElem? (i := 87) rfl)) rfl
theorem k_88 (h : Tb s) : (Cond.fieldLink R_Dc 15 "PipeComputer$DataCache" "lines" "[I").before args s = true := h.w (in_t1 (List.mem_of_getElem? (i := 88) rfl)) rfl
theorem k_89 (h : Tb s) : (Cond.fieldLink R_Dc 19 "PipeComputer$DataCache" "latestUse" "[I").before args s = true := h.w (in_t1 (List.mem_of_getElem? (i := 89) rfl)) rfl
theorem k_90 (h : Tb s) : (Cond.fieldLink R_Dc 22 "PipeComputer$DataCache" "uses" "I").before args s = true := h.w (in_t1 (List.mem_of_getElem? (i := 90) rfl)) rfl
theorem k_100 (h : Tb s) : (Cond.classLink R_Pc 47 R_Pr).before args s = true := h.w (in_t1 (List.mem_of_getElem? (i := 100) rfl)) rfl
theorem k_101 (h : Tb s) : (Cond.instantiable R_Pr 2).before args s = true := h.w (in_t1 (List.mem_of_getElem? (i := 101) rfl)) rfl
theorem k_102 (h : Tb s) : (Cond.methodLink R_Pc 49 y_Pr_init).before args s = true := h.w (in_t1 (List.mem_of_getElem? (i := 102) rfl)) rfl
theorem k_103 (h : Tb s) : (Cond.instanceMethod y_Pr_init).before args s = true := h.w (in_t1 (List.mem_of_getElem? (i := 103) rfl)) rfl
theorem k_104 (h : Tb s) : (Cond.code y_Pr_init b_Pr_init 1 none).before args s = true := h.w (in_t1 (List.mem_of_getElem? (i := 104) rfl)) rfl
theorem k_105 (h : Tb s) : (Cond.methodLink R_Pr 1 objectInit).before args s = true := h.w (in_t1 (List.mem_of_getElem? (i := 105) rfl)) rfl
theorem k_106 (h : Tb s) : (Cond.methodLink R_Pr 17 y_Pr_reset).before args s = true := h.w (in_t1 (List.mem_of_getElem? (i := 106) rfl)) rfl
theorem k_107 (h : Tb s) : (Cond.instanceMethod y_Pr_reset).before args s = true := h.w (in_t1 (List.mem_of_getElem? (i := 107) rfl)) rfl
theorem k_108 (h : Tb s) : (Cond.selects R_Pr y_Pr_reset y_Pr_reset).before args s = true := h.w (in_t1 (List.mem_of_getElem? (i := 108) rfl)) rfl
theorem k_109 (h : Tb s) : (Cond.code y_Pr_reset b_Pr_reset 1 none).before args s = true := h.w (in_t1 (List.mem_of_getElem? (i := 109) rfl)) rfl
theorem k_110 (h : Tb s) : (Cond.methodLink R_Pr 20 y_Ar_fill2).before args s = true := h.w (in_t1 (List.mem_of_getElem? (i := 110) rfl)) rfl
theorem k_111 (h : Tb s) : (Cond.fieldLink R_Pr 7 "PipeComputer$Predictor" "wrong" "I").before args s = true := h.w (in_t1 (List.mem_of_getElem? (i := 111) rfl)) rfl
theorem k_112 (h : Tb s) : (Cond.fieldLink R_Pc 140 "PipeComputer$Predictor" "wrong" "I").before args s = true := h.w (in_t1 (List.mem_of_getElem? (i := 112) rfl)) rfl
theorem k_113 (h : Tb s) : (Cond.fieldLink R_Pr 13 "PipeComputer$Predictor" "counters" "[I").before args s = true := h.w (in_t1 (List.mem_of_getElem? (i := 113) rfl)) rfl
theorem k_119 (h : Tb s) : (Cond.classLink R_Pc 54 R_Sc).before args s = true := h.w (in_t1 (List.mem_of_getElem? (i := 119) rfl)) rfl
theorem k_120 (h : Tb s) : (Cond.instantiable R_Sc 4).before args s = true := h.w (in_t1 (List.mem_of_getElem? (i := 120) rfl)) rfl
theorem k_121 (h : Tb s) : (Cond.methodLinkNest R_Pc 56 y_Sc_init "PipeComputer").before args s = true := h.w (in_t1 (List.mem_of_getElem? (i := 121) rfl)) rfl
theorem k_122 (h : Tb s) : (Cond.instanceMethod y_Sc_init).before args s = true := h.w (in_t1 (List.mem_of_getElem? (i := 122) rfl)) rfl
theorem k_123 (h : Tb s) : (Cond.code y_Sc_init b_Sc_init 1 none).before args s = true := h.w (in_t1 (List.mem_of_getElem? (i := 123) rfl)) rfl
theorem k_124 (h : Tb s) : (Cond.methodLink R_Sc 3 objectInit).before args s = true := h.w (in_t1 (List.mem_of_getElem? (i := 124) rfl)) rfl
theorem k_125 (h : Tb s) : (Cond.classLink R_Sc 9 R_In).before args s = true := h.w (in_t1 (List.mem_of_getElem? (i := 125) rfl)) rfl
theorem k_126 (h : Tb s) : (Cond.fieldLink R_Sc 11 "PipeComputer$Scheduler" "old" "[LPipeComputer$Instruction;").before args s = true := h.w (in_t1 (List.mem_of_getElem? (i := 126) rfl)) rfl
theorem k_127 (h : Tb s) : (Cond.fieldLink R_Sc 17 "PipeComputer$Scheduler" "leaders" "[Z").before args s = true := h.w (in_t1 (List.mem_of_getElem? (i := 127) rfl)) rfl
theorem k_128 (h : Tb s) : (Cond.fieldLink R_Sc 21 "PipeComputer$Scheduler" "heights" "[I").before args s = true := h.w (in_t1 (List.mem_of_getElem? (i := 128) rfl)) rfl
theorem k_129 (h : Tb s) : (Cond.fieldLink R_Sc 25 "PipeComputer$Scheduler" "behind" "[I").before args s = true := h.w (in_t1 (List.mem_of_getElem? (i := 129) rfl)) rfl
theorem k_139 (h : Tb s) : (Cond.arrayClass .boolean).before args s = true := h.w (in_t1 (List.mem_of_getElem? (i := 139) rfl)) rfl
theorem k_140 (h : Tb s) : (Cond.instantiable R_In 8).before args s = true := h.w (in_t1 (List.mem_of_getElem? (i := 140) rfl)) rfl
theorem k_141 (h : Tb s) : (Cond.methodLinkNest R_Pc 72 y_In_init "PipeComputer").before args s = true := h.w (in_t1 (List.mem_of_getElem? (i := 141) rfl)) rfl
theorem k_142 (h : Tb s) : (Cond.instanceMethod y_In_init).before args s = true := h.w (in_t1 (List.mem_of_getElem? (i := 142) rfl)) rfl
theorem k_143 (h : Tb s) : (Cond.code y_In_init b_In_init 1 none).before args s = true := h.w (in_t1 (List.mem_of_getElem? (i := 143) rfl)) rfl
theorem k_144 (h : Tb s) : (Cond.methodLink R_In 3 objectInit).before args s = true := h.w (in_t1 (List.mem_of_getElem? (i := 144) rfl)) rfl
theorem k_145 (h : Tb s) : (Cond.fieldLink R_In 9 "PipeComputer$Instruction" "op" "I").before args s = true := h.w (in_t1 (List.mem_of_getElem? (i := 145) rfl)) rfl
theorem k_146 (h : Tb s) : (Cond.fieldLink R_Ck 48 "PipeComputer$Instruction" "op" "I").before args s = true := h.w (in_t1 (List.mem_of_getElem? (i := 146) rfl)) rfl
theorem k_147 (h : Tb s) : (Cond.fieldLink R_Pc 115 "PipeComputer$Instruction" "op" "I").before args s = true := h.w (in_t1 (List.mem_of_getElem? (i := 147) rfl)) rfl
theorem k_148 (h : Tb s) : (Cond.fieldLink R_In 15 "PipeComputer$Instruction" "d" "I").before args s = true := h.w (in_t1 (List.mem_of_getElem? (i := 148) rfl)) rfl
theorem k_149 (h : Tb s) : (Cond.fieldLink R_Pc 118 "PipeComputer$Instruction" "d" "I").before args s = true := h.w (in_t1 (List.mem_of_getElem? (i := 149) rfl)) rfl
theorem k_150 (h : Tb s) : (Cond.fieldLink R_In 18 "PipeComputer$Instruction" "a" "I").before args s = true := h.w (in_t1 (List.mem_of_getElem? (i := 150) rfl)) rfl
theorem k_151 (h : Tb s) : (Cond.fieldLink R_Pc 121 "PipeComputer$Instruction" "a" "I").before args s = true := h.w (in_t1 (List.mem_of_getElem? (i := 151) rfl)) rfl
theorem k_152 (h : Tb s) : (Cond.fieldLink R_In 21 "PipeComputer$Instruction" "b" "I").before args s = true := h.w (in_t1 (List.mem_of_getElem? (i := 152) rfl)) rfl
theorem k_153 (h : Tb s) : (Cond.fieldLink R_Pc 124 "PipeComputer$Instruction" "b" "I").before args s = true := h.w (in_t1 (List.mem_of_getElem? (i := 153) rfl)) rfl
theorem k_154 (h : Tb s) : (Cond.fieldLink R_In 24 "PipeComputer$Instruction" "n" "I").before args s = true := h.w (in_t1 (List.mem_of_getElem? (i := 154) rfl)) rfl
theorem k_155 (h : Tb s) : (Cond.fieldLink R_Pc 127 "PipeComputer$Instruction" "n" "I").before args s = true := h.w (in_t1 (List.mem_of_getElem? (i := 155) rfl)) rfl
theorem k_156 (h : Tb s) : (Cond.fieldLink R_In 27 "PipeComputer$Instruction" "written" "I").before args s = true := h.w (in_t1 (List.mem_of_getElem? (i := 156) rfl)) rfl
theorem k_157 (h : Tb s) : (Cond.fieldLink R_Ck 45 "PipeComputer$Instruction" "written" "I").before args s = true := h.w (in_t1 (List.mem_of_getElem? (i := 157) rfl)) rfl
theorem k_158 (h : Tb s) : (Cond.fieldLink R_In 30 "PipeComputer$Instruction" "firstRead" "I").before args s = true := h.w (in_t1 (List.mem_of_getElem? (i := 158) rfl)) rfl
theorem k_159 (h : Tb s) : (Cond.fieldLink R_Ck 55 "PipeComputer$Instruction" "firstRead" "I").before args s = true := h.w (in_t1 (List.mem_of_getElem? (i := 159) rfl)) rfl
theorem k_160 (h : Tb s) : (Cond.fieldLink R_In 33 "PipeComputer$Instruction" "secondRead" "I").before args s = true := h.w (in_t1 (List.mem_of_getElem? (i := 160) rfl)) rfl
theorem k_161 (h : Tb s) : (Cond.fieldLink R_Ck 68 "PipeComputer$Instruction" "secondRead" "I").before args s = true := h.w (in_t1 (List.mem_of_getElem? (i := 161) rfl)) rfl
theorem k_179 (h : Tb s) : (Cond.fieldLink R_Pc 11 "PipeComputer" "program" "[LPipeComputer$Instruction;").before args s = true := h.w (in_t1 (List.mem_of_getElem? (i := 179) rfl)) rfl
theorem k_180 (h : Tb s) : (Cond.fieldLink R_Pc 15 "PipeComputer" "cells" "[D").before args s = true := h.w (in_t1 (List.mem_of_getElem? (i := 180) rfl)) rfl
theorem k_181 (h : Tb s) : (Cond.fieldLink R_Pc 19 "PipeComputer" "wholes" "[I").before args s = true := h.w (in_t1 (List.mem_of_getElem? (i := 181) rfl)) rfl
theorem k_182 (h : Tb s) : (Cond.fieldLink R_Pc 23 "PipeComputer" "fractions" "[D").before args s = true := h.w (in_t1 (List.mem_of_getElem? (i := 182) rfl)) rfl
theorem k_183 (h : Tb s) : (Cond.fieldLink R_Pc 29 "PipeComputer" "clock" "LPipeComputer$Clock;").before args s = true := h.w (in_t1 (List.mem_of_getElem? (i := 183) rfl)) rfl
theorem k_184 (h : Tb s) : (Cond.fieldLink R_Pc 36 "PipeComputer" "codeCache" "LPipeComputer$CodeCache;").before args s = true := h.w (in_t1 (List.mem_of_getElem? (i := 184) rfl)) rfl
theorem k_185 (h : Tb s) : (Cond.fieldLink R_Pc 43 "PipeComputer" "dataCache" "LPipeComputer$DataCache;").before args s = true := h.w (in_t1 (List.mem_of_getElem? (i := 185) rfl)) rfl
theorem k_186 (h : Tb s) : (Cond.fieldLink R_Pc 50 "PipeComputer" "predictor" "LPipeComputer$Predictor;").before args s = true := h.w (in_t1 (List.mem_of_getElem? (i := 186) rfl)) rfl
theorem k_187 (h : Tb s) : (Cond.fieldLink R_Pc 57 "PipeComputer" "scheduler" "LPipeComputer$Scheduler;").before args s = true := h.w (in_t1 (List.mem_of_getElem? (i := 187) rfl)) rfl
theorem k_188 (h : Tb s) : (Cond.fieldLink R_Pc 61 "PipeComputer" "at" "I").before args s = true := h.w (in_t1 (List.mem_of_getElem? (i := 188) rfl)) rfl
theorem k_189 (h : Tb s) : (Cond.fieldLink R_Pc 65 "PipeComputer" "stopped" "Z").before args s = true := h.w (in_t1 (List.mem_of_getElem? (i := 189) rfl)) rfl
theorem k_190 (h : Tb s) : (Cond.fieldLink R_Pc 69 "PipeComputer" "done" "I").before args s = true := h.w (in_t1 (List.mem_of_getElem? (i := 190) rfl)) rfl
theorem k_216 (h : Tb s) : (Cond.methodLink R_La 75 y_Pc_schedule).before args s = true := h.w (in_t1 (List.mem_of_getElem? (i := 216) rfl)) rfl
theorem k_217 (h : Tb s) : (Cond.instanceMethod y_Pc_schedule).before args s = true := h.w (in_t1 (List.mem_of_getElem? (i := 217) rfl)) rfl
theorem k_218 (h : Tb s) : (Cond.selects R_Pc y_Pc_schedule y_Pc_schedule).before args s = true := h.w (in_t1 (List.mem_of_getElem? (i := 218) rfl)) rfl
theorem k_219 (h : Tb s) : (Cond.code y_Pc_schedule b_Pc_schedule 1 (some .int)).before args s = true := h.w (in_t1 (List.mem_of_getElem? (i := 219) rfl)) rfl
theorem k_220 (h : Tb s) : (Cond.methodLink R_Pc 111 y_Sc_reorder).before args s = true := h.w (in_t1 (List.mem_of_getElem? (i := 220) rfl)) rfl
theorem k_221 (h : Tb s) : (Cond.instanceMethod y_Sc_reorder).before args s = true := h.w (in_t1 (List.mem_of_getElem? (i := 221) rfl)) rfl
theorem k_222 (h : Tb s) : (Cond.selects R_Sc y_Sc_reorder y_Sc_reorder).before args s = true := h.w (in_t1 (List.mem_of_getElem? (i := 222) rfl)) rfl
theorem k_223 (h : Tb s) : (Cond.code y_Sc_reorder b_Sc_reorder 4 (some .int)).before args s = true := h.w (in_t1 (List.mem_of_getElem? (i := 223) rfl)) rfl
theorem k_224 (h : Tb s) : (Cond.methodLink R_Sc 28 y_Sc_findLeaders).before args s = true := h.w (in_t1 (List.mem_of_getElem? (i := 224) rfl)) rfl
theorem k_226 (h : Tb s) : (Cond.instanceMethod y_Sc_findLeaders).before args s = true := h.w (in_t1 (List.mem_of_getElem? (i := 226) rfl)) rfl
theorem k_227 (h : Tb s) : (Cond.code y_Sc_findLeaders b_Sc_findLeaders 2 none).before args s = true := h.w (in_t1 (List.mem_of_getElem? (i := 227) rfl)) rfl
theorem k_228 (h : Tb s) : (Cond.methodLink R_Sc 39 y_In_endsBlock).before args s = true := h.w (in_t1 (List.mem_of_getElem? (i := 228) rfl)) rfl
theorem k_229 (h : Tb s) : (Cond.instanceMethod y_In_endsBlock).before args s = true := h.w (in_t1 (List.mem_of_getElem? (i := 229) rfl)) rfl
theorem k_230 (h : Tb s) : (Cond.selects R_In y_In_endsBlock y_In_endsBlock).before args s = true := h.w (in_t1 (List.mem_of_getElem? (i := 230) rfl)) rfl
theorem k_231 (h : Tb s) : (Cond.code y_In_endsBlock b_In_endsBlock 1 (some .boolean)).before args s = true := h.w (in_t1 (List.mem_of_getElem? (i := 231) rfl)) rfl
theorem k_232 (h : Tb s) : (Cond.methodLink R_In 58 y_In_hasTarget).before args s = true := h.w (in_t1 (List.mem_of_getElem? (i := 232) rfl)) rfl
theorem k_233 (h : Tb s) : (Cond.instanceMethod y_In_hasTarget).before args s = true := h.w (in_t1 (List.mem_of_getElem? (i := 233) rfl)) rfl
theorem k_234 (h : Tb s) : (Cond.selects R_In y_In_hasTarget y_In_hasTarget).before args s = true := h.w (in_t1 (List.mem_of_getElem? (i := 234) rfl)) rfl
theorem k_235 (h : Tb s) : (Cond.code y_In_hasTarget b_In_hasTarget 1 (some .boolean)).before args s = true := h.w (in_t1 (List.mem_of_getElem? (i := 235) rfl)) rfl
theorem k_236 (h : Tb s) : (Cond.methodLink R_Sc 43 y_In_hasTarget).before args s = true := h.w (in_t1 (List.mem_of_getElem? (i := 236) rfl)) rfl
theorem k_237 (h : Tb s) : (Cond.methodLink R_Sc 46 y_In_target).before args s = true := h.w (in_t1 (List.mem_of_getElem? (i := 237) rfl)) rfl
theorem k_238 (h : Tb s) : (Cond.instanceMethod y_In_target).before args s = true := h.w (in_t1 (List.mem_of_getElem? (i := 238) rfl)) rfl
theorem k_239 (h : Tb s) : (Cond.selects R_In y_In_target y_In_target).before args s = true := h.w (in_t1 (List.mem_of_getElem? (i := 239) rfl)) rfl
theorem k_240 (h : Tb s) : (Cond.code y_In_target b_In_target 1 (some .int)).before args s = true := h.w (in_t2 (List.mem_of_getElem? (i := 0) rfl)) rfl
theorem k_241 (h : Tb s) : (Cond.methodLink R_In 61 y_Ma_floorMod).before args s = true := h.w (in_t2 (List.mem_of_getElem? (i := 1) rfl)) rfl
theorem k_242 (h : Tb s) : (Cond.static y_Ma_floorMod).before args s = true := h.w (in_t2 (List.mem_of_getElem? (i := 2) rfl)) rfl
theorem k_243 (h : Tb s) : (Cond.code y_Ma_floorMod b_Ma_floorMod 3 (some .int)).before args s = true := h.w (in_t2 (List.mem_of_getElem? (i := 3) rfl)) rfl
theorem k_244 (h : Tb s) : (Cond.methodLink R_Sc 31 y_Sc_endOfBlock).before args s = true := h.w (in_t2 (List.mem_of_getElem? (i := 4) rfl)) rfl
theorem k_246 (h : Tb s) : (Cond.instanceMethod y_Sc_endOfBlock).before args s = true := h.w (in_t2 (List.mem_of_getElem? (i := 6) rfl)) rfl
theorem k_247 (h : Tb s) : (Cond.code y_Sc_endOfBlock b_Sc_endOfBlock 3 (some .int)).before args s = true := h.w (in_t2 (List.mem_of_getElem? (i := 7) rfl)) rfl
theorem k_248 (h : Tb s) : (Cond.methodLink R_Sc 35 y_Sc_reorderBlock).before args s = true := h.w (in_t2 (List.mem_of_getElem? (i := 8) rfl)) rfl
theorem k_250 (h : Tb s) : (Cond.instanceMethod y_Sc_reorderBlock).before args s = true := h.w (in_t2 (List.mem_of_getElem? (i := 10) rfl)) rfl
theorem k_251 (h : Tb s) : (Cond.code y_Sc_reorderBlock b_Sc_reorderBlock 8 (some .int)).before args s = true := h.w (in_t2 (List.mem_of_getElem? (i := 11) rfl)) rfl
theorem k_252 (h : Tb s) : (Cond.methodLink R_Sc 50 y_Sc_findHeights).before args s = true := h.w (in_t2 (List.mem_of_getElem? (i := 12) rfl)) rfl
theorem k_254 (h : Tb s) : (Cond.instanceMethod y_Sc_findHeights).before args s = true := h.w (in_t2 (List.mem_of_getElem? (i := 14) rfl)) rfl
theorem k_255 (h : Tb s) : (Cond.code y_Sc_findHeights b_Sc_findHeights 6 none).before args s = true := h.w (in_t2 (List.mem_of_getElem? (i := 15) rfl)) rfl
theorem k_256 (h : Tb s) : (Cond.methodLink R_Sc 58 y_In_mustStayBehind).before args s = true := h.w (in_t2 (List.mem_of_getElem? (i := 16) rfl)) rfl
theorem k_257 (h : Tb s) : (Cond.instanceMethod y_In_mustStayBehind).before args s = true := h.w (in_t2 (List.mem_of_getElem? (i := 17) rfl)) rfl
theorem k_258 (h : Tb s) : (Cond.selects R_In y_In_mustStayBehind y_In_mustStayBehind).before args s = true := h.w (in_t2 (List.mem_of_getElem? (i := 18) rfl)) rfl
theorem k_259 (h : Tb s) : (Cond.code y_In_mustStayBehind b_In_mustStayBehind 3 (some .boolean)).before args s = true := h.w (in_t2 (List.mem_of_getElem? (i := 19) rfl)) rfl
theorem k_260 (h : Tb s) : (Cond.methodLink R_In 50 y_In_readsWhatIsWrittenBy).before args s = true := h.w (in_t2 (List.mem_of_getElem? (i := 20) rfl)) rfl
theorem k_261 (h : Tb s) : (Cond.instanceMethod y_In_readsWhatIsWrittenBy).before args s = true := h.w (in_t2 (List.mem_of_getElem? (i := 21) rfl)) rfl
theorem k_262 (h : Tb s) : (Cond.selects R_In y_In_readsWhatIsWrittenBy y_In_readsWhatIsWrittenBy).before args s = true := h.w (in_t2 (List.mem_of_getElem? (i := 22) rfl)) rfl
theorem k_263 (h : Tb s) : (Cond.code y_In_readsWhatIsWrittenBy b_In_readsWhatIsWrittenBy 3 (some .boolean)).before args s = true := h.w (in_t2 (List.mem_of_getElem? (i := 23) rfl)) rfl
theorem k_264 (h : Tb s) : (Cond.methodLink R_In 54 y_In_keepsItsTurn).before args s = true := h.w (in_t2 (List.mem_of_getElem? (i := 24) rfl)) rfl
theorem k_266 (h : Tb s) : (Cond.instanceMethod y_In_keepsItsTurn).before args s = true := h.w (in_t2 (List.mem_of_getElem? (i := 26) rfl)) rfl
theorem k_267 (h : Tb s) : (Cond.code y_In_keepsItsTurn b_In_keepsItsTurn 1 (some .boolean)).before args s = true := h.w (in_t2 (List.mem_of_getElem? (i := 27) rfl)) rfl
theorem k_268 (h : Tb s) : (Cond.methodLink R_Sc 62 y_In_readsWhatIsWrittenBy).before args s = true := h.w (in_t2 (List.mem_of_getElem? (i := 28) rfl)) rfl
theorem k_269 (h : Tb s) : (Cond.methodLink R_Sc 65 y_In_latency).before args s = true := h.w (in_t2 (List.mem_of_getElem? (i := 29) rfl)) rfl
theorem k_270 (h : Tb s) : (Cond.instanceMethod y_In_latency).before args s = true := h.w (in_t2 (List.mem_of_getElem? (i := 30) rfl)) rfl
theorem k_271 (h : Tb s) : (Cond.selects R_In y_In_latency y_In_latency).before args s = true := h.w (in_t2 (List.mem_of_getElem? (i := 31) rfl)) rfl
theorem k_272 (h : Tb s) : (Cond.code y_In_latency b_In_latency 1 (some .int)).before args s = true := h.w (in_t2 (List.mem_of_getElem? (i := 32) rfl)) rfl
theorem k_273 (h : Tb s) : (Cond.fieldLinkNest R_In 66 "PipeComputer" "LATENCY" "[I" "PipeComputer").before args s = true := h.w (in_t2 (List.mem_of_getElem? (i := 33) rfl)) rfl
theorem k_275 (h : Tb s) : (Cond.methodLink R_Sc 68 ⟨"java/lang/Math", "max", "(II)I"⟩).before args s = true := h.w (in_t2 (List.mem_of_getElem? (i := 35) rfl)) rfl
theorem k_276 (h : Tb s) : (Cond.static ⟨"java/lang/Math", "max", "(II)I"⟩).before args s = true := h.w (in_t2 (List.mem_of_getElem? (i := 36) rfl)) rfl
theorem k_277 (h : Tb s) : (Cond.code Lib.Math.max.name Lib.Math.max.code 2 (some .int)).before args s = true := h.w (in_t2 (List.mem_of_getElem? (i := 37) rfl)) rfl
theorem k_278 (h : Tb s) : (Cond.methodLink R_Sc 54 y_Sc_nextToPlace).before args s = true := h.w (in_t2 (List.mem_of_getElem? (i := 38) rfl)) rfl
theorem k_280 (h : Tb s) : (Cond.instanceMethod y_Sc_nextToPlace).before args s = true := h.w (in_t2 (List.mem_of_getElem? (i := 40) rfl)) rfl
theorem k_281 (h : Tb s) : (Cond.code y_Sc_nextToPlace b_Sc_nextToPlace 7 (some .int)).before args s = true := h.w (in_t2 (List.mem_of_getElem? (i := 41) rfl)) rfl
theorem k_282 (h : Tb s) : (Cond.methodLink R_La 93 y_Pc_count).before args s = true := h.w (in_t2 (List.mem_of_getElem? (i := 42) rfl)) rfl
theorem k_283 (h : Tb s) : (Cond.instanceMethod y_Pc_count).before args s = true := h.w (in_t2 (List.mem_of_getElem? (i := 43) rfl)) rfl
theorem k_284 (h : Tb s) : (Cond.selects R_Pc y_Pc_count y_Pc_count).before args s = true := h.w (in_t2 (List.mem_of_getElem? (i := 44) rfl)) rfl
theorem k_285 (h : Tb s) : (Cond.code y_Pc_count b_Pc_count 2 (some .int)).before args s = true := h.w (in_t2 (List.mem_of_getElem? (i := 45) rfl)) rfl
theorem k_286 (h : Tb s) : (Cond.methodLink R_La 51 y_La_code).before args s = true := h.w (in_t2 (List.mem_of_getElem? (i := 46) rfl)) rfl
theorem k_287 (h : Tb s) : (Cond.static y_La_code).before args s = true := h.w (in_t2 (List.mem_of_getElem? (i := 47) rfl)) rfl
theorem k_288 (h : Tb s) : (Cond.codeWith y_La_code b_La_code 8 (some .int) [(0, 13, 16, 13)]).before args s = true := h.w (in_t2 (List.mem_of_getElem? (i := 48) rfl)) rfl
theorem k_289 (h : Tb s) : (Cond.classLink R_La 13 "java/lang/IllegalArgumentException").before args s = true := h.w (in_t2 (List.mem_of_getElem? (i := 49) rfl)) rfl
theorem k_290 (h : Tb s) : (Cond.methodLink R_La 7 y_Pc_code).before args s = true := h.w (in_t2 (List.mem_of_getElem? (i := 50) rfl)) rfl
theorem k_291 (h : Tb s) : (Cond.instanceMethod y_Pc_code).before args s = true := h.w (in_t2 (List.mem_of_getElem? (i := 51) rfl)) rfl
theorem k_292 (h : Tb s) : (Cond.selects R_Pc y_Pc_code y_Pc_code).before args s = true := h.w (in_t2 (List.mem_of_getElem? (i := 52) rfl)) rfl
theorem k_293 (h : Tb s) : (Cond.code y_Pc_code b_Pc_code 7 none).before args s = true := h.w (in_t2 (List.mem_of_getElem? (i := 53) rfl)) rfl
theorem k_294 (h : Tb s) : (Cond.methodLink R_Pc 73 y_Pc_refuseOutside).before args s = true := h.w (in_t2 (List.mem_of_getElem? (i := 54) rfl)) rfl
theorem k_295 (h : Tb s) : (Cond.static y_Pc_refuseOutside).before args s = true := h.w (in_t2 (List.mem_of_getElem? (i := 55) rfl)) rfl
theorem k_296 (h : Tb s) : (Cond.code y_Pc_refuseOutside b_Pc_refuseOutside 2 none).before args s = true := h.w (in_t2 (List.mem_of_getElem? (i := 56) rfl)) rfl
theorem k_297 (h : Tb s) : (Cond.classLink R_Pc 85 "java/lang/IllegalArgumentException").before args s = true := h.w (in_t2 (List.mem_of_getElem? (i := 57) rfl)) rfl
theorem k_298 (h : Tb s) : (Cond.instantiable "java/lang/IllegalArgumentException" 6).before args s = true := h.w (in_t2 (List.mem_of_getElem? (i := 58) rfl)) rfl
theorem k_299 (h : Tb s) : (Cond.castable "java/lang/IllegalArgumentException" "java/lang/IllegalArgumentException").before args s = true := h.w (in_t2 (List.mem_of_getElem? (i := 59) rfl)) rfl
theorem k_320 (h : Tb s) : (Cond.instanceMethod ⟨"java/lang/Throwable", "<init>", "()V"⟩).before args s = true := h.w (in_t2 (List.mem_of_getElem? (i := 80) rfl)) rfl
theorem k_328 (h : Tb s) : (Cond.instanceMethod ⟨"java/lang/Throwable", "fillInStackTrace", "()Ljava/lang/Throwable;"⟩).before args s = true := h.w (in_t2 (List.mem_of_getElem? (i := 88) rfl)) rfl
theorem k_336 (h : Tb s) : (Cond.instanceMethod ⟨"java/lang/Throwable", "fillInStackTrace", "(I)Ljava/lang/Throwable;"⟩).before args s = true := h.w (in_t2 (List.mem_of_getElem? (i := 96) rfl)) rfl
theorem k_337 (h : Tb s) : (Cond.instantiable "java/lang/Throwable" 6).before args s = true := h.w (in_t2 (List.mem_of_getElem? (i := 97) rfl)) rfl
theorem k_339 (h : Tb s) : (Cond.methodLink R_Pc 87 ⟨"java/lang/IllegalArgumentException", "<init>", "()V"⟩).before args s = true := h.w (in_t2 (List.mem_of_getElem? (i := 99) rfl)) rfl
theorem k_340 (h : Tb s) : (Cond.instanceMethod ⟨"java/lang/IllegalArgumentException", "<init>", "()V"⟩).before args s = true := h.w (in_t2 (List.mem_of_getElem? (i := 100) rfl)) rfl
theorem k_343 (h : Tb s) : (Cond.instanceMethod ⟨"java/lang/RuntimeException", "<init>", "()V"⟩).before args s = true := h.w (in_t2 (List.mem_of_getElem? (i := 103) rfl)) rfl
theorem k_346 (h : Tb s) : (Cond.instanceMethod ⟨"java/lang/Exception", "<init>", "()V"⟩).before args s = true := h.w (in_t2 (List.mem_of_getElem? (i := 106) rfl)) rfl
theorem k_361 (h : Tb s) : (Cond.methodLink R_Pc 77 y_In_become).before args s = true := h.w (in_t2 (List.mem_of_getElem? (i := 121) rfl)) rfl
theorem k_362 (h : Tb s) : (Cond.instanceMethod y_In_become).before args s = true := h.w (in_t2 (List.mem_of_getElem? (i := 122) rfl)) rfl
theorem k_363 (h : Tb s) : (Cond.selects R_In y_In_become y_In_become).before args s = true := h.w (in_t2 (List.mem_of_getElem? (i := 123) rfl)) rfl
theorem k_364 (h : Tb s) : (Cond.code y_In_become b_In_become 6 none).before args s = true := h.w (in_t2 (List.mem_of_getElem? (i := 124) rfl)) rfl
theorem k_365 (h : Tb s) : (Cond.fieldLinkNest R_In 36 "PipeComputer" "WRITTEN_D" "[I" "PipeComputer").before args s = true := h.w (in_t2 (List.mem_of_getElem? (i := 125) rfl)) rfl
theorem k_367 (h : Tb s) : (Cond.methodLink R_In 40 y_In_register).before args s = true := h.w (in_t2 (List.mem_of_getElem? (i := 127) rfl)) rfl
theorem k_368 (h : Tb s) : (Cond.static y_In_register).before args s = true := h.w (in_t2 (List.mem_of_getElem? (i := 128) rfl)) rfl
theorem k_369 (h : Tb s) : (Cond.code y_In_register b_In_register 2 (some .int)).before args s = true := h.w (in_t2 (List.mem_of_getElem? (i := 129) rfl)) rfl
theorem k_370 (h : Tb s) : (Cond.fieldLinkNest R_In 44 "PipeComputer" "READ_A" "[I" "PipeComputer").before args s = true := h.w (in_t2 (List.mem_of_getElem? (i := 130) rfl)) rfl
theorem k_372 (h : Tb s) : (Cond.fieldLinkNest R_In 47 "PipeComputer" "READ_B" "[I" "PipeComputer").before args s = true := h.w (in_t2 (List.mem_of_getElem? (i := 132) rfl)) rfl
theorem k_374 (h : Tb s) : (Cond.methodLink R_La 63 y_La_cell2).before args s = true := h.w (in_t2 (List.mem_of_getElem? (i := 134) rfl)) rfl
theorem k_375 (h : Tb s) : (Cond.static y_La_cell2).before args s = true := h.w (in_t2 (List.mem_of_getElem? (i := 135) rfl)) rfl
theorem k_376 (h : Tb s) : (Cond.codeWith y_La_cell2 b_La_cell2 5 (some .int) [(0, 6, 9, 13)]).before args s = true := h.w (in_t2 (List.mem_of_getElem? (i := 136) rfl)) rfl
theorem k_377 (h : Tb s) : (Cond.methodLink R_La 15 y_Pc_cell).before args s = true := h.w (in_t2 (List.mem_of_getElem? (i := 137) rfl)) rfl
theorem k_378 (h : Tb s) : (Cond.instanceMethod y_Pc_cell).before args s = true := h.w (in_t2 (List.mem_of_getElem? (i := 138) rfl)) rfl
theorem k_379 (h : Tb s) : (Cond.selects R_Pc y_Pc_cell y_Pc_cell).before args s = true := h.w (in_t2 (List.mem_of_getElem? (i := 139) rfl)) rfl
theorem k_380 (h : Tb s) : (Cond.code y_Pc_cell b_Pc_cell 5 none).before args s = true := h.w (in_t2 (List.mem_of_getElem? (i := 140) rfl)) rfl
theorem k_381 (h : Tb s) : (Cond.constantDouble R_Pc 81 (13920209183539462144 : UInt64)).before args s = true := h.w (in_t2 (List.mem_of_getElem? (i := 141) rfl)) rfl
theorem k_382 (h : Tb s) : (Cond.constantDouble R_Pc 83 (4696837146684686336 : UInt64)).before args s = true := h.w (in_t2 (List.mem_of_getElem? (i := 142) rfl)) rfl
theorem k_383 (h : Tb s) : (Cond.methodLink R_La 67 y_La_start).before args s = true := h.w (in_t2 (List.mem_of_getElem? (i := 143) rfl)) rfl
theorem k_384 (h : Tb s) : (Cond.static y_La_start).before args s = true := h.w (in_t2 (List.mem_of_getElem? (i := 144) rfl)) rfl
theorem k_385 (h : Tb s) : (Cond.codeWith y_La_start b_La_start 3 (some .int) [(0, 5, 8, 13)]).before args s = true := h.w (in_t2 (List.mem_of_getElem? (i := 145) rfl)) rfl
theorem k_386 (h : Tb s) : (Cond.methodLink R_La 19 y_Pc_start).before args s = true := h.w (in_t2 (List.mem_of_getElem? (i := 146) rfl)) rfl
theorem k_387 (h : Tb s) : (Cond.instanceMethod y_Pc_start).before args s = true := h.w (in_t2 (List.mem_of_getElem? (i := 147) rfl)) rfl
theorem k_388 (h : Tb s) : (Cond.selects R_Pc y_Pc_start y_Pc_start).before args s = true := h.w (in_t2 (List.mem_of_getElem? (i := 148) rfl)) rfl
theorem k_389 (h : Tb s) : (Cond.code y_Pc_start b_Pc_start 2 none).before args s = true := h.w (in_t2 (List.mem_of_getElem? (i := 149) rfl)) rfl
theorem k_390 (h : Tb s) : (Cond.methodLink R_Pc 88 y_Ar_fill2).before args s = true := h.w (in_t2 (List.mem_of_getElem? (i := 150) rfl)) rfl
theorem k_391 (h : Tb s) : (Cond.methodLink R_Pc 94 y_Ar_fill).before args s = true := h.w (in_t2 (List.mem_of_getElem? (i := 151) rfl)) rfl
theorem k_392 (h : Tb s) : (Cond.static y_Ar_fill).before args s = true := h.w (in_t2 (List.mem_of_getElem? (i := 152) rfl)) rfl
theorem k_393 (h : Tb s) : (Cond.code y_Ar_fill b_Ar_fill 5 none).before args s = true := h.w (in_t2 (List.mem_of_getElem? (i := 153) rfl)) rfl
theorem k_394 (h : Tb s) : (Cond.methodLink R_Pc 97 y_Ck_reset).before args s = true := h.w (in_t2 (List.mem_of_getElem? (i := 154) rfl)) rfl
theorem k_395 (h : Tb s) : (Cond.instanceMethod y_Ck_reset).before args s = true := h.w (in_t2 (List.mem_of_getElem? (i := 155) rfl)) rfl
theorem k_396 (h : Tb s) : (Cond.selects R_Ck y_Ck_reset y_Ck_reset).before args s = true := h.w (in_t2 (List.mem_of_getElem? (i := 156) rfl)) rfl
theorem k_397 (h : Tb s) : (Cond.code y_Ck_reset b_Ck_reset 1 none).before args s = true := h.w (in_t2 (List.mem_of_getElem? (i := 157) rfl)) rfl
theorem k_398 (h : Tb s) : (Cond.methodLink R_Ck 29 y_Ar_fill2).before args s = true := h.w (in_t2 (List.mem_of_getElem? (i := 158) rfl)) rfl
theorem k_399 (h : Tb s) : (Cond.methodLink R_Pc 100 y_Cc_empty).before args s = true := h.w (in_t2 (List.mem_of_getElem? (i := 159) rfl)) rfl
theorem k_400 (h : Tb s) : (Cond.methodLink R_Pc 103 y_Dc_empty).before args s = true := h.w (in_t2 (List.mem_of_getElem? (i := 160) rfl)) rfl
theorem k_401 (h : Tb s) : (Cond.methodLink R_Pc 104 y_Pr_reset).before args s = true := h.w (in_t2 (List.mem_of_getElem? (i := 161) rfl)) rfl
theorem k_402 (h : Tb s) : (Cond.methodLink R_La 71 y_La_run).before args s = true := h.w (in_t2 (List.mem_of_getElem? (i := 162) rfl)) rfl
theorem k_403 (h : Tb s) : (Cond.static y_La_run).before args s = true := h.w (in_t2 (List.mem_of_getElem? (i := 163) rfl)) rfl
theorem k_404 (h : Tb s) : (Cond.codeWith y_La_run b_La_run 4 (some .int) [(0, 9, 12, 13), (0, 9, 15, 27), (0, 9, 18, 29), (0, 9, 21, 31)]).before args s = true := h.w (in_t2 (List.mem_of_getElem? (i := 164) rfl)) rfl
theorem k_405 (h : Tb s) : (Cond.classLink R_La 27 "java/lang/IllegalStateException").before args s = true := h.w (in_t2 (List.mem_of_getElem? (i := 165) rfl)) rfl
theorem k_406 (h : Tb s) : (Cond.classLink R_La 29 "java/lang/IndexOutOfBoundsException").before args s = true := h.w (in_t2 (List.mem_of_getElem? (i := 166) rfl)) rfl
theorem k_407 (h : Tb s) : (Cond.classLink R_La 31 "java/lang/ArithmeticException").before args s = true := h.w (in_t2 (List.mem_of_getElem? (i := 167) rfl)) rfl
theorem k_408 (h : Tb s) : (Cond.methodLink R_La 23 y_Pc_run).before args s = true := h.w (in_t2 (List.mem_of_getElem? (i := 168) rfl)) rfl
theorem k_409 (h : Tb s) : (Cond.instanceMethod y_Pc_run).before args s = true := h.w (in_t2 (List.mem_of_getElem? (i := 169) rfl)) rfl
theorem k_410 (h : Tb s) : (Cond.selects R_Pc y_Pc_run y_Pc_run).before args s = true := h.w (in_t2 (List.mem_of_getElem? (i := 170) rfl)) rfl
theorem k_411 (h : Tb s) : (Cond.code y_Pc_run b_Pc_run 3 (some .int)).before args s = true := h.w (in_t2 (List.mem_of_getElem? (i := 171) rfl)) rfl
theorem k_412 (h : Tb s) : (Cond.classLink R_Pc 105 "java/lang/IllegalStateException").before args s = true := h.w (in_t2 (List.mem_of_getElem? (i := 172) rfl)) rfl
theorem k_413 (h : Tb s) : (Cond.instantiable "java/lang/IllegalStateException" 6).before args s = true := h.w (in_t2 (List.mem_of_getElem? (i := 173) rfl)) rfl
theorem k_414 (h : Tb s) : (Cond.castable "java/lang/IllegalStateException" "java/lang/IllegalStateException").before args s = true := h.w (in_t2 (List.mem_of_getElem? (i := 174) rfl)) rfl
theorem k_421 (h : Tb s) : (Cond.methodLink R_Pc 107 ⟨"java/lang/IllegalStateException", "<init>", "()V"⟩).before args s = true := h.w (in_t2 (List.mem_of_getElem? (i := 181) rfl)) rfl
theorem k_422 (h : Tb s) : (Cond.instanceMethod ⟨"java/lang/IllegalStateException", "<init>", "()V"⟩).before args s = true := h.w (in_t2 (List.mem_of_getElem? (i := 182) rfl)) rfl
theorem k_427 (h : Tb s) : (Cond.methodLink R_Pc 108 y_Pc_doOne).before args s = true := h.w (in_t2 (List.mem_of_getElem? (i := 187) rfl)) rfl
theorem k_429 (h : Tb s) : (Cond.instanceMethod y_Pc_doOne).before args s = true := h.w (in_t2 (List.mem_of_getElem? (i := 189) rfl)) rfl
theorem k_430 (h : Tb s) : (Cond.code y_Pc_doOne b_Pc_doOne 6 none).before args s = true := h.w (in_t2 (List.mem_of_getElem? (i := 190) rfl)) rfl
theorem k_431 (h : Tb s) : (Cond.methodLink R_Pc 143 y_Cc_misses).before args s = true := h.w (in_t2 (List.mem_of_getElem? (i := 191) rfl)) rfl
theorem k_432 (h : Tb s) : (Cond.instanceMethod y_Cc_misses).before args s = true := h.w (in_t2 (List.mem_of_getElem? (i := 192) rfl)) rfl
theorem k_433 (h : Tb s) : (Cond.selects R_Cc y_Cc_misses y_Cc_misses).before args s = true := h.w (in_t2 (List.mem_of_getElem? (i := 193) rfl)) rfl
theorem k_434 (h : Tb s) : (Cond.code y_Cc_misses b_Cc_misses 3 (some .boolean)).before args s = true := h.w (in_t2 (List.mem_of_getElem? (i := 194) rfl)) rfl
theorem k_435 (h : Tb s) : (Cond.methodLink R_Pc 147 y_In_goesToMemory).before args s = true := h.w (in_t2 (List.mem_of_getElem? (i := 195) rfl)) rfl
theorem k_436 (h : Tb s) : (Cond.instanceMethod y_In_goesToMemory).before args s = true := h.w (in_t2 (List.mem_of_getElem? (i := 196) rfl)) rfl
theorem k_437 (h : Tb s) : (Cond.selects R_In y_In_goesToMemory y_In_goesToMemory).before args s = true := h.w (in_t2 (List.mem_of_getElem? (i := 197) rfl)) rfl
theorem k_438 (h : Tb s) : (Cond.code y_In_goesToMemory b_In_goesToMemory 1 (some .boolean)).before args s = true := h.w (in_t2 (List.mem_of_getElem? (i := 198) rfl)) rfl
theorem k_439 (h : Tb s) : (Cond.methodLink R_Pc 151 y_Pc_moveCell).before args s = true := h.w (in_t2 (List.mem_of_getElem? (i := 199) rfl)) rfl
theorem k_441 (h : Tb s) : (Cond.instanceMethod y_Pc_moveCell).before args s = true := h.w (in_t2 (List.mem_of_getElem? (i := 201) rfl)) rfl
theorem k_442 (h : Tb s) : (Cond.code y_Pc_moveCell b_Pc_moveCell 3 (some .boolean)).before args s = true := h.w (in_t2 (List.mem_of_getElem? (i := 202) rfl)) rfl
theorem k_443 (h : Tb s) : (Cond.classLink R_Pc 177 "java/lang/IndexOutOfBoundsException").before args s = true := h.w (in_t2 (List.mem_of_getElem? (i := 203) rfl)) rfl
theorem k_444 (h : Tb s) : (Cond.instantiable "java/lang/IndexOutOfBoundsException" 6).before args s = true := h.w (in_t2 (List.mem_of_getElem? (i := 204) rfl)) rfl
theorem k_445 (h : Tb s) : (Cond.castable "java/lang/IndexOutOfBoundsException" "java/lang/IndexOutOfBoundsException").before args s = true := h.w (in_t2 (List.mem_of_getElem? (i := 205) rfl)) rfl
theorem k_452 (h : Tb s) : (Cond.methodLink R_Pc 179 ⟨"java/lang/IndexOutOfBoundsException", "<init>", "()V"⟩).before args s = true := h.w (in_t2 (List.mem_of_getElem? (i := 212) rfl)) rfl
theorem k_453 (h : Tb s) : (Cond.instanceMethod ⟨"java/lang/IndexOutOfBoundsException", "<init>", "()V"⟩).before args s = true := h.w (in_t2 (List.mem_of_getElem? (i := 213) rfl)) rfl
theorem k_458 (h : Tb s) : (Cond.methodLink R_Pc 180 y_Pc_putWhole).before args s = true := h.w (in_t2 (List.mem_of_getElem? (i := 218) rfl)) rfl
theorem k_460 (h : Tb s) : (Cond.instanceMethod y_Pc_putWhole).before args s = true := h.w (in_t2 (List.mem_of_getElem? (i := 220) rfl)) rfl
theorem k_461 (h : Tb s) : (Cond.code y_Pc_putWhole b_Pc_putWhole 3 none).before args s = true := h.w (in_t2 (List.mem_of_getElem? (i := 221) rfl)) rfl
theorem k_462 (h : Tb s) : (Cond.methodLink R_Pc 183 y_Dc_misses).before args s = true := h.w (in_t2 (List.mem_of_getElem? (i := 222) rfl)) rfl
theorem k_463 (h : Tb s) : (Cond.instanceMethod y_Dc_misses).before args s = true := h.w (in_t2 (List.mem_of_getElem? (i := 223) rfl)) rfl
theorem k_464 (h : Tb s) : (Cond.selects R_Dc y_Dc_misses y_Dc_misses).before args s = true := h.w (in_t2 (List.mem_of_getElem? (i := 224) rfl)) rfl
theorem k_465 (h : Tb s) : (Cond.code y_Dc_misses b_Dc_misses 5 (some .boolean)).before args s = true := h.w (in_t2 (List.mem_of_getElem? (i := 225) rfl)) rfl
theorem k_466 (h : Tb s) : (Cond.methodLink R_Pc 155 y_In_hasTarget).before args s = true := h.w (in_t2 (List.mem_of_getElem? (i := 226) rfl)) rfl
theorem k_467 (h : Tb s) : (Cond.methodLink R_Pc 158 y_Pc_jumpIsDue).before args s = true := h.w (in_t2 (List.mem_of_getElem? (i := 227) rfl)) rfl
theorem k_469 (h : Tb s) : (Cond.instanceMethod y_Pc_jumpIsDue).before args s = true := h.w (in_t2 (List.mem_of_getElem? (i := 229) rfl)) rfl
theorem k_470 (h : Tb s) : (Cond.code y_Pc_jumpIsDue b_Pc_jumpIsDue 3 (some .boolean)).before args s = true := h.w (in_t2 (List.mem_of_getElem? (i := 230) rfl)) rfl
theorem k_471 (h : Tb s) : (Cond.methodLink R_Pc 161 y_Pr_guessesWrong).before args s = true := h.w (in_t2 (List.mem_of_getElem? (i := 231) rfl)) rfl
theorem k_472 (h : Tb s) : (Cond.instanceMethod y_Pr_guessesWrong).before args s = true := h.w (in_t2 (List.mem_of_getElem? (i := 232) rfl)) rfl
theorem k_473 (h : Tb s) : (Cond.selects R_Pr y_Pr_guessesWrong y_Pr_guessesWrong).before args s = true := h.w (in_t2 (List.mem_of_getElem? (i := 233) rfl)) rfl
theorem k_474 (h : Tb s) : (Cond.code y_Pr_guessesWrong b_Pr_guessesWrong 5 (some .boolean)).before args s = true := h.w (in_t2 (List.mem_of_getElem? (i := 234) rfl)) rfl
theorem k_475 (h : Tb s) : (Cond.methodLink R_Pr 26 ⟨"java/lang/Math", "min", "(II)I"⟩).before args s = true := h.w (in_t2 (List.mem_of_getElem? (i := 235) rfl)) rfl
theorem k_476 (h : Tb s) : (Cond.static ⟨"java/lang/Math", "min", "(II)I"⟩).before args s = true := h.w (in_t2 (List.mem_of_getElem? (i := 236) rfl)) rfl
theorem k_477 (h : Tb s) : (Cond.code Lib.Math.min.name Lib.Math.min.code 2 (some .int)).before args s = true := h.w (in_t2 (List.mem_of_getElem? (i := 237) rfl)) rfl
theorem k_478 (h : Tb s) : (Cond.methodLink R_Pr 32 ⟨"java/lang/Math", "max", "(II)I"⟩).before args s = true := h.w (in_t2 (List.mem_of_getElem? (i := 238) rfl)) rfl
theorem k_479 (h : Tb s) : (Cond.methodLink R_Pc 165 y_Pc_compute).before args s = true := h.w (in_t2 (List.mem_of_getElem? (i := 239) rfl)) rfl
theorem k_481 (h : Tb s) : (Cond.instanceMethod y_Pc_compute).before args s = true := h.w (in_t3 (List.mem_of_getElem? (i := 1) rfl)) rfl
theorem k_482 (h : Tb s) : (Cond.code y_Pc_compute b_Pc_compute 6 none).before args s = true := h.w (in_t3 (List.mem_of_getElem? (i := 2) rfl)) rfl
theorem k_483 (h : Tb s) : (Cond.methodLink R_Pc 184 y_Pc_computedWhole).before args s = true := h.w (in_t3 (List.mem_of_getElem? (i := 3) rfl)) rfl
theorem k_485 (h : Tb s) : (Cond.instanceMethod y_Pc_computedWhole).before args s = true := h.w (in_t3 (List.mem_of_getElem? (i := 5) rfl)) rfl
theorem k_486 (h : Tb s) : (Cond.code y_Pc_computedWhole b_Pc_computedWhole 4 (some .int)).before args s = true := h.w (in_t3 (List.mem_of_getElem? (i := 6) rfl)) rfl
theorem k_487 (h : Tb s) : (Cond.methodLink R_Pc 188 y_Pc_computedFraction).before args s = true := h.w (in_t3 (List.mem_of_getElem? (i := 7) rfl)) rfl
theorem k_489 (h : Tb s) : (Cond.instanceMethod y_Pc_computedFraction).before args s = true := h.w (in_t3 (List.mem_of_getElem? (i := 9) rfl)) rfl
theorem k_490 (h : Tb s) : (Cond.code y_Pc_computedFraction b_Pc_computedFraction 8 (some .double)).before args s = true := h.w (in_t3 (List.mem_of_getElem? (i := 10) rfl)) rfl
theorem k_491 (h : Tb s) : (Cond.methodLink R_Pc 192 y_Pc_outcomeOf).before args s = true := h.w (in_t3 (List.mem_of_getElem? (i := 11) rfl)) rfl
theorem k_493 (h : Tb s) : (Cond.instanceMethod y_Pc_outcomeOf).before args s = true := h.w (in_t3 (List.mem_of_getElem? (i := 13) rfl)) rfl
theorem k_494 (h : Tb s) : (Cond.code y_Pc_outcomeOf b_Pc_outcomeOf 6 (some .double)).before args s = true := h.w (in_t3 (List.mem_of_getElem? (i := 14) rfl)) rfl
theorem k_495 (h : Tb s) : (Cond.methodLink R_Pc 202 y_Pc_quotient).before args s = true := h.w (in_t3 (List.mem_of_getElem? (i := 15) rfl)) rfl
theorem k_497 (h : Tb s) : (Cond.instanceMethod y_Pc_quotient).before args s = true := h.w (in_t3 (List.mem_of_getElem? (i := 17) rfl)) rfl
theorem k_498 (h : Tb s) : (Cond.code y_Pc_quotient b_Pc_quotient 5 (some .double)).before args s = true := h.w (in_t3 (List.mem_of_getElem? (i := 18) rfl)) rfl
theorem k_499 (h : Tb s) : (Cond.classLink R_Pc 199 "java/lang/ArithmeticException").before args s = true := h.w (in_t3 (List.mem_of_getElem? (i := 19) rfl)) rfl
theorem k_500 (h : Tb s) : (Cond.instantiable "java/lang/ArithmeticException" 6).before args s = true := h.w (in_t3 (List.mem_of_getElem? (i := 20) rfl)) rfl
theorem k_501 (h : Tb s) : (Cond.castable "java/lang/ArithmeticException" "java/lang/ArithmeticException").before args s = true := h.w (in_t3 (List.mem_of_getElem? (i := 21) rfl)) rfl
theorem k_508 (h : Tb s) : (Cond.methodLink R_Pc 201 ⟨"java/lang/ArithmeticException", "<init>", "()V"⟩).before args s = true := h.w (in_t3 (List.mem_of_getElem? (i := 28) rfl)) rfl
theorem k_509 (h : Tb s) : (Cond.instanceMethod ⟨"java/lang/ArithmeticException", "<init>", "()V"⟩).before args s = true := h.w (in_t3 (List.mem_of_getElem? (i := 29) rfl)) rfl
theorem k_514 (h : Tb s) : (Cond.constantDouble R_Pc 195 (4741671816366391296 : UInt64)).before args s = true := h.w (in_t3 (List.mem_of_getElem? (i := 34) rfl)) rfl
theorem k_515 (h : Tb s) : (Cond.constantDouble R_Pc 197 (13965043853221167104 : UInt64)).before args s = true := h.w (in_t3 (List.mem_of_getElem? (i := 35) rfl)) rfl
theorem k_516 (h : Tb s) : (Cond.methodLink R_Pc 169 y_Ck_begin).before args s = true := h.w (in_t3 (List.mem_of_getElem? (i := 36) rfl)) rfl
theorem k_517 (h : Tb s) : (Cond.instanceMethod y_Ck_begin).before args s = true := h.w (in_t3 (List.mem_of_getElem? (i := 37) rfl)) rfl
theorem k_518 (h : Tb s) : (Cond.selects R_Ck y_Ck_begin y_Ck_begin).before args s = true := h.w (in_t3 (List.mem_of_getElem? (i := 38) rfl)) rfl
theorem k_519 (h : Tb s) : (Cond.code y_Ck_begin b_Ck_begin 7 none).before args s = true := h.w (in_t3 (List.mem_of_getElem? (i := 39) rfl)) rfl
theorem k_520 (h : Tb s) : (Cond.methodLink R_Ck 35 y_In_latency).before args s = true := h.w (in_t3 (List.mem_of_getElem? (i := 40) rfl)) rfl
theorem k_521 (h : Tb s) : (Cond.methodLink R_Ck 41 y_Ck_beginning).before args s = true := h.w (in_t3 (List.mem_of_getElem? (i := 41) rfl)) rfl
theorem k_523 (h : Tb s) : (Cond.instanceMethod y_Ck_beginning).before args s = true := h.w (in_t3 (List.mem_of_getElem? (i := 43) rfl)) rfl
theorem k_524 (h : Tb s) : (Cond.code y_Ck_beginning b_Ck_beginning 5 (some .int)).before args s = true := h.w (in_t3 (List.mem_of_getElem? (i := 44) rfl)) rfl
theorem k_525 (h : Tb s) : (Cond.methodLink R_Ck 58 y_Ck_readyTime).before args s = true := h.w (in_t3 (List.mem_of_getElem? (i := 45) rfl)) rfl
theorem k_527 (h : Tb s) : (Cond.instanceMethod y_Ck_readyTime).before args s = true := h.w (in_t3 (List.mem_of_getElem? (i := 47) rfl)) rfl
theorem k_528 (h : Tb s) : (Cond.code y_Ck_readyTime b_Ck_readyTime 2 (some .int)).before args s = true := h.w (in_t3 (List.mem_of_getElem? (i := 48) rfl)) rfl
theorem k_529 (h : Tb s) : (Cond.methodLink R_Ck 62 ⟨"java/lang/Math", "max", "(II)I"⟩).before args s = true := h.w (in_t3 (List.mem_of_getElem? (i := 49) rfl)) rfl
theorem k_530 (h : Tb s) : (Cond.methodLink R_Ck 51 y_In_goesToMemory).before args s = true := h.w (in_t3 (List.mem_of_getElem? (i := 50) rfl)) rfl
theorem k_531 (h : Tb s) : (Cond.methodLink R_Pc 173 y_In_target).before args s = true := h.w (in_t3 (List.mem_of_getElem? (i := 51) rfl)) rfl
theorem k_532 (h : Tb s) : (Cond.methodLink R_La 79 y_La_whole).before args s = true := h.w (in_t3 (List.mem_of_getElem? (i := 52) rfl)) rfl
theorem k_533 (h : Tb s) : (Cond.static y_La_whole).before args s = true := h.w (in_t3 (List.mem_of_getElem? (i := 53) rfl)) rfl
theorem k_534 (h : Tb s) : (Cond.codeWith y_La_whole b_La_whole 4 (some .int) [(0, 9, 12, 13)]).before args s = true := h.w (in_t3 (List.mem_of_getElem? (i := 54) rfl)) rfl
theorem k_535 (h : Tb s) : (Cond.methodLink R_La 33 y_Pc_whole).before args s = true := h.w (in_t3 (List.mem_of_getElem? (i := 55) rfl)) rfl
theorem k_536 (h : Tb s) : (Cond.instanceMethod y_Pc_whole).before args s = true := h.w (in_t3 (List.mem_of_getElem? (i := 56) rfl)) rfl
theorem k_537 (h : Tb s) : (Cond.selects R_Pc y_Pc_whole y_Pc_whole).before args s = true := h.w (in_t3 (List.mem_of_getElem? (i := 57) rfl)) rfl
theorem k_538 (h : Tb s) : (Cond.code y_Pc_whole b_Pc_whole 2 (some .int)).before args s = true := h.w (in_t3 (List.mem_of_getElem? (i := 58) rfl)) rfl
theorem k_539 (h : Tb s) : (Cond.methodLink R_La 82 y_La_fraction).before args s = true := h.w (in_t3 (List.mem_of_getElem? (i := 59) rfl)) rfl
theorem k_540 (h : Tb s) : (Cond.static y_La_fraction).before args s = true := h.w (in_t3 (List.mem_of_getElem? (i := 60) rfl)) rfl
theorem k_541 (h : Tb s) : (Cond.codeWith y_La_fraction b_La_fraction 4 (some .int) [(0, 8, 11, 13)]).before args s = true := h.w (in_t3 (List.mem_of_getElem? (i := 61) rfl)) rfl
theorem k_542 (h : Tb s) : (Cond.methodLink R_La 36 y_Pc_fraction).before args s = true := h.w (in_t3 (List.mem_of_getElem? (i := 62) rfl)) rfl
theorem k_543 (h : Tb s) : (Cond.instanceMethod y_Pc_fraction).before args s = true := h.w (in_t3 (List.mem_of_getElem? (i := 63) rfl)) rfl
theorem k_544 (h : Tb s) : (Cond.selects R_Pc y_Pc_fraction y_Pc_fraction).before args s = true := h.w (in_t3 (List.mem_of_getElem? (i := 64) rfl)) rfl
theorem k_545 (h : Tb s) : (Cond.code y_Pc_fraction b_Pc_fraction 2 (some .double)).before args s = true := h.w (in_t3 (List.mem_of_getElem? (i := 65) rfl)) rfl
theorem k_546 (h : Tb s) : (Cond.methodLink R_La 86 y_La_memory).before args s = true := h.w (in_t3 (List.mem_of_getElem? (i := 66) rfl)) rfl
theorem k_547 (h : Tb s) : (Cond.static y_La_memory).before args s = true := h.w (in_t3 (List.mem_of_getElem? (i := 67) rfl)) rfl
theorem k_548 (h : Tb s) : (Cond.codeWith y_La_memory b_La_memory 4 (some .int) [(0, 8, 11, 13)]).before args s = true := h.w (in_t3 (List.mem_of_getElem? (i := 68) rfl)) rfl
theorem k_549 (h : Tb s) : (Cond.methodLink R_La 40 y_Pc_memory).before args s = true := h.w (in_t3 (List.mem_of_getElem? (i := 69) rfl)) rfl
theorem k_550 (h : Tb s) : (Cond.instanceMethod y_Pc_memory).before args s = true := h.w (in_t3 (List.mem_of_getElem? (i := 70) rfl)) rfl
theorem k_551 (h : Tb s) : (Cond.selects R_Pc y_Pc_memory y_Pc_memory).before args s = true := h.w (in_t3 (List.mem_of_getElem? (i := 71) rfl)) rfl
theorem k_552 (h : Tb s) : (Cond.code y_Pc_memory b_Pc_memory 2 (some .double)).before args s = true := h.w (in_t3 (List.mem_of_getElem? (i := 72) rfl)) rfl
theorem k_553 (h : Tb s) : (Cond.methodLink R_La 89 y_La_told).before args s = true := h.w (in_t3 (List.mem_of_getElem? (i := 73) rfl)) rfl
theorem k_554 (h : Tb s) : (Cond.static y_La_told).before args s = true := h.w (in_t3 (List.mem_of_getElem? (i := 74) rfl)) rfl
theorem k_555 (h : Tb s) : (Cond.codeWith y_La_told b_La_told 5 (some .int) [(0, 10, 13, 13)]).before args s = true := h.w (in_t3 (List.mem_of_getElem? (i := 75) rfl)) rfl
theorem k_556 (h : Tb s) : (Cond.methodLink R_La 43 y_Pc_told).before args s = true := h.w (in_t3 (List.mem_of_getElem? (i := 76) rfl)) rfl
theorem k_557 (h : Tb s) : (Cond.instanceMethod y_Pc_told).before args s = true := h.w (in_t3 (List.mem_of_getElem? (i := 77) rfl)) rfl
theorem k_558 (h : Tb s) : (Cond.selects R_Pc y_Pc_told y_Pc_told).before args s = true := h.w (in_t3 (List.mem_of_getElem? (i := 78) rfl)) rfl
theorem k_559 (h : Tb s) : (Cond.code y_Pc_told b_Pc_told 4 (some .int)).before args s = true := h.w (in_t3 (List.mem_of_getElem? (i := 79) rfl)) rfl
theorem k_560 (h : Tb s) : (Cond.classLink R_La 48 R_Mo).before args s = true := h.w (in_t3 (List.mem_of_getElem? (i := 80) rfl)) rfl
theorem k_561 (h : Tb s) : (Cond.instantiable R_Mo 29).before args s = true := h.w (in_t3 (List.mem_of_getElem? (i := 81) rfl)) rfl
theorem k_562 (h : Tb s) : (Cond.methodLink R_La 50 y_Mo_init).before args s = true := h.w (in_t3 (List.mem_of_getElem? (i := 82) rfl)) rfl
theorem k_563 (h : Tb s) : (Cond.instanceMethod y_Mo_init).before args s = true := h.w (in_t3 (List.mem_of_getElem? (i := 83) rfl)) rfl
theorem k_564 (h : Tb s) : (Cond.code y_Mo_init b_Mo_init 1 none).before args s = true := h.w (in_t3 (List.mem_of_getElem? (i := 84) rfl)) rfl
theorem k_565 (h : Tb s) : (Cond.methodLink R_Mo 1 objectInit).before args s = true := h.w (in_t3 (List.mem_of_getElem? (i := 85) rfl)) rfl
theorem k_566 (h : Tb s) : (Cond.methodLink R_Mo 71 y_Mo_reset).before args s = true := h.w (in_t3 (List.mem_of_getElem? (i := 86) rfl)) rfl
theorem k_568 (h : Tb s) : (Cond.instanceMethod y_Mo_reset).before args s = true := h.w (in_t3 (List.mem_of_getElem? (i := 88) rfl)) rfl
theorem k_569 (h : Tb s) : (Cond.code y_Mo_reset b_Mo_reset 2 none).before args s = true := h.w (in_t3 (List.mem_of_getElem? (i := 89) rfl)) rfl
theorem k_570 (h : Tb s) : (Cond.fieldLink R_Mo 7 "PipeComputerModel" "op" "[I").before args s = true := h.w (in_t3 (List.mem_of_getElem? (i := 90) rfl)) rfl
theorem k_571 (h : Tb s) : (Cond.fieldLink R_Mo 13 "PipeComputerModel" "d" "[I").before args s = true := h.w (in_t3 (List.mem_of_getElem? (i := 91) rfl)) rfl
theorem k_572 (h : Tb s) : (Cond.fieldLink R_Mo 16 "PipeComputerModel" "a" "[I").before args s = true := h.w (in_t3 (List.mem_of_getElem? (i := 92) rfl)) rfl
theorem k_573 (h : Tb s) : (Cond.fieldLink R_Mo 19 "PipeComputerModel" "b" "[I").before args s = true := h.w (in_t3 (List.mem_of_getElem? (i := 93) rfl)) rfl
theorem k_574 (h : Tb s) : (Cond.fieldLink R_Mo 22 "PipeComputerModel" "n" "[I").before args s = true := h.w (in_t3 (List.mem_of_getElem? (i := 94) rfl)) rfl
theorem k_575 (h : Tb s) : (Cond.fieldLink R_Mo 25 "PipeComputerModel" "whole" "[I").before args s = true := h.w (in_t3 (List.mem_of_getElem? (i := 95) rfl)) rfl
theorem k_576 (h : Tb s) : (Cond.fieldLink R_Mo 28 "PipeComputerModel" "ready" "[I").before args s = true := h.w (in_t3 (List.mem_of_getElem? (i := 96) rfl)) rfl
theorem k_577 (h : Tb s) : (Cond.fieldLink R_Mo 31 "PipeComputerModel" "group" "[I").before args s = true := h.w (in_t3 (List.mem_of_getElem? (i := 97) rfl)) rfl
theorem k_578 (h : Tb s) : (Cond.fieldLink R_Mo 34 "PipeComputerModel" "line" "[I").before args s = true := h.w (in_t3 (List.mem_of_getElem? (i := 98) rfl)) rfl
theorem k_579 (h : Tb s) : (Cond.fieldLink R_Mo 37 "PipeComputerModel" "used" "[I").before args s = true := h.w (in_t3 (List.mem_of_getElem? (i := 99) rfl)) rfl
theorem k_580 (h : Tb s) : (Cond.fieldLink R_Mo 40 "PipeComputerModel" "counter" "[I").before args s = true := h.w (in_t3 (List.mem_of_getElem? (i := 100) rfl)) rfl
theorem k_581 (h : Tb s) : (Cond.fieldLink R_Mo 43 "PipeComputerModel" "fraction" "[D").before args s = true := h.w (in_t3 (List.mem_of_getElem? (i := 101) rfl)) rfl
theorem k_582 (h : Tb s) : (Cond.fieldLink R_Mo 47 "PipeComputerModel" "memory" "[D").before args s = true := h.w (in_t3 (List.mem_of_getElem? (i := 102) rfl)) rfl
theorem k_583 (h : Tb s) : (Cond.fieldLink R_Mo 50 "PipeComputerModel" "height" "[I").before args s = true := h.w (in_t3 (List.mem_of_getElem? (i := 103) rfl)) rfl
theorem k_584 (h : Tb s) : (Cond.fieldLink R_Mo 53 "PipeComputerModel" "order" "[I").before args s = true := h.w (in_t3 (List.mem_of_getElem? (i := 104) rfl)) rfl
theorem k_585 (h : Tb s) : (Cond.fieldLink R_Mo 56 "PipeComputerModel" "kept" "[I").before args s = true := h.w (in_t3 (List.mem_of_getElem? (i := 105) rfl)) rfl
theorem k_586 (h : Tb s) : (Cond.fieldLink R_Mo 59 "PipeComputerModel" "placed" "[Z").before args s = true := h.w (in_t3 (List.mem_of_getElem? (i := 106) rfl)) rfl
theorem k_587 (h : Tb s) : (Cond.fieldLink R_Mo 113 "PipeComputerModel" "place" "I").before args s = true := h.w (in_t3 (List.mem_of_getElem? (i := 107) rfl)) rfl
theorem k_588 (h : Tb s) : (Cond.fieldLink R_Mo 95 "PipeComputerModel" "done" "I").before args s = true := h.w (in_t3 (List.mem_of_getElem? (i := 108) rfl)) rfl
theorem k_589 (h : Tb s) : (Cond.fieldLink R_Mo 63 "PipeComputerModel" "began" "I").before args s = true := h.w (in_t3 (List.mem_of_getElem? (i := 109) rfl)) rfl
theorem k_590 (h : Tb s) : (Cond.fieldLink R_Mo 92 "PipeComputerModel" "groupsMissed" "I").before args s = true := h.w (in_t3 (List.mem_of_getElem? (i := 110) rfl)) rfl
theorem k_591 (h : Tb s) : (Cond.fieldLink R_Mo 89 "PipeComputerModel" "linesMissed" "I").before args s = true := h.w (in_t3 (List.mem_of_getElem? (i := 111) rfl)) rfl
theorem k_592 (h : Tb s) : (Cond.fieldLink R_Mo 86 "PipeComputerModel" "wrongJumps" "I").before args s = true := h.w (in_t3 (List.mem_of_getElem? (i := 112) rfl)) rfl
theorem k_593 (h : Tb s) : (Cond.fieldLink R_Mo 83 "PipeComputerModel" "divider" "I").before args s = true := h.w (in_t3 (List.mem_of_getElem? (i := 113) rfl)) rfl
theorem k_594 (h : Tb s) : (Cond.fieldLink R_Mo 80 "PipeComputerModel" "memoryFree" "I").before args s = true := h.w (in_t3 (List.mem_of_getElem? (i := 114) rfl)) rfl
theorem k_595 (h : Tb s) : (Cond.fieldLink R_Mo 77 "PipeComputerModel" "clock" "I").before args s = true := h.w (in_t3 (List.mem_of_getElem? (i := 115) rfl)) rfl
theorem k_596 (h : Tb s) : (Cond.fieldLink R_Mo 74 "PipeComputerModel" "thrown" "I").before args s = true := h.w (in_t3 (List.mem_of_getElem? (i := 116) rfl)) rfl
theorem k_597 (h : Tb s) : (Cond.fieldLink R_Mo 67 "PipeComputerModel" "stopped" "Z").before args s = true := h.w (in_t3 (List.mem_of_getElem? (i := 117) rfl)) rfl
theorem k_598 (h : Tb s) : (Cond.fieldLink R_Mo 98 "PipeComputerModel" "wrong" "Z").before args s = true := h.w (in_t3 (List.mem_of_getElem? (i := 118) rfl)) rfl
theorem k_658 (h : Tb s) : (Cond.methodLink R_La 57 y_Mo_thrown).before args s = true := h.w (in_t3 (List.mem_of_getElem? (i := 178) rfl)) rfl
theorem k_659 (h : Tb s) : (Cond.instanceMethod y_Mo_thrown).before args s = true := h.w (in_t3 (List.mem_of_getElem? (i := 179) rfl)) rfl
theorem k_660 (h : Tb s) : (Cond.selects R_Mo y_Mo_thrown y_Mo_thrown).before args s = true := h.w (in_t3 (List.mem_of_getElem? (i := 180) rfl)) rfl
theorem k_661 (h : Tb s) : (Cond.code y_Mo_thrown b_Mo_thrown 1 (some .int)).before args s = true := h.w (in_t3 (List.mem_of_getElem? (i := 181) rfl)) rfl
theorem k_662 (h : Tb s) : (Cond.methodLink R_La 56 y_Mo_code).before args s = true := h.w (in_t3 (List.mem_of_getElem? (i := 182) rfl)) rfl
theorem k_663 (h : Tb s) : (Cond.instanceMethod y_Mo_code).before args s = true := h.w (in_t3 (List.mem_of_getElem? (i := 183) rfl)) rfl
theorem k_664 (h : Tb s) : (Cond.selects R_Mo y_Mo_code y_Mo_code).before args s = true := h.w (in_t3 (List.mem_of_getElem? (i := 184) rfl)) rfl
theorem k_665 (h : Tb s) : (Cond.code y_Mo_code b_Mo_code 7 none).before args s = true := h.w (in_t3 (List.mem_of_getElem? (i := 185) rfl)) rfl
theorem k_666 (h : Tb s) : (Cond.methodLink R_Mo 101 y_Mo_in).before args s = true := h.w (in_t3 (List.mem_of_getElem? (i := 186) rfl)) rfl
theorem k_667 (h : Tb s) : (Cond.static y_Mo_in).before args s = true := h.w (in_t3 (List.mem_of_getElem? (i := 187) rfl)) rfl
theorem k_668 (h : Tb s) : (Cond.code y_Mo_in b_Mo_in 3 (some .boolean)).before args s = true := h.w (in_t3 (List.mem_of_getElem? (i := 188) rfl)) rfl
theorem k_669 (h : Tb s) : (Cond.methodLink R_Mo 105 y_Mo_bad).before args s = true := h.w (in_t3 (List.mem_of_getElem? (i := 189) rfl)) rfl
theorem k_671 (h : Tb s) : (Cond.instanceMethod y_Mo_bad).before args s = true := h.w (in_t3 (List.mem_of_getElem? (i := 191) rfl)) rfl
theorem k_672 (h : Tb s) : (Cond.code y_Mo_bad b_Mo_bad 2 (some .boolean)).before args s = true := h.w (in_t3 (List.mem_of_getElem? (i := 192) rfl)) rfl
theorem k_673 (h : Tb s) : (Cond.methodLink R_La 66 y_Mo_cell).before args s = true := h.w (in_t3 (List.mem_of_getElem? (i := 193) rfl)) rfl
theorem k_674 (h : Tb s) : (Cond.instanceMethod y_Mo_cell).before args s = true := h.w (in_t3 (List.mem_of_getElem? (i := 194) rfl)) rfl
theorem k_675 (h : Tb s) : (Cond.selects R_Mo y_Mo_cell y_Mo_cell).before args s = true := h.w (in_t3 (List.mem_of_getElem? (i := 195) rfl)) rfl
theorem k_676 (h : Tb s) : (Cond.code y_Mo_cell b_Mo_cell 4 none).before args s = true := h.w (in_t3 (List.mem_of_getElem? (i := 196) rfl)) rfl
theorem k_677 (h : Tb s) : (Cond.constantDouble R_Mo 109 (13920209183539462144 : UInt64)).before args s = true := h.w (in_t3 (List.mem_of_getElem? (i := 197) rfl)) rfl
theorem k_678 (h : Tb s) : (Cond.constantDouble R_Mo 111 (4696837146684686336 : UInt64)).before args s = true := h.w (in_t3 (List.mem_of_getElem? (i := 198) rfl)) rfl
theorem k_679 (h : Tb s) : (Cond.methodLink R_La 70 y_Mo_start).before args s = true := h.w (in_t3 (List.mem_of_getElem? (i := 199) rfl)) rfl
theorem k_680 (h : Tb s) : (Cond.instanceMethod y_Mo_start).before args s = true := h.w (in_t3 (List.mem_of_getElem? (i := 200) rfl)) rfl
theorem k_681 (h : Tb s) : (Cond.selects R_Mo y_Mo_start y_Mo_start).before args s = true := h.w (in_t3 (List.mem_of_getElem? (i := 201) rfl)) rfl
theorem k_682 (h : Tb s) : (Cond.code y_Mo_start b_Mo_start 2 none).before args s = true := h.w (in_t3 (List.mem_of_getElem? (i := 202) rfl)) rfl
theorem k_683 (h : Tb s) : (Cond.methodLink R_La 74 y_Mo_run).before args s = true := h.w (in_t3 (List.mem_of_getElem? (i := 203) rfl)) rfl
theorem k_684 (h : Tb s) : (Cond.instanceMethod y_Mo_run).before args s = true := h.w (in_t3 (List.mem_of_getElem? (i := 204) rfl)) rfl
theorem k_685 (h : Tb s) : (Cond.selects R_Mo y_Mo_run y_Mo_run).before args s = true := h.w (in_t3 (List.mem_of_getElem? (i := 205) rfl)) rfl
theorem k_686 (h : Tb s) : (Cond.code y_Mo_run b_Mo_run 3 (some .int)).before args s = true := h.w (in_t3 (List.mem_of_getElem? (i := 206) rfl)) rfl
theorem k_687 (h : Tb s) : (Cond.methodLink R_Mo 165 y_Mo_doOne).before args s = true := h.w (in_t3 (List.mem_of_getElem? (i := 207) rfl)) rfl
theorem k_689 (h : Tb s) : (Cond.instanceMethod y_Mo_doOne).before args s = true := h.w (in_t3 (List.mem_of_getElem? (i := 209) rfl)) rfl
theorem k_690 (h : Tb s) : (Cond.code y_Mo_doOne b_Mo_doOne 10 none).before args s = true := h.w (in_t3 (List.mem_of_getElem? (i := 210) rfl)) rfl
theorem k_691 (h : Tb s) : (Cond.methodLink R_Mo 132 y_Mo_missGroup).before args s = true := h.w (in_t3 (List.mem_of_getElem? (i := 211) rfl)) rfl
theorem k_693 (h : Tb s) : (Cond.instanceMethod y_Mo_missGroup).before args s = true := h.w (in_t3 (List.mem_of_getElem? (i := 213) rfl)) rfl
theorem k_694 (h : Tb s) : (Cond.code y_Mo_missGroup b_Mo_missGroup 3 (some .boolean)).before args s = true := h.w (in_t3 (List.mem_of_getElem? (i := 214) rfl)) rfl
theorem k_695 (h : Tb s) : (Cond.methodLink R_Mo 136 y_Mo_trouble).before args s = true := h.w (in_t3 (List.mem_of_getElem? (i := 215) rfl)) rfl
theorem k_697 (h : Tb s) : (Cond.instanceMethod y_Mo_trouble).before args s = true := h.w (in_t3 (List.mem_of_getElem? (i := 217) rfl)) rfl
theorem k_698 (h : Tb s) : (Cond.code y_Mo_trouble b_Mo_trouble 9 (some .int)).before args s = true := h.w (in_t3 (List.mem_of_getElem? (i := 218) rfl)) rfl
theorem k_699 (h : Tb s) : (Cond.methodLink R_Mo 120 y_Mo_reckon).before args s = true := h.w (in_t3 (List.mem_of_getElem? (i := 219) rfl)) rfl
theorem k_701 (h : Tb s) : (Cond.instanceMethod y_Mo_reckon).before args s = true := h.w (in_t3 (List.mem_of_getElem? (i := 221) rfl)) rfl
theorem k_702 (h : Tb s) : (Cond.code y_Mo_reckon b_Mo_reckon 6 (some .double)).before args s = true := h.w (in_t3 (List.mem_of_getElem? (i := 222) rfl)) rfl
theorem k_703 (h : Tb s) : (Cond.constantDouble R_Mo 124 (4741671816366391296 : UInt64)).before args s = true := h.w (in_t3 (List.mem_of_getElem? (i := 223) rfl)) rfl
theorem k_704 (h : Tb s) : (Cond.constantDouble R_Mo 126 (13965043853221167104 : UInt64)).before args s = true := h.w (in_t3 (List.mem_of_getElem? (i := 224) rfl)) rfl
theorem k_705 (h : Tb s) : (Cond.methodLink R_Mo 139 y_Mo_missLine).before args s = true := h.w (in_t3 (List.mem_of_getElem? (i := 225) rfl)) rfl
theorem k_707 (h : Tb s) : (Cond.instanceMethod y_Mo_missLine).before args s = true := h.w (in_t3 (List.mem_of_getElem? (i := 227) rfl)) rfl
theorem k_708 (h : Tb s) : (Cond.code y_Mo_missLine b_Mo_missLine 5 (some .boolean)).before args s = true := h.w (in_t3 (List.mem_of_getElem? (i := 228) rfl)) rfl
theorem k_709 (h : Tb s) : (Cond.methodLink R_Mo 142 y_Mo_target).before args s = true := h.w (in_t3 (List.mem_of_getElem? (i := 229) rfl)) rfl
theorem k_711 (h : Tb s) : (Cond.instanceMethod y_Mo_target).before args s = true := h.w (in_t3 (List.mem_of_getElem? (i := 231) rfl)) rfl
theorem k_712 (h : Tb s) : (Cond.code y_Mo_target b_Mo_target 3 (some .int)).before args s = true := h.w (in_t3 (List.mem_of_getElem? (i := 232) rfl)) rfl
theorem k_713 (h : Tb s) : (Cond.methodLink R_Mo 145 y_Mo_latency).before args s = true := h.w (in_t3 (List.mem_of_getElem? (i := 233) rfl)) rfl
theorem k_715 (h : Tb s) : (Cond.instanceMethod y_Mo_latency).before args s = true := h.w (in_t3 (List.mem_of_getElem? (i := 235) rfl)) rfl
theorem k_716 (h : Tb s) : (Cond.code y_Mo_latency b_Mo_latency 3 (some .int)).before args s = true := h.w (in_t3 (List.mem_of_getElem? (i := 236) rfl)) rfl
theorem k_717 (h : Tb s) : (Cond.methodLink R_Mo 148 y_Mo_first).before args s = true := h.w (in_t3 (List.mem_of_getElem? (i := 237) rfl)) rfl
theorem k_719 (h : Tb s) : (Cond.instanceMethod y_Mo_first).before args s = true := h.w (in_t3 (List.mem_of_getElem? (i := 239) rfl)) rfl
theorem k_720 (h : Tb s) : (Cond.code y_Mo_first b_Mo_first 3 (some .int)).before args s = true := h.w (in_t4 (List.mem_of_getElem? (i := 0) rfl)) rfl
theorem k_721 (h : Tb s) : (Cond.methodLink R_Mo 151 y_Mo_later).before args s = true := h.w (in_t4 (List.mem_of_getElem? (i := 1) rfl)) rfl
theorem k_722 (h : Tb s) : (Cond.static y_Mo_later).before args s = true := h.w (in_t4 (List.mem_of_getElem? (i := 2) rfl)) rfl
theorem k_723 (h : Tb s) : (Cond.code y_Mo_later b_Mo_later 2 (some .int)).before args s = true := h.w (in_t4 (List.mem_of_getElem? (i := 3) rfl)) rfl
theorem k_724 (h : Tb s) : (Cond.methodLink R_Mo 155 y_Mo_second).before args s = true := h.w (in_t4 (List.mem_of_getElem? (i := 4) rfl)) rfl
theorem k_726 (h : Tb s) : (Cond.instanceMethod y_Mo_second).before args s = true := h.w (in_t4 (List.mem_of_getElem? (i := 6) rfl)) rfl
theorem k_727 (h : Tb s) : (Cond.code y_Mo_second b_Mo_second 3 (some .int)).before args s = true := h.w (in_t4 (List.mem_of_getElem? (i := 7) rfl)) rfl
theorem k_728 (h : Tb s) : (Cond.methodLink R_Mo 158 y_Mo_compute).before args s = true := h.w (in_t4 (List.mem_of_getElem? (i := 8) rfl)) rfl
theorem k_730 (h : Tb s) : (Cond.instanceMethod y_Mo_compute).before args s = true := h.w (in_t4 (List.mem_of_getElem? (i := 10) rfl)) rfl
theorem k_731 (h : Tb s) : (Cond.code y_Mo_compute b_Mo_compute 10 none).before args s = true := h.w (in_t4 (List.mem_of_getElem? (i := 11) rfl)) rfl
theorem k_732 (h : Tb s) : (Cond.methodLink R_Mo 116 y_Mo_put).before args s = true := h.w (in_t4 (List.mem_of_getElem? (i := 12) rfl)) rfl
theorem k_734 (h : Tb s) : (Cond.instanceMethod y_Mo_put).before args s = true := h.w (in_t4 (List.mem_of_getElem? (i := 14) rfl)) rfl
theorem k_735 (h : Tb s) : (Cond.code y_Mo_put b_Mo_put 3 none).before args s = true := h.w (in_t4 (List.mem_of_getElem? (i := 15) rfl)) rfl
theorem k_736 (h : Tb s) : (Cond.methodLink R_Mo 162 y_Mo_next).before args s = true := h.w (in_t4 (List.mem_of_getElem? (i := 16) rfl)) rfl
theorem k_738 (h : Tb s) : (Cond.instanceMethod y_Mo_next).before args s = true := h.w (in_t4 (List.mem_of_getElem? (i := 18) rfl)) rfl
theorem k_739 (h : Tb s) : (Cond.code y_Mo_next b_Mo_next 5 (some .int)).before args s = true := h.w (in_t4 (List.mem_of_getElem? (i := 19) rfl)) rfl
theorem k_740 (h : Tb s) : (Cond.methodLink R_Mo 128 y_Mo_modulo).before args s = true := h.w (in_t4 (List.mem_of_getElem? (i := 20) rfl)) rfl
theorem k_741 (h : Tb s) : (Cond.static y_Mo_modulo).before args s = true := h.w (in_t4 (List.mem_of_getElem? (i := 21) rfl)) rfl
theorem k_742 (h : Tb s) : (Cond.code y_Mo_modulo b_Mo_modulo 1 (some .int)).before args s = true := h.w (in_t4 (List.mem_of_getElem? (i := 22) rfl)) rfl
theorem k_743 (h : Tb s) : (Cond.methodLink R_La 78 y_Mo_schedule).before args s = true := h.w (in_t4 (List.mem_of_getElem? (i := 23) rfl)) rfl
theorem k_744 (h : Tb s) : (Cond.instanceMethod y_Mo_schedule).before args s = true := h.w (in_t4 (List.mem_of_getElem? (i := 24) rfl)) rfl
theorem k_745 (h : Tb s) : (Cond.selects R_Mo y_Mo_schedule y_Mo_schedule).before args s = true := h.w (in_t4 (List.mem_of_getElem? (i := 25) rfl)) rfl
theorem k_746 (h : Tb s) : (Cond.code y_Mo_schedule b_Mo_schedule 7 (some .int)).before args s = true := h.w (in_t4 (List.mem_of_getElem? (i := 26) rfl)) rfl
theorem k_747 (h : Tb s) : (Cond.methodLink R_Mo 175 y_Mo_leader).before args s = true := h.w (in_t4 (List.mem_of_getElem? (i := 27) rfl)) rfl
theorem k_749 (h : Tb s) : (Cond.instanceMethod y_Mo_leader).before args s = true := h.w (in_t4 (List.mem_of_getElem? (i := 29) rfl)) rfl
theorem k_750 (h : Tb s) : (Cond.code y_Mo_leader b_Mo_leader 3 (some .boolean)).before args s = true := h.w (in_t4 (List.mem_of_getElem? (i := 30) rfl)) rfl
theorem k_751 (h : Tb s) : (Cond.methodLink R_Mo 178 y_Mo_findHeights).before args s = true := h.w (in_t4 (List.mem_of_getElem? (i := 31) rfl)) rfl
theorem k_753 (h : Tb s) : (Cond.instanceMethod y_Mo_findHeights).before args s = true := h.w (in_t4 (List.mem_of_getElem? (i := 33) rfl)) rfl
theorem k_754 (h : Tb s) : (Cond.code y_Mo_findHeights b_Mo_findHeights 5 none).before args s = true := h.w (in_t4 (List.mem_of_getElem? (i := 34) rfl)) rfl
theorem k_755 (h : Tb s) : (Cond.methodLink R_Mo 172 y_Mo_tied).before args s = true := h.w (in_t4 (List.mem_of_getElem? (i := 35) rfl)) rfl
theorem k_757 (h : Tb s) : (Cond.instanceMethod y_Mo_tied).before args s = true := h.w (in_t4 (List.mem_of_getElem? (i := 37) rfl)) rfl
theorem k_758 (h : Tb s) : (Cond.code y_Mo_tied b_Mo_tied 5 (some .boolean)).before args s = true := h.w (in_t4 (List.mem_of_getElem? (i := 38) rfl)) rfl
theorem k_759 (h : Tb s) : (Cond.methodLink R_Mo 168 y_Mo_reads).before args s = true := h.w (in_t4 (List.mem_of_getElem? (i := 39) rfl)) rfl
theorem k_761 (h : Tb s) : (Cond.instanceMethod y_Mo_reads).before args s = true := h.w (in_t4 (List.mem_of_getElem? (i := 41) rfl)) rfl
theorem k_762 (h : Tb s) : (Cond.code y_Mo_reads b_Mo_reads 3 (some .boolean)).before args s = true := h.w (in_t4 (List.mem_of_getElem? (i := 42) rfl)) rfl
theorem k_763 (h : Tb s) : (Cond.methodLink R_Mo 181 y_Mo_free).before args s = true := h.w (in_t4 (List.mem_of_getElem? (i := 43) rfl)) rfl
theorem k_765 (h : Tb s) : (Cond.instanceMethod y_Mo_free).before args s = true := h.w (in_t4 (List.mem_of_getElem? (i := 45) rfl)) rfl
theorem k_766 (h : Tb s) : (Cond.code y_Mo_free b_Mo_free 4 (some .boolean)).before args s = true := h.w (in_t4 (List.mem_of_getElem? (i := 46) rfl)) rfl
theorem k_767 (h : Tb s) : (Cond.methodLink R_Mo 184 y_Mo_move).before args s = true := h.w (in_t4 (List.mem_of_getElem? (i := 47) rfl)) rfl
theorem k_769 (h : Tb s) : (Cond.instanceMethod y_Mo_move).before args s = true := h.w (in_t4 (List.mem_of_getElem? (i := 49) rfl)) rfl
theorem k_770 (h : Tb s) : (Cond.code y_Mo_move b_Mo_move 3 none).before args s = true := h.w (in_t4 (List.mem_of_getElem? (i := 50) rfl)) rfl
theorem k_771 (h : Tb s) : (Cond.methodLink R_La 81 y_Mo_whole).before args s = true := h.w (in_t4 (List.mem_of_getElem? (i := 51) rfl)) rfl
theorem k_772 (h : Tb s) : (Cond.instanceMethod y_Mo_whole).before args s = true := h.w (in_t4 (List.mem_of_getElem? (i := 52) rfl)) rfl
theorem k_773 (h : Tb s) : (Cond.selects R_Mo y_Mo_whole y_Mo_whole).before args s = true := h.w (in_t4 (List.mem_of_getElem? (i := 53) rfl)) rfl
theorem k_774 (h : Tb s) : (Cond.code y_Mo_whole b_Mo_whole 2 (some .int)).before args s = true := h.w (in_t4 (List.mem_of_getElem? (i := 54) rfl)) rfl
theorem k_775 (h : Tb s) : (Cond.methodLink R_La 85 y_Mo_fraction).before args s = true := h.w (in_t4 (List.mem_of_getElem? (i := 55) rfl)) rfl
theorem k_776 (h : Tb s) : (Cond.instanceMethod y_Mo_fraction).before args s = true := h.w (in_t4 (List.mem_of_getElem? (i := 56) rfl)) rfl
theorem k_777 (h : Tb s) : (Cond.selects R_Mo y_Mo_fraction y_Mo_fraction).before args s = true := h.w (in_t4 (List.mem_of_getElem? (i := 57) rfl)) rfl
theorem k_778 (h : Tb s) : (Cond.code y_Mo_fraction b_Mo_fraction 2 (some .double)).before args s = true := h.w (in_t4 (List.mem_of_getElem? (i := 58) rfl)) rfl
theorem k_779 (h : Tb s) : (Cond.methodLink R_La 88 y_Mo_memory).before args s = true := h.w (in_t4 (List.mem_of_getElem? (i := 59) rfl)) rfl
theorem k_780 (h : Tb s) : (Cond.instanceMethod y_Mo_memory).before args s = true := h.w (in_t4 (List.mem_of_getElem? (i := 60) rfl)) rfl
theorem k_781 (h : Tb s) : (Cond.selects R_Mo y_Mo_memory y_Mo_memory).before args s = true := h.w (in_t4 (List.mem_of_getElem? (i := 61) rfl)) rfl
theorem k_782 (h : Tb s) : (Cond.code y_Mo_memory b_Mo_memory 2 (some .double)).before args s = true := h.w (in_t4 (List.mem_of_getElem? (i := 62) rfl)) rfl
theorem k_783 (h : Tb s) : (Cond.methodLink R_La 92 y_Mo_told).before args s = true := h.w (in_t4 (List.mem_of_getElem? (i := 63) rfl)) rfl
theorem k_784 (h : Tb s) : (Cond.instanceMethod y_Mo_told).before args s = true := h.w (in_t4 (List.mem_of_getElem? (i := 64) rfl)) rfl
theorem k_785 (h : Tb s) : (Cond.selects R_Mo y_Mo_told y_Mo_told).before args s = true := h.w (in_t4 (List.mem_of_getElem? (i := 65) rfl)) rfl
theorem k_786 (h : Tb s) : (Cond.code y_Mo_told b_Mo_told 3 (some .int)).before args s = true := h.w (in_t4 (List.mem_of_getElem? (i := 66) rfl)) rfl
theorem k_787 (h : Tb s) : (Cond.methodLink R_La 96 y_Mo_count).before args s = true := h.w (in_t4 (List.mem_of_getElem? (i := 67) rfl)) rfl
theorem k_788 (h : Tb s) : (Cond.instanceMethod y_Mo_count).before args s = true := h.w (in_t4 (List.mem_of_getElem? (i := 68) rfl)) rfl
theorem k_789 (h : Tb s) : (Cond.selects R_Mo y_Mo_count y_Mo_count).before args s = true := h.w (in_t4 (List.mem_of_getElem? (i := 69) rfl)) rfl
theorem k_790 (h : Tb s) : (Cond.code y_Mo_count b_Mo_count 2 (some .int)).before args s = true := h.w (in_t4 (List.mem_of_getElem? (i := 70) rfl)) rfl
theorem k_791 (h : Tb s) : (Cond.constantDouble R_La 61 (4593671619917905920 : UInt64)).before args s = true := h.w (in_t4 (List.mem_of_getElem? (i := 71) rfl)) rfl
theorem k_792 (h : Tb s) : (Cond.arrayClass .long).before args s = true := h.w (in_t4 (List.mem_of_getElem? (i := 72) rfl)) rfl
theorem ks_0 (h : Tb s) : (Cond.selects R_Sc y_Sc_findLeaders y_Sc_findLeaders).before args s = true := h.w (in_s (List.mem_of_getElem? (i := 0) rfl)) rfl
theorem ks_1 (h : Tb s) : (Cond.selects R_Sc y_Sc_endOfBlock y_Sc_endOfBlock).before args s = true := h.w (in_s (List.mem_of_getElem? (i := 1) rfl)) rfl
theorem ks_2 (h : Tb s) : (Cond.selects R_Sc y_Sc_reorderBlock y_Sc_reorderBlock).before args s = true := h.w (in_s (List.mem_of_getElem? (i := 2) rfl)) rfl
theorem ks_3 (h : Tb s) : (Cond.selects R_Sc y_Sc_findHeights y_Sc_findHeights).before args s = true := h.w (in_s (List.mem_of_getElem? (i := 3) rfl)) rfl
theorem ks_4 (h : Tb s) : (Cond.selects R_In y_In_keepsItsTurn y_In_keepsItsTurn).before args s = true := h.w (in_s (List.mem_of_getElem? (i := 4) rfl)) rfl
theorem ks_5 (h : Tb s) : (Cond.selects R_Sc y_Sc_nextToPlace y_Sc_nextToPlace).before args s = true := h.w (in_s (List.mem_of_getElem? (i := 5) rfl)) rfl
theorem ks_6 (h : Tb s) : (Cond.selects "java/lang/Throwable" ⟨"java/lang/Throwable", "fillInStackTrace", "(I)Ljava/lang/Throwable;"⟩ ⟨"java/lang/Throwable", "fillInStackTrace", "(I)Ljava/lang/Throwable;"⟩).before args s = true := h.w (in_s (List.mem_of_getElem? (i := 6) rfl)) rfl
theorem ks_7 (h : Tb s) : (Cond.selects R_Pc y_Pc_doOne y_Pc_doOne).before args s = true := h.w (in_s (List.mem_of_getElem? (i := 7) rfl)) rfl
theorem ks_8 (h : Tb s) : (Cond.selects R_Pc y_Pc_moveCell y_Pc_moveCell).before args s = true := h.w (in_s (List.mem_of_getElem? (i := 8) rfl)) rfl
theorem ks_9 (h : Tb s) : (Cond.selects R_Pc y_Pc_putWhole y_Pc_putWhole).before args s = true := h.w (in_s (List.mem_of_getElem? (i := 9) rfl)) rfl
theorem ks_10 (h : Tb s) : (Cond.selects R_Pc y_Pc_jumpIsDue y_Pc_jumpIsDue).before args s = true := h.w (in_s (List.mem_of_getElem? (i := 10) rfl)) rfl
theorem ks_11 (h : Tb s) : (Cond.selects R_Pc y_Pc_compute y_Pc_compute).before args s = true := h.w (in_s (List.mem_of_getElem? (i := 11) rfl)) rfl
theorem ks_12 (h : Tb s) : (Cond.selects R_Pc y_Pc_computedWhole y_Pc_computedWhole).before args s = true := h.w (in_s (List.mem_of_getElem? (i := 12) rfl)) rfl
theorem ks_13 (h : Tb s) : (Cond.selects R_Pc y_Pc_computedFraction y_Pc_computedFraction).before args s = true := h.w (in_s (List.mem_of_getElem? (i := 13) rfl)) rfl
theorem ks_14 (h : Tb s) : (Cond.selects R_Pc y_Pc_outcomeOf y_Pc_outcomeOf).before args s = true := h.w (in_s (List.mem_of_getElem? (i := 14) rfl)) rfl
theorem ks_15 (h : Tb s) : (Cond.selects R_Pc y_Pc_quotient y_Pc_quotient).before args s = true := h.w (in_s (List.mem_of_getElem? (i := 15) rfl)) rfl
theorem ks_16 (h : Tb s) : (Cond.selects R_Ck y_Ck_beginning y_Ck_beginning).before args s = true := h.w (in_s (List.mem_of_getElem? (i := 16) rfl)) rfl
theorem ks_17 (h : Tb s) : (Cond.selects R_Ck y_Ck_readyTime y_Ck_readyTime).before args s = true := h.w (in_s (List.mem_of_getElem? (i := 17) rfl)) rfl
theorem ks_18 (h : Tb s) : (Cond.selects R_Mo y_Mo_reset y_Mo_reset).before args s = true := h.w (in_s (List.mem_of_getElem? (i := 18) rfl)) rfl
theorem ks_19 (h : Tb s) : (Cond.selects R_Mo y_Mo_bad y_Mo_bad).before args s = true := h.w (in_s (List.mem_of_getElem? (i := 19) rfl)) rfl
theorem ks_20 (h : Tb s) : (Cond.selects R_Mo y_Mo_doOne y_Mo_doOne).before args s = true := h.w (in_s (List.mem_of_getElem? (i := 20) rfl)) rfl
theorem ks_21 (h : Tb s) : (Cond.selects R_Mo y_Mo_missGroup y_Mo_missGroup).before args s = true := h.w (in_s (List.mem_of_getElem? (i := 21) rfl)) rfl
theorem ks_22 (h : Tb s) : (Cond.selects R_Mo y_Mo_trouble y_Mo_trouble).before args s = true := h.w (in_s (List.mem_of_getElem? (i := 22) rfl)) rfl
theorem ks_23 (h : Tb s) : (Cond.selects R_Mo y_Mo_reckon y_Mo_reckon).before args s = true := h.w (in_s (List.mem_of_getElem? (i := 23) rfl)) rfl
theorem ks_24 (h : Tb s) : (Cond.selects R_Mo y_Mo_missLine y_Mo_missLine).before args s = true := h.w (in_s (List.mem_of_getElem? (i := 24) rfl)) rfl
theorem ks_25 (h : Tb s) : (Cond.selects R_Mo y_Mo_target y_Mo_target).before args s = true := h.w (in_s (List.mem_of_getElem? (i := 25) rfl)) rfl
theorem ks_26 (h : Tb s) : (Cond.selects R_Mo y_Mo_latency y_Mo_latency).before args s = true := h.w (in_s (List.mem_of_getElem? (i := 26) rfl)) rfl
theorem ks_27 (h : Tb s) : (Cond.selects R_Mo y_Mo_first y_Mo_first).before args s = true := h.w (in_s (List.mem_of_getElem? (i := 27) rfl)) rfl
theorem ks_28 (h : Tb s) : (Cond.selects R_Mo y_Mo_second y_Mo_second).before args s = true := h.w (in_s (List.mem_of_getElem? (i := 28) rfl)) rfl
theorem ks_29 (h : Tb s) : (Cond.selects R_Mo y_Mo_compute y_Mo_compute).before args s = true := h.w (in_s (List.mem_of_getElem? (i := 29) rfl)) rfl
theorem ks_30 (h : Tb s) : (Cond.selects R_Mo y_Mo_put y_Mo_put).before args s = true := h.w (in_s (List.mem_of_getElem? (i := 30) rfl)) rfl
theorem ks_31 (h : Tb s) : (Cond.selects R_Mo y_Mo_next y_Mo_next).before args s = true := h.w (in_s (List.mem_of_getElem? (i := 31) rfl)) rfl
theorem ks_32 (h : Tb s) : (Cond.selects R_Mo y_Mo_leader y_Mo_leader).before args s = true := h.w (in_s (List.mem_of_getElem? (i := 32) rfl)) rfl
theorem ks_33 (h : Tb s) : (Cond.selects R_Mo y_Mo_findHeights y_Mo_findHeights).before args s = true := h.w (in_s (List.mem_of_getElem? (i := 33) rfl)) rfl
theorem ks_34 (h : Tb s) : (Cond.selects R_Mo y_Mo_tied y_Mo_tied).before args s = true := h.w (in_s (List.mem_of_getElem? (i := 34) rfl)) rfl
theorem ks_35 (h : Tb s) : (Cond.selects R_Mo y_Mo_reads y_Mo_reads).before args s = true := h.w (in_s (List.mem_of_getElem? (i := 35) rfl)) rfl
theorem ks_36 (h : Tb s) : (Cond.selects R_Mo y_Mo_free y_Mo_free).before args s = true := h.w (in_s (List.mem_of_getElem? (i := 36) rfl)) rfl
theorem ks_37 (h : Tb s) : (Cond.selects R_Mo y_Mo_move y_Mo_move).before args s = true := h.w (in_s (List.mem_of_getElem? (i := 37) rfl)) rfl
set_option maxRecDepth 20000 in
theorem wl_Ck_in : ∀ w ∈ u_ws R_Ck F_Ck 5, w ∈ lw_tbl ∧ tb_ok w = true := by decide +kernel
theorem wl_Ck (h : Tb s) : ∀ w ∈ u_ws R_Ck F_Ck 5, w.before args s = true := fun w hw => h.w (wl_Ck_in w hw).1 (wl_Ck_in w hw).2
set_option maxRecDepth 20000 in
theorem wl_Cc_in : ∀ w ∈ u_ws R_Cc F_Cc 2, w ∈ lw_tbl ∧ tb_ok w = true := by decide +kernel
theorem wl_Cc (h : Tb s) : ∀ w ∈ u_ws R_Cc F_Cc 2, w.before args s = true := fun w hw => h.w (wl_Cc_in w hw).1 (wl_Cc_in w hw).2
set_option maxRecDepth 20000 in
theorem wl_Dc_in : ∀ w ∈ u_ws R_Dc F_Dc 4, w ∈ lw_tbl ∧ tb_ok w = true := by decide +kernel
theorem wl_Dc (h : Tb s) : ∀ w ∈ u_ws R_Dc F_Dc 4, w.before args s = true := fun w hw => h.w (wl_Dc_in w hw).1 (wl_Dc_in w hw).2
set_option maxRecDepth 20000 in
theorem wl_In_in : ∀ w ∈ u_ws R_In F_In 8, w ∈ lw_tbl ∧ tb_ok w = true := by decide +kernel
theorem wl_In (h : Tb s) : ∀ w ∈ u_ws R_In F_In 8, w.before args s = true := fun w hw => h.w (wl_In_in w hw).1 (wl_In_in w hw).2
set_option maxRecDepth 20000 in
theorem wl_Pr_in : ∀ w ∈ u_ws R_Pr F_Pr 2, w ∈ lw_tbl ∧ tb_ok w = true := by decide +kernel
theorem wl_Pr (h : Tb s) : ∀ w ∈ u_ws R_Pr F_Pr 2, w.before args s = true := fun w hw => h.w (wl_Pr_in w hw).1 (wl_Pr_in w hw).2
set_option maxRecDepth 20000 in
theorem wl_Sc_in : ∀ w ∈ u_ws R_Sc F_Sc 4, w ∈ lw_tbl ∧ tb_ok w = true := by decide +kernel
theorem wl_Sc (h : Tb s) : ∀ w ∈ u_ws R_Sc F_Sc 4, w.before args s = true := fun w hw => h.w (wl_Sc_in w hw).1 (wl_Sc_in w hw).2
set_option maxRecDepth 20000 in
theorem wl_Pc_in : ∀ w ∈ u_ws R_Pc F_Pc 12, w ∈ lw_tbl ∧ tb_ok w = true := by decide +kernel
theorem wl_Pc (h : Tb s) : ∀ w ∈ u_ws R_Pc F_Pc 12, w.before args s = true := fun w hw => h.w (wl_Pc_in w hw).1 (wl_Pc_in w hw).2
set_option maxRecDepth 20000 in
theorem wl_Mo_in : ∀ w ∈ u_ws R_Mo F_Mo 29, w ∈ lw_tbl ∧ tb_ok w = true := by decide +kernel
theorem wl_Mo (h : Tb s) : ∀ w ∈ u_ws R_Mo F_Mo 29, w.before args s = true := fun w hw => h.w (wl_Mo_in w hw).1 (wl_Mo_in w hw).2
end Words
end
section
/-! THE WORLD OF THE CLASS: its cells over fixed addresses, as a function of the pure state -/
section World
/-- what is fixed: the law's start, the addresses that may be written, the addresses of the objects and of the 24 instructions, the array classes, the classes' numbers and slots, the static tables' addresses -/
abbrev GT : Type := State × (Nat → Prop) × (Nat → Nat) × (Nat → Nat) × (Nat → ClassId) × va_G × (Nat → Nat)
def gS (G : GT) : State := G.1
def gA (G : GT) : Nat → Prop := G.2.1
def gad (G : GT) : Nat → Nat := G.2.2.1
def gia (G : GT) : Nat → Nat := G.2.2.2.1
def gk (G : GT) : Nat → ClassId := G.2.2.2.2.1
def gD (G : GT) : va_G := G.2.2.2.2.2.1
def gt (G : GT) : Nat → Nat := G.2.2.2.2.2.2
abbrev tys (G : GT) : List (ClassId × FieldType) := [(gk G 0, .int), (gk G 1, .double), (gk G 2, .boolean), (gk G 3, .object R_In), (gk G 4, .long)]
def insR (G : GT) (k : Nat) : Option Nat := if k < 24 then some (gia G k) else none
abbrev aI (f : Nat → Int32) : (Nat → Int32) ⊕ (Nat → Int64) ⊕ (Nat → UInt32) ⊕ (Nat → UInt64) ⊕ (Nat → Option Nat) := .inl f
abbrev aD (f : Nat → UInt64) : (Nat → Int32) ⊕ (Nat → Int64) ⊕ (Nat → UInt32) ⊕ (Nat → UInt64) ⊕ (Nat → Option Nat) := .inr (.inr (.inr (.inl f)))
abbrev aQ (f : Nat → Option Nat) : (Nat → Int32) ⊕ (Nat → Int64) ⊕ (Nat → UInt32) ⊕ (Nat → UInt64) ⊕ (Nat → Option Nat) := .inr (.inr (.inr (.inr f)))
abbrev insF (q : Nat → Int32) : List Value := [.int (q 0), .int (q 1), .int (q 2), .int (q 3), .int (q 4), .int (q 5), .int (q 6), .int (q 7)]
abbrev cw1 (G : GT) (σ : CS) : va_W := [
  (gad G 0, .inr (6, [.ref (gad G 1), .ref (gad G 2), .ref (gad G 3), .ref (gad G 4), .ref (gad G 5), .ref (gad G 7), .ref (gad G 9), .ref (gad G 12), .ref (gad G 14), .int (cI σ 0), .int (cI σ 1), .int (cI σ 2)])),
  (gad G 1, .inl (gk G 3, 24, aQ (fun i => insR G (cP σ 0 i)))),
  (gad G 2, .inl (gk G 1, 48, aD (cF σ 0))),
  (gad G 3, .inl (gk G 0, 8, aI (cJ σ 0))),
  (gad G 4, .inl (gk G 1, 4, aD (cF σ 1))),
  (gad G 5, .inr (0, [.ref (gad G 6), .int (cI σ 3), .int (cI σ 4), .int (cI σ 5), .int (cI σ 6)])),
  (gad G 6, .inl (gk G 0, 12, aI (cJ σ 1))),
  (gad G 7, .inr (1, [.int (cI σ 7), .ref (gad G 8)])),
  (gad G 8, .inl (gk G 0, 2, aI (cJ σ 2))),
  (gad G 9, .inr (2, [.int (cI σ 8), .ref (gad G 10), .ref (gad G 11), .int (cI σ 9)])),
  (gad G 10, .inl (gk G 0, 4, aI (cJ σ 3))),
  (gad G 11, .inl (gk G 0, 4, aI (cJ σ 4))),
  (gad G 12, .inr (4, [.int (cI σ 10), .ref (gad G 13)])),
  (gad G 13, .inl (gk G 0, 8, aI (cJ σ 5))),
  (gad G 14, .inr (5, [.ref (gad G 15), .ref (gad G 16), .ref (gad G 17), .ref (gad G 18)])),
  (gad G 15, .inl (gk G 3, 24, aQ (fun i => insR G (cP σ 1 i)))),
  (gad G 16, .inl (gk G 2, 24, aI (cJ σ 6))),
  (gad G 17, .inl (gk G 0, 24, aI (cJ σ 7))),
  (gad G 18, .inl (gk G 0, 24, aI (cJ σ 8)))]
def cwi (G : GT) (σ : CS) : va_W := (List.range 24).map (fun i => (gia G i, .inr (3, insF (cQ σ i))))
abbrev cw (G : GT) (σ : CS) : va_W := cw1 G σ ++ cwi G σ
theorem cw_in {G : GT} {σ : CS} {i : Nat} (h : i < 24) : (cw G σ)[19 + i]? = some (gia G i, .inr (3, insF (cQ σ i))) := by
  rw [List.getElem?_append_right (show (cw1 G σ).length ≤ 19 + i from Nat.le_add_right 19 i)]
  show (cwi G σ)[19 + i - 19]? = _
  rw [Nat.add_sub_cancel_left]
  simp [cwi, h]
/-- the premises on what is fixed -/
def GOK (l : Launch) (G : GT) : Prop :=
  l.stackTraces = false ∧ Tb (gS G) ∧ va_K (gD G) classes (tys G) (gS G) ∧ (∀ q, gA G q → (gS G).heap.size ≤ q) ∧ (∀ σ, va_D (gA G) (cw G σ)) ∧
  (va_Z "PipeComputer" "LATENCY" "[I" (.ref (gt G 0)) (gA G) (gS G) (gS G).heap ∧ va_T .int (gt G 0) 20 (fun j => .int (latT j)) (gA G) (gS G) (gS G).heap) ∧
  (va_Z "PipeComputer" "WRITTEN_D" "[I" (.ref (gt G 1)) (gA G) (gS G) (gS G).heap ∧ va_T .int (gt G 1) 20 (fun j => .int (wrdT j)) (gA G) (gS G) (gS G).heap) ∧
  (va_Z "PipeComputer" "READ_A" "[I" (.ref (gt G 2)) (gA G) (gS G) (gS G).heap ∧ va_T .int (gt G 2) 20 (fun j => .int (rdaT j)) (gA G) (gS G) (gS G).heap) ∧
  (va_Z "PipeComputer" "READ_B" "[I" (.ref (gt G 3)) (gA G) (gS G) (gS G).heap ∧ va_T .int (gt G 3) 20 (fun j => .int (rdbT j)) (gA G) (gS G) (gS G).heap) ∧
  (∀ (U : State) (args : Array Value), Ow (gS G) U → (Cond.isRef (.static Bundle.tN "UNASSIGNED_STACK" Bundle.steD)).before args U = true ∧ (Cond.isRef (.static Bundle.tN "SUPPRESSED_SENTINEL" Bundle.listD)).before args U = true ∧
    (Cond.laysStatic Bundle.tN "UNASSIGNED_STACK" Bundle.steD).before args U = true ∧ (Cond.laysStatic Bundle.tN "SUPPRESSED_SENTINEL" Bundle.listD).before args U = true)
/-- the class's world holds in U -/
def Cw (G : GT) (σ : CS) (U : State) : Prop := Ow (gS G) U ∧ (∀ q, U.heap.size ≤ q → gA G q) ∧ va_P (gD G) classes (cw G σ) U.heap
variable {l : Launch} {G : GT} {σ σ' : CS} {s : State} {H : Heap} {locs : List Loc}
theorem GOK.tb (g : GOK l G) (h : Cw G σ s) : Tb s := g.2.1.warm h.1.1
theorem GOK.k (g : GOK l G) (h : Cw G σ s) : va_K (gD G) classes (tys G) s := va_K.moved h.1.1.alike g.2.2.1
theorem GOK.d (g : GOK l G) : va_D (gA G) (cw G σ) := g.2.2.2.2.1 σ
theorem GOK.zt {n : String} {t N : Nat} {f : Nat → Value} (h : Cw G σ s) (z : va_Z "PipeComputer" n "[I" (.ref t) (gA G) (gS G) (gS G).heap ∧ va_T .int t N f (gA G) (gS G) (gS G).heap) :
    va_Z "PipeComputer" n "[I" (.ref t) (gA G) s s.heap ∧ va_T .int t N f (gA G) s s.heap :=
  ⟨va_Z.kept (va_Z.moved h.1.1.alike z.1) (fun a ha _ => h.1.2.2 a ha), va_T.kept (va_T.moved h.1.1.alike z.2) (fun a ha _ => h.1.2.2 a ha)⟩
theorem Cw.at (h : Cw G σ s) (g : GOK l G) (hS : va_S (gA G) s.heap H locs) (hP : va_P (gD G) classes (cw G σ') H) : ∀ U : State, U.heap = H → s.WarmedH U.vm → Cw G σ' U := fun U hU hW =>
  ⟨h.1.to g.2.2.2.1 hS hU hW, fun q hq => h.2.1 q (Nat.le_trans hS.1 (by rw [← hU]; exact hq)), by rw [hU]; exact hP⟩
/-- what a method gives back: an int, a double, nothing; and the world -/
def Ri (G : GT) (P : Int32 → CS → Prop) : Option Value → State → Prop := fun v t => ∃ (r : Int32) (u : CS), v = some (.int r) ∧ P r u ∧ va_P (gD G) classes (cw G u) t.heap
def Rd (G : GT) (P : UInt64 → CS → Prop) : Option Value → State → Prop := fun v t => ∃ (r : UInt64) (u : CS), v = some (.double r) ∧ P r u ∧ va_P (gD G) classes (cw G u) t.heap
def Rv (G : GT) (P : CS → Prop) : Option Value → State → Prop := fun v t => ∃ u : CS, v = none ∧ P u ∧ va_P (gD G) classes (cw G u) t.heap
def Tn : String → State → Prop := fun _ _ => False
def Tw (G : GT) (P : String → CS → Prop) : String → State → Prop := fun E t => ∃ u : CS, P E u ∧ va_P (gD G) classes (cw G u) t.heap
theorem Tw.i {P : String → CS → Prop} {E : String} {u : CS} {t : State} (h : P E u) (hP : va_P (gD G) classes (cw G u) t.heap) : Tw G P E t := ⟨u, h, hP⟩
theorem va_P.keep {D : va_G} {cl : List vw_C} {ws : va_W} {H H1 : Heap} (h : va_P D cl ws H) (hk : ∀ q : Nat, q < H.size → H1[q]? = H[q]?) : va_P D cl ws H1 := h.kept (fun k q hq => hk q.1 (h k q hq).lt)
theorem m4_in {x : Int32} (h : vp_in x 8) : vp_in (x - x / 4 * 4) 4 := by
  obtain ⟨j, hj, rfl⟩ := vp_in_of h (by decide)
  have : ∀ j, j < 8 → vp_in (nI j - nI j / 4 * 4) 4 := by unfold vp_in; decide
  exact this j hj
theorem badR_in {n g : Int32} {k : Nat} (hg : g.toInt + 1 = k) (h : badR n g = false) : vp_in n k := by
  unfold badR at h
  rw [vp_in_iff]
  split at h
  · cases h
  · rename_i h1
    split at h
    · rename_i h2
      rw [Int32.lt_iff_toInt_lt] at h1
      rw [Int32.le_iff_toInt_le] at h2
      rw [Int32.toInt_zero] at h1
      omega
    · cases h
theorem nb_b (b : Bool) : narrow .boolean (.int (b2i b)) = .int (b2i b) := by cases b <;> rfl
theorem fb_b (b : Bool) : fits .boolean (.int (b2i b)) = true := by cases b <;> rfl
theorem b2i0 {b : Bool} (h : b2i b = 0) : b = false := by cases b; rfl; exact absurd h (by decide)
theorem b2i1 {b : Bool} (h : ¬ b2i b = 0) : b = true := by cases b; exact absurd rfl h; rfl
end World
section WRows
variable {p : Program} {l : Launch} {e : Env} {R : Room} {s : State} {m : MethodId} {args : Array Value} {below : List Frame} {meth : Method} {c : Code} {H : Heap} {locs : List Loc} {cells slots : Nat} {Q : State → Prop}
variable {cc : ByteArray} {pc : Nat} {ls : Array Slot} {rest : List Value} {D : va_G} {cl : List vw_C} {tys : List (ClassId × FieldType)} {ws : va_W} {a : Nat} {A : Nat → Prop} {H0 : Heap}
/-- a reference out of an array, known not to be null -/
theorem ald_r (hexec : p.tables.exec = Jvm.exec) (hb : c.code = cc) (hK : va_K D cl tys s) (hP : va_P D cl ws H) (q0 t0 : Nat) {cA : ClassId} {C : String} {n v : Nat} {f : Nat → Option Nat} (ha : ws[q0]? = some (a, .inl (cA, n, .inr (.inr (.inr (.inr f)))))) (ht : tys[t0]? = some (cA, .object C)) {i : Int32} (hin : vp_in i n) (hv : f i.toNatClampNeg = some v) (hdg : decode cc pc = .ok (.aaload, 1))
    (kk : W p l e R s m args below meth c H locs cells slots Q (F0 m (pc + 1) ls (.ref v :: rest))) : W p l e R s m args below meth c H locs cells slots Q (F0 m pc ls (.int i :: .ref a :: rest)) := by
  refine va_aldq hexec hb hK hP q0 t0 ha ht hin hdg ?_
  rw [hv]
  exact kk
end WRows
section Bodies
/-- what is known in the body of a method of the class -/
def Bx (l : Launch) (G : GT) (p : Program) (s : State) (m : MethodId) (meth : Method) (c : Code) (cc : ByteArray) (nL : Nat) (ret : Option FieldType) (own : String) : Prop :=
  p.tables.exec = Jvm.exec ∧ c.code = cc ∧ c.maxLocals = nL ∧ meth.sig.returnType = ret ∧ s.vm.findClass own = some m.cls ∧ meth.locks = false ∧ (∀ x ∈ c.exceptionTable.toList, False) ∧ GOK l G ∧ ∃ σ, Cw G σ s
variable {p : Program} {l : Launch} {e : Env} {R : Room} {s : State} {m : MethodId} {args : Array Value} {below : List Frame} {meth : Method} {c : Code} {H : Heap} {locs : List Loc} {cells slots : Nat} {Q : State → Prop} {cc : ByteArray} {pc : Nat} {ls : Array Slot} {rest : List Value}
/-- two ways that meet: what comes behind is walked once -/
theorem W_join {α : Type} {P : α → Array Slot → Prop} (g2 : α → Array Slot → JFrame) {g : JFrame} (k : ∀ a ls, P a ls → W p l e R s m args below meth c H locs cells slots Q (g2 a ls)) (h : (∀ a ls, P a ls → W p l e R s m args below meth c H locs cells slots Q (g2 a ls)) → W p l e R s m args below meth c H locs cells slots Q g) : W p l e R s m args below meth c H locs cells slots Q g := h k
/-- x ? a : b of constants: ifeq; iconst a; goto; iconst b -/
theorem W_tern {x a b : Int32} {na nb o1 o2 : Int} {L J : Nat} (hx : p.tables.exec = Jvm.exec) (hb : c.code = cc) (d0 : decode cc pc = .ok (.ifCond .eq o1, 3)) (h1 : (pc : Int) + o1 = (L : Int)) (d1 : decode cc (pc + 3) = .ok (.iconst na, 1)) (ha : Int32.ofInt na = a) (d2 : decode cc (pc + 3 + 1) = .ok (.goto o2, 3)) (h2 : ((pc + 3 + 1 : Nat) : Int) + o2 = (J : Int)) (d3 : decode cc L = .ok (.iconst nb, 1)) (hbv : Int32.ofInt nb = b) (hJ : L + 1 = J)
    (k : W p l e R s m args below meth c H locs cells slots Q (F0 m J ls (.int (if x = 0 then b else a) :: rest))) : W p l e R s m args below meth c H locs cells slots Q (F0 m pc ls (.int x :: rest)) := by
  refine lv_if_eq hx hb d0 h1 (fun q => ?_) (fun q => ?_)
  · refine lv_iconst hx hb d3 hbv ?_
    rw [if_pos q] at k
    rw [hJ]
    exact k
  · refine lv_iconst hx hb d1 ha ?_
    refine lv_goto hx hb d2 h2 ?_
    rw [if_neg q] at k
    exact k
end Bodies
section Ends
variable {p : Program} {l : Launch} {e : Env} {R : Room} {s : State} {m : MethodId} {args : Array Value} {below : List Frame} {meth : Method} {c : Code} {H : Heap} {locs : List Loc} {G : GT} {u : CS} {Tx : String → State → Prop} {cc : ByteArray} {pc : Nat} {ls : Array Slot}
theorem end_i {P : Int32 → CS → Prop} {r : Int32} (hx : p.tables.exec = Jvm.exec) (hb : c.code = cc) (hr : meth.sig.returnType = some .int) (hlocks : meth.locks = false) (hS : va_S (gA G) s.heap H locs) (hP : va_P (gD G) classes (cw G u) H) (d : decode cc pc = .ok (.ireturn, 1)) (h : P r u) :
    W p l e R s m args below meth c H locs 0 0 (cx_E below (gA G) (Ri G P) Tx args s) (F0 m pc ls [.int r]) :=
  cx_ret (W.iret (v := r) hx hb hr (fun t ht _ => ⟨hS.F ht, _, rfl, r, u, rfl, h, by rw [ht]; exact hP⟩) hS.2.2 d hlocks)
theorem end_z {P : Int32 → CS → Prop} {r : Int32} (hx : p.tables.exec = Jvm.exec) (hb : c.code = cc) (hr : meth.sig.returnType = some .boolean) (hlocks : meth.locks = false) (hS : va_S (gA G) s.heap H locs) (hP : va_P (gD G) classes (cw G u) H) (d : decode cc pc = .ok (.ireturn, 1)) (hn : narrow .boolean (.int r) = .int r) (h : P r u) :
    W p l e R s m args below meth c H locs 0 0 (cx_E below (gA G) (Ri G P) Tx args s) (F0 m pc ls [.int r]) :=
  cx_ret (W.zret (v := r) hx hb hr hn (fun t ht _ => ⟨hS.F ht, _, rfl, r, u, rfl, h, by rw [ht]; exact hP⟩) hS.2.2 d hlocks)
theorem end_d {P : UInt64 → CS → Prop} {r : UInt64} (hx : p.tables.exec = Jvm.exec) (hb : c.code = cc) (hr : meth.sig.returnType = some .double) (hlocks : meth.locks = false) (hS : va_S (gA G) s.heap H locs) (hP : va_P (gD G) classes (cw G u) H) (d : decode cc pc = .ok (.dreturn, 1)) (h : P r u) :
    W p l e R s m args below meth c H locs 0 0 (cx_E below (gA G) (Rd G P) Tx args s) (F0 m pc ls [.double r]) :=
  cx_ret (W.dret (v := r) hx hb hr (fun t ht _ => ⟨hS.F ht, _, rfl, r, u, rfl, h, by rw [ht]; exact hP⟩) hS.2.2 d hlocks)
theorem end_v {P : CS → Prop} (hx : p.tables.exec = Jvm.exec) (hb : c.code = cc) (hr : meth.sig.returnType = none) (hlocks : meth.locks = false) (hS : va_S (gA G) s.heap H locs) (hP : va_P (gD G) classes (cw G u) H) (d : decode cc pc = .ok (.return_, 1)) (h : P u) :
    W p l e R s m args below meth c H locs 0 0 (cx_E below (gA G) (Rv G P) Tx args s) (F0 m pc ls []) :=
  cx_ret (W.vret hx hb hr (fun t ht _ => ⟨hS.F ht, _, rfl, u, rfl, h, by rw [ht]; exact hP⟩) hS.2.2 d hlocks)
end Ends
section CwSet
theorem cw_set {G : GT} {σ : CS} {i : Nat} (h : i < 24) (q : Nat → Int32) : (cw G σ).set (19 + i) (gia G i, .inr (3, insF q)) = cw G (sQ σ i q) := by
  have e1 : (cw G σ).set (19 + i) (gia G i, .inr (3, insF q)) = cw1 G σ ++ (cwi G σ).set i (gia G i, .inr (3, insF q)) := by
    rw [List.set_append_right (19 + i) _ (show (cw1 G σ).length ≤ 19 + i from Nat.le_add_right 19 i)]
    show cw1 G σ ++ (cwi G σ).set (19 + i - 19) _ = _
    rw [Nat.add_sub_cancel_left]
  rw [e1]
  have e2 : (cwi G σ).set i (gia G i, .inr (3, insF q)) = cwi G (sQ σ i q) := by
    apply List.ext_getElem?
    intro k
    rw [List.getElem?_set]
    by_cases hk : i = k
    · subst hk
      simp [cwi, h, cQ, sQ, va_up]
    · simp only [cwi, List.length_map, List.length_range, hk, if_false, List.getElem?_map]
      by_cases h2 : k < 24
      · simp [h2, cQ, sQ, va_up, Ne.symm hk]
      · simp [h2]
  rw [e2]
  rfl
theorem sQ_sQ {σ : CS} {i : Nat} {q q' : Nat → Int32} : sQ (sQ σ i q) i q' = sQ σ i q' := by
  simp only [sQ]
  have : va_up (va_up σ.2.2.2.2 i q) i q' = va_up σ.2.2.2.2 i q' := by
    funext j
    unfold va_up
    split <;> rfl
  rw [this]
theorem cw_in2 {G : GT} {σ : CS} {i : Nat} {q : Nat → Int32} (h : i < 24) : (cw G (sQ σ i q))[19 + i]? = some (gia G i, .inr (3, insF q)) := by
  have e : cQ (sQ σ i q) i = q := by simp [cQ, sQ, va_up]
  rw [cw_in h, e]
theorem cw_set2 {G : GT} {σ : CS} {i : Nat} {q : Nat → Int32} (h : i < 24) (q' : Nat → Int32) : (cw G (sQ σ i q)).set (19 + i) (gia G i, .inr (3, insF q')) = cw G (sQ σ i q') := by
  rw [cw_set h, sQ_sQ]
end CwSet
end
section
/-! CONTRACTS: Instruction -/
theorem tsw_out {x : Int32} {l : List Int32} {lo hi : Int} {n : Nat} (hl : (List.range n).map (fun j : Nat => Int32.ofInt (lo + (j : Int))) = l) (hh : hi < lo + (n : Int)) (hn : x ∉ l) : x.toInt < lo ∨ hi < x.toInt := by
  by_cases h1 : x.toInt < lo
  · exact Or.inl h1
  · by_cases h2 : hi < x.toInt
    · exact Or.inr h2
    · exfalso
      apply hn
      rw [← hl, List.mem_map]
      refine ⟨(x.toInt - lo).toNat, List.mem_range.mpr (by omega), ?_⟩
      have e : lo + ((x.toInt - lo).toNat : Int) = x.toInt := by omega
      rw [e, Int32.ofInt_toInt]
set_option maxHeartbeats 4000000 in
set_option maxRecDepth 100000 in
theorem K_In_goesToMemory {l : Launch} {G : GT} (g : GOK l G) (σ : CS) {i : Nat} (hi : i < 24) : cx_M l y_In_goesToMemory (.code y_In_goesToMemory b_In_goesToMemory 1 (some .boolean)) 0 0 (gA G) [.ref (gia G i)] (Cw G σ) (Ri G (fun r u => r = b2i (memQ (cQ σ i)) ∧ u = σ)) (Tn) := by
  refine cx_of (by decide +kernel) ?_
  intro p e s m below meth c s₁ B hml ht hc
  have hx := B.exec
  have hb := B.bytes
  have hr := B.returns
  have hown : s.vm.findClass R_In = some m.cls := findClass_of_methodNamed B.named
  have hlocks := B.notSynchronized
  have hT := g.tb hc
  have hK := g.k hc
  have hD := g.d (σ := σ)
  have hS : va_S (gA G) s.heap s.heap [] := va_S.rf
  have hP := hc.2.2
  have hl := lv_entry ([.ref (gia G i)]) (n := 1) (Nat.le_of_ble_eq_true rfl)
  rw [lg_entry_eq]
  generalize (lg_sl ([.ref (gia G i)]) ++ List.replicate (1 - (lg_sl ([.ref (gia G i)])).length) Slot.unset).toArray = ls at hl ⊢
  have hl : lv_has ls 1 [(0, .ref (gia G i))] := hl
  refine lv_aload_n hx hb d_In_goesToMemory_0 rfl (lv_at hl 0 rfl) ?_
  refine va_get (D := gD G) (ci := 3) (v := .int (cQ σ i 0)) (C := R_In) (T := F_In) (N := 8) hx hb (wl_In hT) (fun _ h9 => h9) hown hK hP (19 + i) (cw_in hi) rfl 0 (by decide) (k_145 hT) (fun _ h9 => h9) rfl d_In_goesToMemory_1 ?_
  refine lv_bipush (v := 6) hx hb d_In_goesToMemory_4 (by decide) ?_
  refine lv_icmp_lt (tgt := 22) hx hb d_In_goesToMemory_6 (by decide) (fun c6 => ?_) (fun c6 => ?_)
  · refine lv_iconst (v := 0) hx hb d_In_goesToMemory_22 (by decide) ?_
    exact end_z (u := σ) hx hb hr hlocks hS hP d_In_goesToMemory_23 rfl (⟨by first | (simp [memQ, b2i, c6]; done) | (simp [memQ, b2i] <;> simp_all), rfl⟩)
  · refine lv_aload_n hx hb d_In_goesToMemory_9 rfl (lv_at hl 0 rfl) ?_
    refine va_get (D := gD G) (ci := 3) (v := .int (cQ σ i 0)) (C := R_In) (T := F_In) (N := 8) hx hb (wl_In hT) (fun _ h9 => h9) hown hK hP (19 + i) (cw_in hi) rfl 0 (by decide) (k_145 hT) (fun _ h9 => h9) rfl d_In_goesToMemory_10 ?_
    refine lv_bipush (v := 9) hx hb d_In_goesToMemory_13 (by decide) ?_
    refine lv_icmp_gt (tgt := 22) hx hb d_In_goesToMemory_15 (by decide) (fun c15 => ?_) (fun c15 => ?_)
    · refine lv_iconst (v := 0) hx hb d_In_goesToMemory_22 (by decide) ?_
      exact end_z (u := σ) hx hb hr hlocks hS hP d_In_goesToMemory_23 rfl (⟨by first | (simp [memQ, b2i, c6, c15]; done) | (simp [memQ, b2i] <;> simp_all), rfl⟩)
    · refine lv_iconst (v := 1) hx hb d_In_goesToMemory_18 (by decide) ?_
      refine lv_goto (tgt := 23) hx hb d_In_goesToMemory_19 (by decide) ?_
      exact end_z (u := σ) hx hb hr hlocks hS hP d_In_goesToMemory_23 rfl (⟨by first | (simp [memQ, b2i, c6, c15]; done) | (simp [memQ, b2i] <;> simp_all), rfl⟩)

set_option maxHeartbeats 4000000 in
set_option maxRecDepth 100000 in
theorem K_In_hasTarget {l : Launch} {G : GT} (g : GOK l G) (σ : CS) {i : Nat} (hi : i < 24) : cx_M l y_In_hasTarget (.code y_In_hasTarget b_In_hasTarget 1 (some .boolean)) 0 0 (gA G) [.ref (gia G i)] (Cw G σ) (Ri G (fun r u => r = b2i (tgtQ (cQ σ i)) ∧ u = σ)) (Tn) := by
  refine cx_of (by decide +kernel) ?_
  intro p e s m below meth c s₁ B hml ht hc
  have hx := B.exec
  have hb := B.bytes
  have hr := B.returns
  have hown : s.vm.findClass R_In = some m.cls := findClass_of_methodNamed B.named
  have hlocks := B.notSynchronized
  have hT := g.tb hc
  have hK := g.k hc
  have hD := g.d (σ := σ)
  have hS : va_S (gA G) s.heap s.heap [] := va_S.rf
  have hP := hc.2.2
  have hl := lv_entry ([.ref (gia G i)]) (n := 1) (Nat.le_of_ble_eq_true rfl)
  rw [lg_entry_eq]
  generalize (lg_sl ([.ref (gia G i)]) ++ List.replicate (1 - (lg_sl ([.ref (gia G i)])).length) Slot.unset).toArray = ls at hl ⊢
  have hl : lv_has ls 1 [(0, .ref (gia G i))] := hl
  refine lv_aload_n hx hb d_In_hasTarget_0 rfl (lv_at hl 0 rfl) ?_
  refine va_get (D := gD G) (ci := 3) (v := .int (cQ σ i 0)) (C := R_In) (T := F_In) (N := 8) hx hb (wl_In hT) (fun _ h9 => h9) hown hK hP (19 + i) (cw_in hi) rfl 0 (by decide) (k_145 hT) (fun _ h9 => h9) rfl d_In_hasTarget_1 ?_
  refine lv_bipush (v := 17) hx hb d_In_hasTarget_4 (by decide) ?_
  refine lv_icmp_lt (tgt := 13) hx hb d_In_hasTarget_6 (by decide) (fun c6 => ?_) (fun c6 => ?_)
  · refine lv_iconst (v := 0) hx hb d_In_hasTarget_13 (by decide) ?_
    exact end_z (u := σ) hx hb hr hlocks hS hP d_In_hasTarget_14 rfl (⟨by first | (simp [tgtQ, b2i, c6]; done) | (simp [tgtQ, b2i] <;> simp_all), rfl⟩)
  · refine lv_iconst (v := 1) hx hb d_In_hasTarget_9 (by decide) ?_
    refine lv_goto (tgt := 14) hx hb d_In_hasTarget_10 (by decide) ?_
    exact end_z (u := σ) hx hb hr hlocks hS hP d_In_hasTarget_14 rfl (⟨by first | (simp [tgtQ, b2i, c6]; done) | (simp [tgtQ, b2i] <;> simp_all), rfl⟩)

set_option maxHeartbeats 4000000 in
set_option maxRecDepth 100000 in
theorem K_In_endsBlock {l : Launch} {G : GT} (g : GOK l G) (σ : CS) {i : Nat} (hi : i < 24) : cx_M l y_In_endsBlock (.code y_In_endsBlock b_In_endsBlock 1 (some .boolean)) 1 20 (gA G) [.ref (gia G i)] (Cw G σ) (Ri G (fun r u => r = b2i (endQ (cQ σ i)) ∧ u = σ)) (Tn) := by
  refine cx_of (by decide +kernel) ?_
  intro p e s m below meth c s₁ B hml ht hc
  have hx := B.exec
  have hb := B.bytes
  have hr := B.returns
  have hown : s.vm.findClass R_In = some m.cls := findClass_of_methodNamed B.named
  have hlocks := B.notSynchronized
  have hT := g.tb hc
  have hK := g.k hc
  have hD := g.d (σ := σ)
  have hS : va_S (gA G) s.heap s.heap [] := va_S.rf
  have hP := hc.2.2
  have hl := lv_entry ([.ref (gia G i)]) (n := 1) (Nat.le_of_ble_eq_true rfl)
  rw [lg_entry_eq]
  generalize (lg_sl ([.ref (gia G i)]) ++ List.replicate (1 - (lg_sl ([.ref (gia G i)])).length) Slot.unset).toArray = ls at hl ⊢
  have hl : lv_has ls 1 [(0, .ref (gia G i))] := hl
  refine lv_aload_n hx hb d_In_endsBlock_0 rfl (lv_at hl 0 rfl) ?_
  refine va_get (D := gD G) (ci := 3) (v := .int (cQ σ i 0)) (C := R_In) (T := F_In) (N := 8) hx hb (wl_In hT) (fun _ h9 => h9) hown hK hP (19 + i) (cw_in hi) rfl 0 (by decide) (k_145 hT) (fun _ h9 => h9) rfl d_In_endsBlock_1 ?_
  refine lv_if_eq (tgt := 14) hx hb d_In_endsBlock_4 (by decide) (fun c4 => ?_) (fun c4 => ?_)
  · refine lv_iconst (v := 1) hx hb d_In_endsBlock_14 (by decide) ?_
    refine lv_goto (tgt := 19) hx hb d_In_endsBlock_15 (by decide) ?_
    exact end_z (u := σ) hx hb hr hlocks hS hP d_In_endsBlock_19 rfl (⟨by first | (simp [endQ, b2i, c4]; done) | (simp [endQ, b2i] <;> simp_all), rfl⟩)
  · refine lv_aload_n hx hb d_In_endsBlock_7 rfl (lv_at hl 0 rfl) ?_
    refine cx_V (n := 0) (C := R_In) (As := []) (rest := []) ⟨hx, hb, hml, hown, fun _ h9 => nomatch h9⟩ (K_In_hasTarget g σ hi) (k_232 hT) (k_233 hT) (k_234 hT) (k_235 hT) (k_8 hT) rfl (by decide +kernel) (va_recv hK hP (ci := 3) (q0 := 19 + i) rfl (cw_in hi)) (hc.at g hS hP) ⟨by decide, by decide⟩ ⟨by decide, by decide⟩ hl.1 (Nat.le_of_ble_eq_true rfl) d_In_endsBlock_8 (fun _ h9 => h9) hS (fun _ _ _ _ _ _ _ h9 => h9.elim) (fun v t H locs ht9 hRt hz hk hS => ?_)
    obtain ⟨r, u, rfl, ⟨er, eu⟩, hP⟩ := hRt
    subst er
    rw [eu, ht9] at hP
    have hD : va_D (gA G) (cw G σ) := g.d
    refine W.eq (g2 := F0 m 11 ls [.int (b2i (tgtQ (cQ σ i)))]) rfl ?_
    refine lv_if_eq (tgt := 18) hx hb d_In_endsBlock_11 (by decide) (fun c11 => ?_) (fun c11 => ?_)
    · have c11 := b2i0 c11
      refine lv_iconst (v := 0) hx hb d_In_endsBlock_18 (by decide) ?_
      exact end_z (u := σ) hx hb hr hlocks hS hP d_In_endsBlock_19 rfl (⟨by first | (simp [endQ, b2i, c4, c11]; done) | (simp [endQ, b2i] <;> simp_all), rfl⟩)
    · have c11 := b2i1 c11
      refine lv_iconst (v := 1) hx hb d_In_endsBlock_14 (by decide) ?_
      refine lv_goto (tgt := 19) hx hb d_In_endsBlock_15 (by decide) ?_
      exact end_z (u := σ) hx hb hr hlocks hS hP d_In_endsBlock_19 rfl (⟨by first | (simp [endQ, b2i, c4, c11]; done) | (simp [endQ, b2i] <;> simp_all), rfl⟩)

set_option maxHeartbeats 4000000 in
set_option maxRecDepth 100000 in
theorem K_In_keepsItsTurn {l : Launch} {G : GT} (g : GOK l G) (σ : CS) {i : Nat} (hi : i < 24) : cx_M l y_In_keepsItsTurn (.code y_In_keepsItsTurn b_In_keepsItsTurn 1 (some .boolean)) 0 0 (gA G) [.ref (gia G i)] (Cw G σ) (Ri G (fun r u => r = b2i (trnQ (cQ σ i)) ∧ u = σ)) (Tn) := by
  refine cx_of (by decide +kernel) ?_
  intro p e s m below meth c s₁ B hml ht hc
  have hx := B.exec
  have hb := B.bytes
  have hr := B.returns
  have hown : s.vm.findClass R_In = some m.cls := findClass_of_methodNamed B.named
  have hlocks := B.notSynchronized
  have hT := g.tb hc
  have hK := g.k hc
  have hD := g.d (σ := σ)
  have hS : va_S (gA G) s.heap s.heap [] := va_S.rf
  have hP := hc.2.2
  have hl := lv_entry ([.ref (gia G i)]) (n := 1) (Nat.le_of_ble_eq_true rfl)
  rw [lg_entry_eq]
  generalize (lg_sl ([.ref (gia G i)]) ++ List.replicate (1 - (lg_sl ([.ref (gia G i)])).length) Slot.unset).toArray = ls at hl ⊢
  have hl : lv_has ls 1 [(0, .ref (gia G i))] := hl
  refine lv_aload_n hx hb d_In_keepsItsTurn_0 rfl (lv_at hl 0 rfl) ?_
  refine va_get (D := gD G) (ci := 3) (v := .int (cQ σ i 0)) (C := R_In) (T := F_In) (N := 8) hx hb (wl_In hT) (fun _ h9 => h9) hown hK hP (19 + i) (cw_in hi) rfl 0 (by decide) (k_145 hT) (fun _ h9 => h9) rfl d_In_keepsItsTurn_1 ?_
  refine lv_bipush (v := 6) hx hb d_In_keepsItsTurn_4 (by decide) ?_
  refine lv_icmp_lt (tgt := 22) hx hb d_In_keepsItsTurn_6 (by decide) (fun c6 => ?_) (fun c6 => ?_)
  · refine lv_iconst (v := 0) hx hb d_In_keepsItsTurn_22 (by decide) ?_
    exact end_z (u := σ) hx hb hr hlocks hS hP d_In_keepsItsTurn_23 rfl (⟨by first | (simp [trnQ, b2i, c6]; done) | (simp [trnQ, b2i] <;> simp_all), rfl⟩)
  · refine lv_aload_n hx hb d_In_keepsItsTurn_9 rfl (lv_at hl 0 rfl) ?_
    refine va_get (D := gD G) (ci := 3) (v := .int (cQ σ i 0)) (C := R_In) (T := F_In) (N := 8) hx hb (wl_In hT) (fun _ h9 => h9) hown hK hP (19 + i) (cw_in hi) rfl 0 (by decide) (k_145 hT) (fun _ h9 => h9) rfl d_In_keepsItsTurn_10 ?_
    refine lv_bipush (v := 13) hx hb d_In_keepsItsTurn_13 (by decide) ?_
    refine lv_icmp_gt (tgt := 22) hx hb d_In_keepsItsTurn_15 (by decide) (fun c15 => ?_) (fun c15 => ?_)
    · refine lv_iconst (v := 0) hx hb d_In_keepsItsTurn_22 (by decide) ?_
      exact end_z (u := σ) hx hb hr hlocks hS hP d_In_keepsItsTurn_23 rfl (⟨by first | (simp [trnQ, b2i, c6, c15]; done) | (simp [trnQ, b2i] <;> simp_all), rfl⟩)
    · refine lv_iconst (v := 1) hx hb d_In_keepsItsTurn_18 (by decide) ?_
      refine lv_goto (tgt := 23) hx hb d_In_keepsItsTurn_19 (by decide) ?_
      exact end_z (u := σ) hx hb hr hlocks hS hP d_In_keepsItsTurn_23 rfl (⟨by first | (simp [trnQ, b2i, c6, c15]; done) | (simp [trnQ, b2i] <;> simp_all), rfl⟩)

set_option maxHeartbeats 4000000 in
set_option maxRecDepth 100000 in
theorem K_In_readsWhatIsWrittenBy {l : Launch} {G : GT} (g : GOK l G) (σ : CS) {i : Nat} (hi : i < 24) {j : Nat} (hj : j < 24) : cx_M l y_In_readsWhatIsWrittenBy (.code y_In_readsWhatIsWrittenBy b_In_readsWhatIsWrittenBy 3 (some .boolean)) 0 0 (gA G) [.ref (gia G i), .ref (gia G j)] (Cw G σ) (Ri G (fun r u => r = b2i (rwQ (cQ σ i) (cQ σ j)) ∧ u = σ)) (Tn) := by
  refine cx_of (by decide +kernel) ?_
  intro p e s m below meth c s₁ B hml ht hc
  have hx := B.exec
  have hb := B.bytes
  have hr := B.returns
  have hown : s.vm.findClass R_In = some m.cls := findClass_of_methodNamed B.named
  have hlocks := B.notSynchronized
  have hT := g.tb hc
  have hK := g.k hc
  have hD := g.d (σ := σ)
  have hS : va_S (gA G) s.heap s.heap [] := va_S.rf
  have hP := hc.2.2
  have hl := lv_entry ([.ref (gia G i), .ref (gia G j)]) (n := 3) (Nat.le_of_ble_eq_true rfl)
  rw [lg_entry_eq]
  generalize (lg_sl ([.ref (gia G i), .ref (gia G j)]) ++ List.replicate (3 - (lg_sl ([.ref (gia G i), .ref (gia G j)])).length) Slot.unset).toArray = ls at hl ⊢
  have hl : lv_has ls 3 [(0, .ref (gia G i)), (1, .ref (gia G j))] := hl
  refine lv_aload_n hx hb d_In_readsWhatIsWrittenBy_0 rfl (lv_at hl 1 rfl) ?_
  refine va_get (D := gD G) (ci := 3) (v := .int (cQ σ j 5)) (C := R_In) (T := F_In) (N := 8) hx hb (wl_In hT) (fun _ h9 => h9) hown hK hP (19 + j) (cw_in hj) rfl 5 (by decide) (k_156 hT) (fun _ h9 => h9) rfl d_In_readsWhatIsWrittenBy_1 ?_
  refine lv_istore_n (lv' := [(2, .int (cQ σ j 5)), (0, .ref (gia G i)), (1, .ref (gia G j))]) hx hb d_In_readsWhatIsWrittenBy_4 rfl hl (by decide) rfl (fun ls hl => ?_)
  refine lv_iload_n hx hb d_In_readsWhatIsWrittenBy_5 rfl (lv_at hl 0 rfl) ?_
  refine lv_iconst (v := (-1)) hx hb d_In_readsWhatIsWrittenBy_6 (by decide) ?_
  refine lv_icmp_eq (tgt := 30) hx hb d_In_readsWhatIsWrittenBy_7 (by decide) (fun c7 => ?_) (fun c7 => ?_)
  · refine lv_iconst (v := 0) hx hb d_In_readsWhatIsWrittenBy_30 (by decide) ?_
    exact end_z (u := σ) hx hb hr hlocks hS hP d_In_readsWhatIsWrittenBy_31 rfl (⟨by first | (simp [rwQ, b2i, c7]; done) | (simp [rwQ, b2i] <;> simp_all), rfl⟩)
  · refine lv_aload_n hx hb d_In_readsWhatIsWrittenBy_10 rfl (lv_at hl 1 rfl) ?_
    refine va_get (D := gD G) (ci := 3) (v := .int (cQ σ i 6)) (C := R_In) (T := F_In) (N := 8) hx hb (wl_In hT) (fun _ h9 => h9) hown hK hP (19 + i) (cw_in hi) rfl 6 (by decide) (k_158 hT) (fun _ h9 => h9) rfl d_In_readsWhatIsWrittenBy_11 ?_
    refine lv_iload_n hx hb d_In_readsWhatIsWrittenBy_14 rfl (lv_at hl 0 rfl) ?_
    refine lv_icmp_eq (tgt := 26) hx hb d_In_readsWhatIsWrittenBy_15 (by decide) (fun c15 => ?_) (fun c15 => ?_)
    · refine lv_iconst (v := 1) hx hb d_In_readsWhatIsWrittenBy_26 (by decide) ?_
      refine lv_goto (tgt := 31) hx hb d_In_readsWhatIsWrittenBy_27 (by decide) ?_
      exact end_z (u := σ) hx hb hr hlocks hS hP d_In_readsWhatIsWrittenBy_31 rfl (⟨by first | (simp [rwQ, b2i, c7, c15]; done) | (simp [rwQ, b2i] <;> simp_all), rfl⟩)
    · refine lv_aload_n hx hb d_In_readsWhatIsWrittenBy_18 rfl (lv_at hl 1 rfl) ?_
      refine va_get (D := gD G) (ci := 3) (v := .int (cQ σ i 7)) (C := R_In) (T := F_In) (N := 8) hx hb (wl_In hT) (fun _ h9 => h9) hown hK hP (19 + i) (cw_in hi) rfl 7 (by decide) (k_160 hT) (fun _ h9 => h9) rfl d_In_readsWhatIsWrittenBy_19 ?_
      refine lv_iload_n hx hb d_In_readsWhatIsWrittenBy_22 rfl (lv_at hl 0 rfl) ?_
      refine lv_icmp_ne (tgt := 30) hx hb d_In_readsWhatIsWrittenBy_23 (by decide) (fun c23 => ?_) (fun c23 => ?_)
      · refine lv_iconst (v := 0) hx hb d_In_readsWhatIsWrittenBy_30 (by decide) ?_
        exact end_z (u := σ) hx hb hr hlocks hS hP d_In_readsWhatIsWrittenBy_31 rfl (⟨by first | (simp [rwQ, b2i, c7, c15, c23]; done) | (simp [rwQ, b2i] <;> simp_all), rfl⟩)
      · refine lv_iconst (v := 1) hx hb d_In_readsWhatIsWrittenBy_26 (by decide) ?_
        refine lv_goto (tgt := 31) hx hb d_In_readsWhatIsWrittenBy_27 (by decide) ?_
        exact end_z (u := σ) hx hb hr hlocks hS hP d_In_readsWhatIsWrittenBy_31 rfl (⟨by first | (simp [rwQ, b2i, c7, c15, c23]; done) | (simp [rwQ, b2i] <;> simp_all), rfl⟩)

set_option maxHeartbeats 4000000 in
set_option maxRecDepth 100000 in
theorem K_In_mustStayBehind {l : Launch} {G : GT} (g : GOK l G) (σ : CS) {i : Nat} (hi : i < 24) {j : Nat} (hj : j < 24) : cx_M l y_In_mustStayBehind (.code y_In_mustStayBehind b_In_mustStayBehind 3 (some .boolean)) 1 22 (gA G) [.ref (gia G i), .ref (gia G j)] (Cw G σ) (Ri G (fun r u => r = b2i (msbQ (cQ σ i) (cQ σ j)) ∧ u = σ)) (Tn) := by
  refine cx_of (by decide +kernel) ?_
  intro p e s m below meth c s₁ B hml ht hc
  have hx := B.exec
  have hb := B.bytes
  have hr := B.returns
  have hown : s.vm.findClass R_In = some m.cls := findClass_of_methodNamed B.named
  have hlocks := B.notSynchronized
  have hT := g.tb hc
  have hK := g.k hc
  have hD := g.d (σ := σ)
  have hS : va_S (gA G) s.heap s.heap [] := va_S.rf
  have hP := hc.2.2
  have hl := lv_entry ([.ref (gia G i), .ref (gia G j)]) (n := 3) (Nat.le_of_ble_eq_true rfl)
  rw [lg_entry_eq]
  generalize (lg_sl ([.ref (gia G i), .ref (gia G j)]) ++ List.replicate (3 - (lg_sl ([.ref (gia G i), .ref (gia G j)])).length) Slot.unset).toArray = ls at hl ⊢
  have hl : lv_has ls 3 [(0, .ref (gia G i)), (1, .ref (gia G j))] := hl
  refine lv_aload_n hx hb d_In_mustStayBehind_0 rfl (lv_at hl 0 rfl) ?_
  refine va_get (D := gD G) (ci := 3) (v := .int (cQ σ i 5)) (C := R_In) (T := F_In) (N := 8) hx hb (wl_In hT) (fun _ h9 => h9) hown hK hP (19 + i) (cw_in hi) rfl 5 (by decide) (k_156 hT) (fun _ h9 => h9) rfl d_In_mustStayBehind_1 ?_
  refine lv_iconst (v := (-1)) hx hb d_In_mustStayBehind_4 (by decide) ?_
  refine lv_icmp_eq (tgt := 23) hx hb d_In_mustStayBehind_5 (by decide) (fun c5 => ?_) (fun c5 => ?_)
  · refine lv_iconst (v := 0) hx hb d_In_mustStayBehind_23 (by decide) ?_
    refine lv_istore_n (lv' := [(2, .int 0), (0, .ref (gia G i)), (1, .ref (gia G j))]) hx hb d_In_mustStayBehind_24 rfl hl (by decide) rfl (fun ls hl => ?_)
    refine lv_iload_n hx hb d_In_mustStayBehind_25 rfl (lv_at hl 0 rfl) ?_
    refine lv_if_ne (tgt := 59) hx hb d_In_mustStayBehind_26 (by decide) (fun c26 => ?_) (fun c26 => ?_)
    · exact absurd rfl c26
    · refine lv_aload_n hx hb d_In_mustStayBehind_29 rfl (lv_at hl 1 rfl) ?_
      refine lv_aload_n hx hb d_In_mustStayBehind_30 rfl (lv_at hl 2 rfl) ?_
      refine cx_V (n := 1) (C := R_In) (As := [.ref (gia G j)]) (rest := []) ⟨hx, hb, hml, hown, fun _ h9 => nomatch h9⟩ (K_In_readsWhatIsWrittenBy g σ hi hj) (k_260 hT) (k_261 hT) (k_262 hT) (k_263 hT) (k_8 hT) rfl (by decide +kernel) (va_recv hK hP (ci := 3) (q0 := 19 + i) rfl (cw_in hi)) (hc.at g hS hP) ⟨by decide, by decide⟩ ⟨by decide, by decide⟩ hl.1 (Nat.le_of_ble_eq_true rfl) d_In_mustStayBehind_31 (fun _ h9 => h9) hS (fun _ _ _ _ _ _ _ h9 => h9.elim) (fun v t H locs ht9 hRt hz hk hS => ?_)
      obtain ⟨r, u, rfl, ⟨er, eu⟩, hP⟩ := hRt
      subst er
      rw [eu, ht9] at hP
      have hD : va_D (gA G) (cw G σ) := g.d
      refine W.eq (g2 := F0 m 34 ls [.int (b2i (rwQ (cQ σ i) (cQ σ j)))]) rfl ?_
      refine lv_if_ne (tgt := 59) hx hb d_In_mustStayBehind_34 (by decide) (fun c34 => ?_) (fun c34 => ?_)
      · have c34 := b2i1 c34
        refine lv_iconst (v := 1) hx hb d_In_mustStayBehind_59 (by decide) ?_
        refine lv_goto (tgt := 64) hx hb d_In_mustStayBehind_60 (by decide) ?_
        exact end_z (u := σ) hx hb hr hlocks hS hP d_In_mustStayBehind_64 rfl (⟨by first | (simp [msbQ, bwQ, b2i, c5, c34]; done) | (simp [msbQ, bwQ, b2i] <;> simp_all), rfl⟩)
      · have c34 := b2i0 c34
        refine lv_aload_n hx hb d_In_mustStayBehind_37 rfl (lv_at hl 2 rfl) ?_
        refine lv_aload_n hx hb d_In_mustStayBehind_38 rfl (lv_at hl 1 rfl) ?_
        refine cx_V (n := 1) (C := R_In) (As := [.ref (gia G i)]) (rest := []) ⟨hx, hb, hml, hown, fun _ h9 => nomatch h9⟩ (K_In_readsWhatIsWrittenBy g σ hj hi) (k_260 hT) (k_261 hT) (k_262 hT) (k_263 hT) (k_8 hT) rfl (by decide +kernel) (va_recv hK hP (ci := 3) (q0 := 19 + j) rfl (cw_in hj)) (hc.at g hS hP) ⟨by decide, by decide⟩ ⟨by decide, by decide⟩ hl.1 (Nat.le_of_ble_eq_true rfl) d_In_mustStayBehind_39 (fun _ h9 => h9) hS (fun _ _ _ _ _ _ _ h9 => h9.elim) (fun v t H locs ht9 hRt hz hk hS => ?_)
        obtain ⟨r, u, rfl, ⟨er, eu⟩, hP⟩ := hRt
        subst er
        rw [eu, ht9] at hP
        have hD : va_D (gA G) (cw G σ) := g.d
        refine W.eq (g2 := F0 m 42 ls [.int (b2i (rwQ (cQ σ j) (cQ σ i)))]) rfl ?_
        refine lv_if_ne (tgt := 59) hx hb d_In_mustStayBehind_42 (by decide) (fun c42 => ?_) (fun c42 => ?_)
        · have c42 := b2i1 c42
          refine lv_iconst (v := 1) hx hb d_In_mustStayBehind_59 (by decide) ?_
          refine lv_goto (tgt := 64) hx hb d_In_mustStayBehind_60 (by decide) ?_
          exact end_z (u := σ) hx hb hr hlocks hS hP d_In_mustStayBehind_64 rfl (⟨by first | (simp [msbQ, bwQ, b2i, c5, c34, c42]; done) | (simp [msbQ, bwQ, b2i] <;> simp_all), rfl⟩)
        · have c42 := b2i0 c42
          refine lv_aload_n hx hb d_In_mustStayBehind_45 rfl (lv_at hl 1 rfl) ?_
          refine cx_V (n := 0) (C := R_In) (As := []) (rest := []) ⟨hx, hb, hml, hown, fun _ h9 => nomatch h9⟩ (K_In_keepsItsTurn g σ hi) (k_264 hT) (k_266 hT) (ks_4 hT) (k_267 hT) (k_8 hT) rfl (by decide +kernel) (va_recv hK hP (ci := 3) (q0 := 19 + i) rfl (cw_in hi)) (hc.at g hS hP) ⟨by decide, by decide⟩ ⟨by decide, by decide⟩ hl.1 (Nat.le_of_ble_eq_true rfl) d_In_mustStayBehind_46 (fun _ h9 => h9) hS (fun _ _ _ _ _ _ _ h9 => h9.elim) (fun v t H locs ht9 hRt hz hk hS => ?_)
          obtain ⟨r, u, rfl, ⟨er, eu⟩, hP⟩ := hRt
          subst er
          rw [eu, ht9] at hP
          have hD : va_D (gA G) (cw G σ) := g.d
          refine W.eq (g2 := F0 m 49 ls [.int (b2i (trnQ (cQ σ i)))]) rfl ?_
          refine lv_if_eq (tgt := 63) hx hb d_In_mustStayBehind_49 (by decide) (fun c49 => ?_) (fun c49 => ?_)
          · have c49 := b2i0 c49
            refine lv_iconst (v := 0) hx hb d_In_mustStayBehind_63 (by decide) ?_
            exact end_z (u := σ) hx hb hr hlocks hS hP d_In_mustStayBehind_64 rfl (⟨by first | (simp [msbQ, bwQ, b2i, c5, c34, c42, c49]; done) | (simp [msbQ, bwQ, b2i] <;> simp_all), rfl⟩)
          · have c49 := b2i1 c49
            refine lv_aload_n hx hb d_In_mustStayBehind_52 rfl (lv_at hl 2 rfl) ?_
            refine cx_V (n := 0) (C := R_In) (As := []) (rest := []) ⟨hx, hb, hml, hown, fun _ h9 => nomatch h9⟩ (K_In_keepsItsTurn g σ hj) (k_264 hT) (k_266 hT) (ks_4 hT) (k_267 hT) (k_8 hT) rfl (by decide +kernel) (va_recv hK hP (ci := 3) (q0 := 19 + j) rfl (cw_in hj)) (hc.at g hS hP) ⟨by decide, by decide⟩ ⟨by decide, by decide⟩ hl.1 (Nat.le_of_ble_eq_true rfl) d_In_mustStayBehind_53 (fun _ h9 => h9) hS (fun _ _ _ _ _ _ _ h9 => h9.elim) (fun v t H locs ht9 hRt hz hk hS => ?_)
            obtain ⟨r, u, rfl, ⟨er, eu⟩, hP⟩ := hRt
            subst er
            rw [eu, ht9] at hP
            have hD : va_D (gA G) (cw G σ) := g.d
            refine W.eq (g2 := F0 m 56 ls [.int (b2i (trnQ (cQ σ j)))]) rfl ?_
            refine lv_if_eq (tgt := 63) hx hb d_In_mustStayBehind_56 (by decide) (fun c56 => ?_) (fun c56 => ?_)
            · have c56 := b2i0 c56
              refine lv_iconst (v := 0) hx hb d_In_mustStayBehind_63 (by decide) ?_
              exact end_z (u := σ) hx hb hr hlocks hS hP d_In_mustStayBehind_64 rfl (⟨by first | (simp [msbQ, bwQ, b2i, c5, c34, c42, c49, c56]; done) | (simp [msbQ, bwQ, b2i] <;> simp_all), rfl⟩)
            · have c56 := b2i1 c56
              refine lv_iconst (v := 1) hx hb d_In_mustStayBehind_59 (by decide) ?_
              refine lv_goto (tgt := 64) hx hb d_In_mustStayBehind_60 (by decide) ?_
              exact end_z (u := σ) hx hb hr hlocks hS hP d_In_mustStayBehind_64 rfl (⟨by first | (simp [msbQ, bwQ, b2i, c5, c34, c42, c49, c56]; done) | (simp [msbQ, bwQ, b2i] <;> simp_all), rfl⟩)
  · refine lv_aload_n hx hb d_In_mustStayBehind_8 rfl (lv_at hl 0 rfl) ?_
    refine va_get (D := gD G) (ci := 3) (v := .int (cQ σ i 5)) (C := R_In) (T := F_In) (N := 8) hx hb (wl_In hT) (fun _ h9 => h9) hown hK hP (19 + i) (cw_in hi) rfl 5 (by decide) (k_156 hT) (fun _ h9 => h9) rfl d_In_mustStayBehind_9 ?_
    refine lv_aload_n hx hb d_In_mustStayBehind_12 rfl (lv_at hl 1 rfl) ?_
    refine va_get (D := gD G) (ci := 3) (v := .int (cQ σ j 5)) (C := R_In) (T := F_In) (N := 8) hx hb (wl_In hT) (fun _ h9 => h9) hown hK hP (19 + j) (cw_in hj) rfl 5 (by decide) (k_156 hT) (fun _ h9 => h9) rfl d_In_mustStayBehind_13 ?_
    refine lv_icmp_ne (tgt := 23) hx hb d_In_mustStayBehind_16 (by decide) (fun c16 => ?_) (fun c16 => ?_)
    · refine lv_iconst (v := 0) hx hb d_In_mustStayBehind_23 (by decide) ?_
      refine lv_istore_n (lv' := [(2, .int 0), (0, .ref (gia G i)), (1, .ref (gia G j))]) hx hb d_In_mustStayBehind_24 rfl hl (by decide) rfl (fun ls hl => ?_)
      refine lv_iload_n hx hb d_In_mustStayBehind_25 rfl (lv_at hl 0 rfl) ?_
      refine lv_if_ne (tgt := 59) hx hb d_In_mustStayBehind_26 (by decide) (fun c26 => ?_) (fun c26 => ?_)
      · exact absurd rfl c26
      · refine lv_aload_n hx hb d_In_mustStayBehind_29 rfl (lv_at hl 1 rfl) ?_
        refine lv_aload_n hx hb d_In_mustStayBehind_30 rfl (lv_at hl 2 rfl) ?_
        refine cx_V (n := 1) (C := R_In) (As := [.ref (gia G j)]) (rest := []) ⟨hx, hb, hml, hown, fun _ h9 => nomatch h9⟩ (K_In_readsWhatIsWrittenBy g σ hi hj) (k_260 hT) (k_261 hT) (k_262 hT) (k_263 hT) (k_8 hT) rfl (by decide +kernel) (va_recv hK hP (ci := 3) (q0 := 19 + i) rfl (cw_in hi)) (hc.at g hS hP) ⟨by decide, by decide⟩ ⟨by decide, by decide⟩ hl.1 (Nat.le_of_ble_eq_true rfl) d_In_mustStayBehind_31 (fun _ h9 => h9) hS (fun _ _ _ _ _ _ _ h9 => h9.elim) (fun v t H locs ht9 hRt hz hk hS => ?_)
        obtain ⟨r, u, rfl, ⟨er, eu⟩, hP⟩ := hRt
        subst er
        rw [eu, ht9] at hP
        have hD : va_D (gA G) (cw G σ) := g.d
        refine W.eq (g2 := F0 m 34 ls [.int (b2i (rwQ (cQ σ i) (cQ σ j)))]) rfl ?_
        refine lv_if_ne (tgt := 59) hx hb d_In_mustStayBehind_34 (by decide) (fun c34 => ?_) (fun c34 => ?_)
        · have c34 := b2i1 c34
          refine lv_iconst (v := 1) hx hb d_In_mustStayBehind_59 (by decide) ?_
          refine lv_goto (tgt := 64) hx hb d_In_mustStayBehind_60 (by decide) ?_
          exact end_z (u := σ) hx hb hr hlocks hS hP d_In_mustStayBehind_64 rfl (⟨by first | (simp [msbQ, bwQ, b2i, c5, c16, c34]; done) | (simp [msbQ, bwQ, b2i] <;> simp_all), rfl⟩)
        · have c34 := b2i0 c34
          refine lv_aload_n hx hb d_In_mustStayBehind_37 rfl (lv_at hl 2 rfl) ?_
          refine lv_aload_n hx hb d_In_mustStayBehind_38 rfl (lv_at hl 1 rfl) ?_
          refine cx_V (n := 1) (C := R_In) (As := [.ref (gia G i)]) (rest := []) ⟨hx, hb, hml, hown, fun _ h9 => nomatch h9⟩ (K_In_readsWhatIsWrittenBy g σ hj hi) (k_260 hT) (k_261 hT) (k_262 hT) (k_263 hT) (k_8 hT) rfl (by decide +kernel) (va_recv hK hP (ci := 3) (q0 := 19 + j) rfl (cw_in hj)) (hc.at g hS hP) ⟨by decide, by decide⟩ ⟨by decide, by decide⟩ hl.1 (Nat.le_of_ble_eq_true rfl) d_In_mustStayBehind_39 (fun _ h9 => h9) hS (fun _ _ _ _ _ _ _ h9 => h9.elim) (fun v t H locs ht9 hRt hz hk hS => ?_)
          obtain ⟨r, u, rfl, ⟨er, eu⟩, hP⟩ := hRt
          subst er
          rw [eu, ht9] at hP
          have hD : va_D (gA G) (cw G σ) := g.d
          refine W.eq (g2 := F0 m 42 ls [.int (b2i (rwQ (cQ σ j) (cQ σ i)))]) rfl ?_
          refine lv_if_ne (tgt := 59) hx hb d_In_mustStayBehind_42 (by decide) (fun c42 => ?_) (fun c42 => ?_)
          · have c42 := b2i1 c42
            refine lv_iconst (v := 1) hx hb d_In_mustStayBehind_59 (by decide) ?_
            refine lv_goto (tgt := 64) hx hb d_In_mustStayBehind_60 (by decide) ?_
            exact end_z (u := σ) hx hb hr hlocks hS hP d_In_mustStayBehind_64 rfl (⟨by first | (simp [msbQ, bwQ, b2i, c5, c16, c34, c42]; done) | (simp [msbQ, bwQ, b2i] <;> simp_all), rfl⟩)
          · have c42 := b2i0 c42
            refine lv_aload_n hx hb d_In_mustStayBehind_45 rfl (lv_at hl 1 rfl) ?_
            refine cx_V (n := 0) (C := R_In) (As := []) (rest := []) ⟨hx, hb, hml, hown, fun _ h9 => nomatch h9⟩ (K_In_keepsItsTurn g σ hi) (k_264 hT) (k_266 hT) (ks_4 hT) (k_267 hT) (k_8 hT) rfl (by decide +kernel) (va_recv hK hP (ci := 3) (q0 := 19 + i) rfl (cw_in hi)) (hc.at g hS hP) ⟨by decide, by decide⟩ ⟨by decide, by decide⟩ hl.1 (Nat.le_of_ble_eq_true rfl) d_In_mustStayBehind_46 (fun _ h9 => h9) hS (fun _ _ _ _ _ _ _ h9 => h9.elim) (fun v t H locs ht9 hRt hz hk hS => ?_)
            obtain ⟨r, u, rfl, ⟨er, eu⟩, hP⟩ := hRt
            subst er
            rw [eu, ht9] at hP
            have hD : va_D (gA G) (cw G σ) := g.d
            refine W.eq (g2 := F0 m 49 ls [.int (b2i (trnQ (cQ σ i)))]) rfl ?_
            refine lv_if_eq (tgt := 63) hx hb d_In_mustStayBehind_49 (by decide) (fun c49 => ?_) (fun c49 => ?_)
            · have c49 := b2i0 c49
              refine lv_iconst (v := 0) hx hb d_In_mustStayBehind_63 (by decide) ?_
              exact end_z (u := σ) hx hb hr hlocks hS hP d_In_mustStayBehind_64 rfl (⟨by first | (simp [msbQ, bwQ, b2i, c5, c16, c34, c42, c49]; done) | (simp [msbQ, bwQ, b2i] <;> simp_all), rfl⟩)
            · have c49 := b2i1 c49
              refine lv_aload_n hx hb d_In_mustStayBehind_52 rfl (lv_at hl 2 rfl) ?_
              refine cx_V (n := 0) (C := R_In) (As := []) (rest := []) ⟨hx, hb, hml, hown, fun _ h9 => nomatch h9⟩ (K_In_keepsItsTurn g σ hj) (k_264 hT) (k_266 hT) (ks_4 hT) (k_267 hT) (k_8 hT) rfl (by decide +kernel) (va_recv hK hP (ci := 3) (q0 := 19 + j) rfl (cw_in hj)) (hc.at g hS hP) ⟨by decide, by decide⟩ ⟨by decide, by decide⟩ hl.1 (Nat.le_of_ble_eq_true rfl) d_In_mustStayBehind_53 (fun _ h9 => h9) hS (fun _ _ _ _ _ _ _ h9 => h9.elim) (fun v t H locs ht9 hRt hz hk hS => ?_)
              obtain ⟨r, u, rfl, ⟨er, eu⟩, hP⟩ := hRt
              subst er
              rw [eu, ht9] at hP
              have hD : va_D (gA G) (cw G σ) := g.d
              refine W.eq (g2 := F0 m 56 ls [.int (b2i (trnQ (cQ σ j)))]) rfl ?_
              refine lv_if_eq (tgt := 63) hx hb d_In_mustStayBehind_56 (by decide) (fun c56 => ?_) (fun c56 => ?_)
              · have c56 := b2i0 c56
                refine lv_iconst (v := 0) hx hb d_In_mustStayBehind_63 (by decide) ?_
                exact end_z (u := σ) hx hb hr hlocks hS hP d_In_mustStayBehind_64 rfl (⟨by first | (simp [msbQ, bwQ, b2i, c5, c16, c34, c42, c49, c56]; done) | (simp [msbQ, bwQ, b2i] <;> simp_all), rfl⟩)
              · have c56 := b2i1 c56
                refine lv_iconst (v := 1) hx hb d_In_mustStayBehind_59 (by decide) ?_
                refine lv_goto (tgt := 64) hx hb d_In_mustStayBehind_60 (by decide) ?_
                exact end_z (u := σ) hx hb hr hlocks hS hP d_In_mustStayBehind_64 rfl (⟨by first | (simp [msbQ, bwQ, b2i, c5, c16, c34, c42, c49, c56]; done) | (simp [msbQ, bwQ, b2i] <;> simp_all), rfl⟩)
    · refine lv_iconst (v := 1) hx hb d_In_mustStayBehind_19 (by decide) ?_
      refine lv_goto (tgt := 24) hx hb d_In_mustStayBehind_20 (by decide) ?_
      refine lv_istore_n (lv' := [(2, .int 1), (0, .ref (gia G i)), (1, .ref (gia G j))]) hx hb d_In_mustStayBehind_24 rfl hl (by decide) rfl (fun ls hl => ?_)
      refine lv_iload_n hx hb d_In_mustStayBehind_25 rfl (lv_at hl 0 rfl) ?_
      refine lv_if_ne (tgt := 59) hx hb d_In_mustStayBehind_26 (by decide) (fun c26 => ?_) (fun c26 => ?_)
      · refine lv_iconst (v := 1) hx hb d_In_mustStayBehind_59 (by decide) ?_
        refine lv_goto (tgt := 64) hx hb d_In_mustStayBehind_60 (by decide) ?_
        exact end_z (u := σ) hx hb hr hlocks hS hP d_In_mustStayBehind_64 rfl (⟨by first | (simp [msbQ, bwQ, b2i, c5, c16]; done) | (simp [msbQ, bwQ, b2i] <;> simp_all), rfl⟩)
      · exact absurd c26 (by decide)

set_option maxHeartbeats 4000000 in
set_option maxRecDepth 100000 in
theorem K_In_register {l : Launch} {G : GT} (g : GOK l G) (σ : CS) (k n : Int32) : cx_M l y_In_register (.code y_In_register b_In_register 2 (some .int)) 0 0 (gA G) [.int k, .int n] (Cw G σ) (Ri G (fun r u => r = regF k n ∧ u = σ)) (Tn) := by
  refine cx_of (by decide +kernel) ?_
  intro p e s m below meth c s₁ B hml ht hc
  have hx := B.exec
  have hb := B.bytes
  have hr := B.returns
  have hown : s.vm.findClass R_In = some m.cls := findClass_of_methodNamed B.named
  have hlocks := B.notSynchronized
  have hT := g.tb hc
  have hK := g.k hc
  have hD := g.d (σ := σ)
  have hS : va_S (gA G) s.heap s.heap [] := va_S.rf
  have hP := hc.2.2
  have hl := lv_entry ([.int k, .int n]) (n := 2) (Nat.le_of_ble_eq_true rfl)
  rw [lg_entry_eq]
  generalize (lg_sl ([.int k, .int n]) ++ List.replicate (2 - (lg_sl ([.int k, .int n])).length) Slot.unset).toArray = ls at hl ⊢
  have hl : lv_has ls 2 [(0, .int k), (1, .int n)] := hl
  refine lv_iload_n hx hb d_In_register_0 rfl (lv_at hl 0 rfl) ?_
  refine lv_iconst (v := 2) hx hb d_In_register_1 (by decide) ?_
  refine lv_icmp_ne (tgt := 12) hx hb d_In_register_2 (by decide) (fun c2 => ?_) (fun c2 => ?_)
  · refine lv_iload_n hx hb d_In_register_12 rfl (lv_at hl 0 rfl) ?_
    refine lv_iconst (v := 1) hx hb d_In_register_13 (by decide) ?_
    refine lv_icmp_ne (tgt := 25) hx hb d_In_register_14 (by decide) (fun c14 => ?_) (fun c14 => ?_)
    · refine lv_iconst (v := (-1)) hx hb d_In_register_25 (by decide) ?_
      exact end_i (u := σ) hx hb hr hlocks hS hP d_In_register_26 (⟨by first | (simp [regF, c2, c14]; done) | (simp [regF] <;> simp_all), rfl⟩)
    · refine lv_iload_n hx hb d_In_register_17 rfl (lv_at hl 1 rfl) ?_
      refine lv_if_eq (tgt := 25) hx hb d_In_register_18 (by decide) (fun c18 => ?_) (fun c18 => ?_)
      · refine lv_iconst (v := (-1)) hx hb d_In_register_25 (by decide) ?_
        exact end_i (u := σ) hx hb hr hlocks hS hP d_In_register_26 (⟨by first | (simp [regF, c2, c14, c18]; done) | (simp [regF] <;> simp_all), rfl⟩)
      · refine lv_iload_n hx hb d_In_register_21 rfl (lv_at hl 1 rfl) ?_
        refine lv_goto (tgt := 26) hx hb d_In_register_22 (by decide) ?_
        exact end_i (u := σ) hx hb hr hlocks hS hP d_In_register_26 (⟨by first | (simp [regF, c2, c14, c18]; done) | (simp [regF] <;> simp_all), rfl⟩)
  · refine lv_bipush (v := 8) hx hb d_In_register_5 (by decide) ?_
    refine lv_iload_n hx hb d_In_register_7 rfl (lv_at hl 1 rfl) ?_
    refine lv_iconst (v := 4) hx hb d_In_register_8 (by decide) ?_
    refine lv_irem hx hb d_In_register_9 (by decide) ?_
    refine lv_iadd hx hb d_In_register_10 ?_
    exact end_i (u := σ) hx hb hr hlocks hS hP d_In_register_11 (⟨by first | (simp [regF, c2]; done) | (simp [regF] <;> simp_all), rfl⟩)

set_option maxHeartbeats 4000000 in
set_option maxRecDepth 100000 in
theorem K_Ma_floorMod {l : Launch} {G : GT} (g : GOK l G) (σ : CS) (x y : Int32) (hy : ¬ y = 0) : cx_M l y_Ma_floorMod (.code y_Ma_floorMod b_Ma_floorMod 3 (some .int)) 0 0 (gA G) [.int x, .int y] (Cw G σ) (Ri G (fun r u => r = flm x y ∧ u = σ)) (Tn) := by
  refine cx_of (by decide +kernel) ?_
  intro p e s m below meth c s₁ B hml ht hc
  have hx := B.exec
  have hb := B.bytes
  have hr := B.returns
  have hown : s.vm.findClass R_Ma = some m.cls := findClass_of_methodNamed B.named
  have hlocks := B.notSynchronized
  have hT := g.tb hc
  have hK := g.k hc
  have hD := g.d (σ := σ)
  have hS : va_S (gA G) s.heap s.heap [] := va_S.rf
  have hP := hc.2.2
  have hl := lv_entry ([.int x, .int y]) (n := 3) (Nat.le_of_ble_eq_true rfl)
  rw [lg_entry_eq]
  generalize (lg_sl ([.int x, .int y]) ++ List.replicate (3 - (lg_sl ([.int x, .int y])).length) Slot.unset).toArray = ls at hl ⊢
  have hl : lv_has ls 3 [(0, .int x), (1, .int y)] := hl
  refine lv_iload_n hx hb d_Ma_floorMod_0 rfl (lv_at hl 0 rfl) ?_
  refine lv_iload_n hx hb d_Ma_floorMod_1 rfl (lv_at hl 1 rfl) ?_
  refine lv_irem hx hb d_Ma_floorMod_2 (hy) ?_
  refine lv_istore_n (lv' := [(2, .int (x - x / y * y)), (0, .int x), (1, .int y)]) hx hb d_Ma_floorMod_3 rfl hl (by decide) rfl (fun ls hl => ?_)
  refine lv_iload_n hx hb d_Ma_floorMod_4 rfl (lv_at hl 1 rfl) ?_
  refine lv_iload_n hx hb d_Ma_floorMod_5 rfl (lv_at hl 2 rfl) ?_
  refine lv_ixor hx hb d_Ma_floorMod_6 ?_
  refine lv_if_ge (tgt := 18) hx hb d_Ma_floorMod_7 (by decide) (fun c7 => ?_) (fun c7 => ?_)
  · refine lv_iload_n hx hb d_Ma_floorMod_18 rfl (lv_at hl 0 rfl) ?_
    exact end_i (u := σ) hx hb hr hlocks hS hP d_Ma_floorMod_19 (⟨by first | (simp [flm, c7]; done) | (simp [flm] <;> simp_all), rfl⟩)
  · refine lv_iload_n hx hb d_Ma_floorMod_10 rfl (lv_at hl 0 rfl) ?_
    refine lv_if_eq (tgt := 18) hx hb d_Ma_floorMod_11 (by decide) (fun c11 => ?_) (fun c11 => ?_)
    · refine lv_iload_n hx hb d_Ma_floorMod_18 rfl (lv_at hl 0 rfl) ?_
      exact end_i (u := σ) hx hb hr hlocks hS hP d_Ma_floorMod_19 (⟨by first | (simp [flm, c7, c11]; done) | (simp [flm] <;> simp_all), rfl⟩)
    · refine lv_iload_n hx hb d_Ma_floorMod_14 rfl (lv_at hl 0 rfl) ?_
      refine lv_iload_n hx hb d_Ma_floorMod_15 rfl (lv_at hl 2 rfl) ?_
      refine lv_iadd hx hb d_Ma_floorMod_16 ?_
      exact end_i (u := σ) hx hb hr hlocks hS hP d_Ma_floorMod_17 (⟨by first | (simp [flm, c7, c11]; done) | (simp [flm] <;> simp_all), rfl⟩)

set_option maxHeartbeats 4000000 in
set_option maxRecDepth 100000 in
theorem K_In_target {l : Launch} {G : GT} (g : GOK l G) (σ : CS) {i : Nat} (hi : i < 24) : cx_M l y_In_target (.code y_In_target b_In_target 1 (some .int)) 1 22 (gA G) [.ref (gia G i)] (Cw G σ) (Ri G (fun r u => r = flm (cQ σ i 4) 24 ∧ u = σ)) (Tn) := by
  refine cx_of (by decide +kernel) ?_
  intro p e s m below meth c s₁ B hml ht hc
  have hx := B.exec
  have hb := B.bytes
  have hr := B.returns
  have hown : s.vm.findClass R_In = some m.cls := findClass_of_methodNamed B.named
  have hlocks := B.notSynchronized
  have hT := g.tb hc
  have hK := g.k hc
  have hD := g.d (σ := σ)
  have hS : va_S (gA G) s.heap s.heap [] := va_S.rf
  have hP := hc.2.2
  have hl := lv_entry ([.ref (gia G i)]) (n := 1) (Nat.le_of_ble_eq_true rfl)
  rw [lg_entry_eq]
  generalize (lg_sl ([.ref (gia G i)]) ++ List.replicate (1 - (lg_sl ([.ref (gia G i)])).length) Slot.unset).toArray = ls at hl ⊢
  have hl : lv_has ls 1 [(0, .ref (gia G i))] := hl
  refine lv_aload_n hx hb d_In_target_0 rfl (lv_at hl 0 rfl) ?_
  refine va_get (D := gD G) (ci := 3) (v := .int (cQ σ i 4)) (C := R_In) (T := F_In) (N := 8) hx hb (wl_In hT) (fun _ h9 => h9) hown hK hP (19 + i) (cw_in hi) rfl 4 (by decide) (k_154 hT) (fun _ h9 => h9) rfl d_In_target_1 ?_
  refine lv_bipush (v := 24) hx hb d_In_target_4 (by decide) ?_
  refine cx_S (n := 2) (As := [.int (cQ σ i 4), .int 24]) (rest := []) ⟨hx, hb, hml, hown, fun _ h9 => nomatch h9⟩ (K_Ma_floorMod g σ (cQ σ i 4) 24 (by decide)) (k_241 hT) (k_242 hT) (k_243 hT) (k_16 hT) rfl (by decide +kernel) (hc.at g hS hP) ⟨by decide, by decide⟩ ⟨by decide, by decide⟩ hl.1 (Nat.le_of_ble_eq_true rfl) d_In_target_6 (fun _ h9 => h9) hS (fun _ _ _ _ _ _ _ h9 => h9.elim) (fun v t H locs ht9 hRt hz hk hS => ?_)
  obtain ⟨r, u, rfl, ⟨er, eu⟩, hP⟩ := hRt
  subst er
  rw [eu, ht9] at hP
  have hD : va_D (gA G) (cw G σ) := g.d
  refine W.eq (g2 := F0 m 9 ls [.int (flm (cQ σ i 4) 24)]) rfl ?_
  exact end_i (u := σ) hx hb hr hlocks hS hP d_In_target_9 (⟨rfl, rfl⟩)

set_option maxHeartbeats 4000000 in
set_option maxRecDepth 100000 in
theorem K_In_latency {l : Launch} {G : GT} (g : GOK l G) (σ : CS) {i : Nat} (hi : i < 24) (h0 : vp_in (cQ σ i 0) 20) : cx_M l y_In_latency (.code y_In_latency b_In_latency 1 (some .int)) 0 0 (gA G) [.ref (gia G i)] (Cw G σ) (Ri G (fun r u => r = latT (ix (cQ σ i 0)) ∧ u = σ)) (Tn) := by
  refine cx_of (by decide +kernel) ?_
  intro p e s m below meth c s₁ B hml ht hc
  have hx := B.exec
  have hb := B.bytes
  have hr := B.returns
  have hown : s.vm.findClass R_In = some m.cls := findClass_of_methodNamed B.named
  have hlocks := B.notSynchronized
  have hT := g.tb hc
  have hK := g.k hc
  have hD := g.d (σ := σ)
  have hS : va_S (gA G) s.heap s.heap [] := va_S.rf
  have hP := hc.2.2
  have hl := lv_entry ([.ref (gia G i)]) (n := 1) (Nat.le_of_ble_eq_true rfl)
  rw [lg_entry_eq]
  generalize (lg_sl ([.ref (gia G i)]) ++ List.replicate (1 - (lg_sl ([.ref (gia G i)])).length) Slot.unset).toArray = ls at hl ⊢
  have hl : lv_has ls 1 [(0, .ref (gia G i))] := hl
  have hz0 := GOK.zt hc g.2.2.2.2.2.1
  refine va_getsN (v := .ref (gt G 0)) hx hb hz0.1 hS hown (k_273 hT) (fun _ h9 => h9) d_In_latency_0 ?_
  refine lv_aload_n hx hb d_In_latency_3 rfl (lv_at hl 0 rfl) ?_
  refine va_get (D := gD G) (ci := 3) (v := .int (cQ σ i 0)) (C := R_In) (T := F_In) (N := 8) hx hb (wl_In hT) (fun _ h9 => h9) hown hK hP (19 + i) (cw_in hi) rfl 0 (by decide) (k_145 hT) (fun _ h9 => h9) rfl d_In_latency_4 ?_
  refine va_ti (v := .int (latT (cQ σ i 0).toNatClampNeg)) hx hb hz0.2 hS (h0) rfl d_In_latency_7 ?_
  exact end_i (u := σ) hx hb hr hlocks hS hP d_In_latency_8 (⟨rfl, rfl⟩)

set_option maxHeartbeats 4000000 in
set_option maxRecDepth 100000 in
theorem K_In_become {l : Launch} {G : GT} (g : GOK l G) (σ : CS) {i : Nat} (hi : i < 24) (o d a b n : Int32) (h0 : vp_in o 20) : cx_M l y_In_become (.code y_In_become b_In_become 6 none) 1 21 (gA G) [.ref (gia G i), .int o, .int d, .int a, .int b, .int n] (Cw G σ) (Rv G (fun u => u = sQ σ i (becQ o d a b n))) (Tn) := by
  refine cx_of (by decide +kernel) ?_
  intro p e s m below meth c s₁ B hml ht hc
  have hx := B.exec
  have hb := B.bytes
  have hr := B.returns
  have hown : s.vm.findClass R_In = some m.cls := findClass_of_methodNamed B.named
  have hlocks := B.notSynchronized
  have hT := g.tb hc
  have hK := g.k hc
  have hD := g.d (σ := σ)
  have hS : va_S (gA G) s.heap s.heap [] := va_S.rf
  have hP := hc.2.2
  have hl := lv_entry ([.ref (gia G i), .int o, .int d, .int a, .int b, .int n]) (n := 6) (Nat.le_of_ble_eq_true rfl)
  rw [lg_entry_eq]
  generalize (lg_sl ([.ref (gia G i), .int o, .int d, .int a, .int b, .int n]) ++ List.replicate (6 - (lg_sl ([.ref (gia G i), .int o, .int d, .int a, .int b, .int n])).length) Slot.unset).toArray = ls at hl ⊢
  have hl : lv_has ls 6 [(0, .ref (gia G i)), (1, .int o), (2, .int d), (3, .int a), (4, .int b), (5, .int n)] := hl
  have hz1 := GOK.zt hc g.2.2.2.2.2.2.1
  have hz2 := GOK.zt hc g.2.2.2.2.2.2.2.1
  have hz3 := GOK.zt hc g.2.2.2.2.2.2.2.2.1
  refine lv_aload_n hx hb d_In_become_0 rfl (lv_at hl 0 rfl) ?_
  refine lv_iload_n hx hb d_In_become_1 rfl (lv_at hl 1 rfl) ?_
  refine va_put (D := gD G) (ci := 3) (v := .int o) (ty := .int) (C := R_In) (T := F_In) (N := 8) hx hb (wl_In hT) (fun _ h9 => h9) fy_In fy_In_ok fn_In hown hK hP hD hS (19 + i) (cw_in hi) rfl 0 (by decide) (k_145 hT) (fun _ h9 => h9) rfl (by decide +kernel) rfl rfl (Nat.le_of_ble_eq_true rfl) d_In_become_2 (fun H locs hP hD hS => ?_)
  have hP : va_P (gD G) classes (cw G (sQ σ i (va_up (cQ σ i) 0 o))) H := by rw [← cw_set hi (va_up (cQ σ i) 0 o)]; exact hP
  have hD : va_D (gA G) (cw G (sQ σ i (va_up (cQ σ i) 0 o))) := g.d
  refine lv_aload_n hx hb d_In_become_5 rfl (lv_at hl 0 rfl) ?_
  refine lv_iload_n hx hb d_In_become_6 rfl (lv_at hl 2 rfl) ?_
  refine va_put (D := gD G) (ci := 3) (v := .int d) (ty := .int) (C := R_In) (T := F_In) (N := 8) hx hb (wl_In hT) (fun _ h9 => h9) fy_In fy_In_ok fn_In hown hK hP hD hS (19 + i) (cw_in2 hi) rfl 1 (by decide) (k_148 hT) (fun _ h9 => h9) rfl (by decide +kernel) rfl rfl (Nat.le_of_ble_eq_true rfl) d_In_become_7 (fun H locs hP hD hS => ?_)
  have hP : va_P (gD G) classes (cw G (sQ σ i (va_up (va_up (cQ σ i) 0 o) 1 d))) H := by rw [← cw_set2 hi (va_up (va_up (cQ σ i) 0 o) 1 d)]; exact hP
  have hD : va_D (gA G) (cw G (sQ σ i (va_up (va_up (cQ σ i) 0 o) 1 d))) := g.d
  refine lv_aload_n hx hb d_In_become_10 rfl (lv_at hl 0 rfl) ?_
  refine lv_iload_n hx hb d_In_become_11 rfl (lv_at hl 3 rfl) ?_
  refine va_put (D := gD G) (ci := 3) (v := .int a) (ty := .int) (C := R_In) (T := F_In) (N := 8) hx hb (wl_In hT) (fun _ h9 => h9) fy_In fy_In_ok fn_In hown hK hP hD hS (19 + i) (cw_in2 hi) rfl 2 (by decide) (k_150 hT) (fun _ h9 => h9) rfl (by decide +kernel) rfl rfl (Nat.le_of_ble_eq_true rfl) d_In_become_12 (fun H locs hP hD hS => ?_)
  have hP : va_P (gD G) classes (cw G (sQ σ i (va_up (va_up (va_up (cQ σ i) 0 o) 1 d) 2 a))) H := by rw [← cw_set2 hi (va_up (va_up (va_up (cQ σ i) 0 o) 1 d) 2 a)]; exact hP
  have hD : va_D (gA G) (cw G (sQ σ i (va_up (va_up (va_up (cQ σ i) 0 o) 1 d) 2 a))) := g.d
  refine lv_aload_n hx hb d_In_become_15 rfl (lv_at hl 0 rfl) ?_
  refine lv_iload hx hb d_In_become_16 (lv_at hl 4 rfl) ?_
  refine va_put (D := gD G) (ci := 3) (v := .int b) (ty := .int) (C := R_In) (T := F_In) (N := 8) hx hb (wl_In hT) (fun _ h9 => h9) fy_In fy_In_ok fn_In hown hK hP hD hS (19 + i) (cw_in2 hi) rfl 3 (by decide) (k_152 hT) (fun _ h9 => h9) rfl (by decide +kernel) rfl rfl (Nat.le_of_ble_eq_true rfl) d_In_become_18 (fun H locs hP hD hS => ?_)
  have hP : va_P (gD G) classes (cw G (sQ σ i (va_up (va_up (va_up (va_up (cQ σ i) 0 o) 1 d) 2 a) 3 b))) H := by rw [← cw_set2 hi (va_up (va_up (va_up (va_up (cQ σ i) 0 o) 1 d) 2 a) 3 b)]; exact hP
  have hD : va_D (gA G) (cw G (sQ σ i (va_up (va_up (va_up (va_up (cQ σ i) 0 o) 1 d) 2 a) 3 b))) := g.d
  refine lv_aload_n hx hb d_In_become_21 rfl (lv_at hl 0 rfl) ?_
  refine lv_iload hx hb d_In_become_22 (lv_at hl 5 rfl) ?_
  refine va_put (D := gD G) (ci := 3) (v := .int n) (ty := .int) (C := R_In) (T := F_In) (N := 8) hx hb (wl_In hT) (fun _ h9 => h9) fy_In fy_In_ok fn_In hown hK hP hD hS (19 + i) (cw_in2 hi) rfl 4 (by decide) (k_154 hT) (fun _ h9 => h9) rfl (by decide +kernel) rfl rfl (Nat.le_of_ble_eq_true rfl) d_In_become_24 (fun H locs hP hD hS => ?_)
  have hP : va_P (gD G) classes (cw G (sQ σ i (va_up (va_up (va_up (va_up (va_up (cQ σ i) 0 o) 1 d) 2 a) 3 b) 4 n))) H := by rw [← cw_set2 hi (va_up (va_up (va_up (va_up (va_up (cQ σ i) 0 o) 1 d) 2 a) 3 b) 4 n)]; exact hP
  have hD : va_D (gA G) (cw G (sQ σ i (va_up (va_up (va_up (va_up (va_up (cQ σ i) 0 o) 1 d) 2 a) 3 b) 4 n))) := g.d
  refine lv_aload_n hx hb d_In_become_27 rfl (lv_at hl 0 rfl) ?_
  refine va_getsN (v := .ref (gt G 1)) hx hb hz1.1 hS hown (k_365 hT) (fun _ h9 => h9) d_In_become_28 ?_
  refine lv_aload_n hx hb d_In_become_31 rfl (lv_at hl 0 rfl) ?_
  refine va_get (D := gD G) (ci := 3) (v := .int o) (C := R_In) (T := F_In) (N := 8) hx hb (wl_In hT) (fun _ h9 => h9) hown hK hP (19 + i) (cw_in2 hi) rfl 0 (by decide) (k_145 hT) (fun _ h9 => h9) rfl d_In_become_32 ?_
  refine va_ti (v := .int (wrdT o.toNatClampNeg)) hx hb hz1.2 hS (h0) rfl d_In_become_35 ?_
  refine lv_aload_n hx hb d_In_become_36 rfl (lv_at hl 0 rfl) ?_
  refine va_get (D := gD G) (ci := 3) (v := .int d) (C := R_In) (T := F_In) (N := 8) hx hb (wl_In hT) (fun _ h9 => h9) hown hK hP (19 + i) (cw_in2 hi) rfl 1 (by decide) (k_148 hT) (fun _ h9 => h9) rfl d_In_become_37 ?_
  refine cx_S (n := 2) (As := [.int (wrdT o.toNatClampNeg), .int d]) (rest := [.ref (gia G i)]) ⟨hx, hb, hml, hown, fun _ h9 => nomatch h9⟩ (K_In_register g (sQ σ i (va_up (va_up (va_up (va_up (va_up (cQ σ i) 0 o) 1 d) 2 a) 3 b) 4 n)) (wrdT o.toNatClampNeg) d) (k_367 hT) (k_368 hT) (k_369 hT) (k_8 hT) rfl (by decide +kernel) (hc.at g hS hP) ⟨by decide, by decide⟩ ⟨by decide, by decide⟩ hl.1 (Nat.le_of_ble_eq_true rfl) d_In_become_40 (fun _ h9 => h9) hS (fun _ _ _ _ _ _ _ h9 => h9.elim) (fun v t H locs ht9 hRt hz hk hS => ?_)
  obtain ⟨r, u, rfl, ⟨er, eu⟩, hP⟩ := hRt
  subst er
  rw [eu, ht9] at hP
  have hD : va_D (gA G) (cw G (sQ σ i (va_up (va_up (va_up (va_up (va_up (cQ σ i) 0 o) 1 d) 2 a) 3 b) 4 n))) := g.d
  refine W.eq (g2 := F0 m 43 ls [.int (regF (wrdT o.toNatClampNeg) d), .ref (gia G i)]) rfl ?_
  refine va_put (D := gD G) (ci := 3) (v := .int (regF (wrdT o.toNatClampNeg) d)) (ty := .int) (C := R_In) (T := F_In) (N := 8) hx hb (wl_In hT) (fun _ h9 => h9) fy_In fy_In_ok fn_In hown hK hP hD hS (19 + i) (cw_in2 hi) rfl 5 (by decide) (k_156 hT) (fun _ h9 => h9) rfl (by decide +kernel) rfl rfl (Nat.le_of_ble_eq_true rfl) d_In_become_43 (fun H locs hP hD hS => ?_)
  have hP : va_P (gD G) classes (cw G (sQ σ i (va_up (va_up (va_up (va_up (va_up (va_up (cQ σ i) 0 o) 1 d) 2 a) 3 b) 4 n) 5 (regF (wrdT o.toNatClampNeg) d)))) H := by rw [← cw_set2 hi (va_up (va_up (va_up (va_up (va_up (va_up (cQ σ i) 0 o) 1 d) 2 a) 3 b) 4 n) 5 (regF (wrdT o.toNatClampNeg) d))]; exact hP
  have hD : va_D (gA G) (cw G (sQ σ i (va_up (va_up (va_up (va_up (va_up (va_up (cQ σ i) 0 o) 1 d) 2 a) 3 b) 4 n) 5 (regF (wrdT o.toNatClampNeg) d)))) := g.d
  refine lv_aload_n hx hb d_In_become_46 rfl (lv_at hl 0 rfl) ?_
  refine va_getsN (v := .ref (gt G 2)) hx hb hz2.1 hS hown (k_370 hT) (fun _ h9 => h9) d_In_become_47 ?_
  refine lv_aload_n hx hb d_In_become_50 rfl (lv_at hl 0 rfl) ?_
  refine va_get (D := gD G) (ci := 3) (v := .int o) (C := R_In) (T := F_In) (N := 8) hx hb (wl_In hT) (fun _ h9 => h9) hown hK hP (19 + i) (cw_in2 hi) rfl 0 (by decide) (k_145 hT) (fun _ h9 => h9) rfl d_In_become_51 ?_
  refine va_ti (v := .int (rdaT o.toNatClampNeg)) hx hb hz2.2 hS (h0) rfl d_In_become_54 ?_
  refine lv_aload_n hx hb d_In_become_55 rfl (lv_at hl 0 rfl) ?_
  refine va_get (D := gD G) (ci := 3) (v := .int a) (C := R_In) (T := F_In) (N := 8) hx hb (wl_In hT) (fun _ h9 => h9) hown hK hP (19 + i) (cw_in2 hi) rfl 2 (by decide) (k_150 hT) (fun _ h9 => h9) rfl d_In_become_56 ?_
  refine cx_S (n := 2) (As := [.int (rdaT o.toNatClampNeg), .int a]) (rest := [.ref (gia G i)]) ⟨hx, hb, hml, hown, fun _ h9 => nomatch h9⟩ (K_In_register g (sQ σ i (va_up (va_up (va_up (va_up (va_up (va_up (cQ σ i) 0 o) 1 d) 2 a) 3 b) 4 n) 5 (regF (wrdT o.toNatClampNeg) d))) (rdaT o.toNatClampNeg) a) (k_367 hT) (k_368 hT) (k_369 hT) (k_8 hT) rfl (by decide +kernel) (hc.at g hS hP) ⟨by decide, by decide⟩ ⟨by decide, by decide⟩ hl.1 (Nat.le_of_ble_eq_true rfl) d_In_become_59 (fun _ h9 => h9) hS (fun _ _ _ _ _ _ _ h9 => h9.elim) (fun v t H locs ht9 hRt hz hk hS => ?_)
  obtain ⟨r, u, rfl, ⟨er, eu⟩, hP⟩ := hRt
  subst er
  rw [eu, ht9] at hP
  have hD : va_D (gA G) (cw G (sQ σ i (va_up (va_up (va_up (va_up (va_up (va_up (cQ σ i) 0 o) 1 d) 2 a) 3 b) 4 n) 5 (regF (wrdT o.toNatClampNeg) d)))) := g.d
  refine W.eq (g2 := F0 m 62 ls [.int (regF (rdaT o.toNatClampNeg) a), .ref (gia G i)]) rfl ?_
  refine va_put (D := gD G) (ci := 3) (v := .int (regF (rdaT o.toNatClampNeg) a)) (ty := .int) (C := R_In) (T := F_In) (N := 8) hx hb (wl_In hT) (fun _ h9 => h9) fy_In fy_In_ok fn_In hown hK hP hD hS (19 + i) (cw_in2 hi) rfl 6 (by decide) (k_158 hT) (fun _ h9 => h9) rfl (by decide +kernel) rfl rfl (Nat.le_of_ble_eq_true rfl) d_In_become_62 (fun H locs hP hD hS => ?_)
  have hP : va_P (gD G) classes (cw G (sQ σ i (va_up (va_up (va_up (va_up (va_up (va_up (va_up (cQ σ i) 0 o) 1 d) 2 a) 3 b) 4 n) 5 (regF (wrdT o.toNatClampNeg) d)) 6 (regF (rdaT o.toNatClampNeg) a)))) H := by rw [← cw_set2 hi (va_up (va_up (va_up (va_up (va_up (va_up (va_up (cQ σ i) 0 o) 1 d) 2 a) 3 b) 4 n) 5 (regF (wrdT o.toNatClampNeg) d)) 6 (regF (rdaT o.toNatClampNeg) a))]; exact hP
  have hD : va_D (gA G) (cw G (sQ σ i (va_up (va_up (va_up (va_up (va_up (va_up (va_up (cQ σ i) 0 o) 1 d) 2 a) 3 b) 4 n) 5 (regF (wrdT o.toNatClampNeg) d)) 6 (regF (rdaT o.toNatClampNeg) a)))) := g.d
  refine lv_aload_n hx hb d_In_become_65 rfl (lv_at hl 0 rfl) ?_
  refine va_getsN (v := .ref (gt G 3)) hx hb hz3.1 hS hown (k_372 hT) (fun _ h9 => h9) d_In_become_66 ?_
  refine lv_aload_n hx hb d_In_become_69 rfl (lv_at hl 0 rfl) ?_
  refine va_get (D := gD G) (ci := 3) (v := .int o) (C := R_In) (T := F_In) (N := 8) hx hb (wl_In hT) (fun _ h9 => h9) hown hK hP (19 + i) (cw_in2 hi) rfl 0 (by decide) (k_145 hT) (fun _ h9 => h9) rfl d_In_become_70 ?_
  refine va_ti (v := .int (rdbT o.toNatClampNeg)) hx hb hz3.2 hS (h0) rfl d_In_become_73 ?_
  refine lv_aload_n hx hb d_In_become_74 rfl (lv_at hl 0 rfl) ?_
  refine va_get (D := gD G) (ci := 3) (v := .int b) (C := R_In) (T := F_In) (N := 8) hx hb (wl_In hT) (fun _ h9 => h9) hown hK hP (19 + i) (cw_in2 hi) rfl 3 (by decide) (k_152 hT) (fun _ h9 => h9) rfl d_In_become_75 ?_
  refine cx_S (n := 2) (As := [.int (rdbT o.toNatClampNeg), .int b]) (rest := [.ref (gia G i)]) ⟨hx, hb, hml, hown, fun _ h9 => nomatch h9⟩ (K_In_register g (sQ σ i (va_up (va_up (va_up (va_up (va_up (va_up (va_up (cQ σ i) 0 o) 1 d) 2 a) 3 b) 4 n) 5 (regF (wrdT o.toNatClampNeg) d)) 6 (regF (rdaT o.toNatClampNeg) a))) (rdbT o.toNatClampNeg) b) (k_367 hT) (k_368 hT) (k_369 hT) (k_8 hT) rfl (by decide +kernel) (hc.at g hS hP) ⟨by decide, by decide⟩ ⟨by decide, by decide⟩ hl.1 (Nat.le_of_ble_eq_true rfl) d_In_become_78 (fun _ h9 => h9) hS (fun _ _ _ _ _ _ _ h9 => h9.elim) (fun v t H locs ht9 hRt hz hk hS => ?_)
  obtain ⟨r, u, rfl, ⟨er, eu⟩, hP⟩ := hRt
  subst er
  rw [eu, ht9] at hP
  have hD : va_D (gA G) (cw G (sQ σ i (va_up (va_up (va_up (va_up (va_up (va_up (va_up (cQ σ i) 0 o) 1 d) 2 a) 3 b) 4 n) 5 (regF (wrdT o.toNatClampNeg) d)) 6 (regF (rdaT o.toNatClampNeg) a)))) := g.d
  refine W.eq (g2 := F0 m 81 ls [.int (regF (rdbT o.toNatClampNeg) b), .ref (gia G i)]) rfl ?_
  refine va_put (D := gD G) (ci := 3) (v := .int (regF (rdbT o.toNatClampNeg) b)) (ty := .int) (C := R_In) (T := F_In) (N := 8) hx hb (wl_In hT) (fun _ h9 => h9) fy_In fy_In_ok fn_In hown hK hP hD hS (19 + i) (cw_in2 hi) rfl 7 (by decide) (k_160 hT) (fun _ h9 => h9) rfl (by decide +kernel) rfl rfl (Nat.le_of_ble_eq_true rfl) d_In_become_81 (fun H locs hP hD hS => ?_)
  have hP : va_P (gD G) classes (cw G (sQ σ i (va_up (va_up (va_up (va_up (va_up (va_up (va_up (va_up (cQ σ i) 0 o) 1 d) 2 a) 3 b) 4 n) 5 (regF (wrdT o.toNatClampNeg) d)) 6 (regF (rdaT o.toNatClampNeg) a)) 7 (regF (rdbT o.toNatClampNeg) b)))) H := by rw [← cw_set2 hi (va_up (va_up (va_up (va_up (va_up (va_up (va_up (va_up (cQ σ i) 0 o) 1 d) 2 a) 3 b) 4 n) 5 (regF (wrdT o.toNatClampNeg) d)) 6 (regF (rdaT o.toNatClampNeg) a)) 7 (regF (rdbT o.toNatClampNeg) b))]; exact hP
  have hD : va_D (gA G) (cw G (sQ σ i (va_up (va_up (va_up (va_up (va_up (va_up (va_up (va_up (cQ σ i) 0 o) 1 d) 2 a) 3 b) 4 n) 5 (regF (wrdT o.toNatClampNeg) d)) 6 (regF (rdaT o.toNatClampNeg) a)) 7 (regF (rdbT o.toNatClampNeg) b)))) := g.d
  have hP : va_P (gD G) classes (cw G (sQ σ i (becQ o d a b n))) H := by rw [← cw_set hi]; rw [← cw_set hi] at hP; exact hP
  exact end_v (u := (sQ σ i (becQ o d a b n))) hx hb hr hlocks hS hP d_In_become_84 (rfl)
end
section
/-! CONTRACTS: the caches, the predictor, the clock -/
set_option maxHeartbeats 4000000 in
set_option maxRecDepth 100000 in
theorem K_Cc_misses {l : Launch} {G : GT} (g : GOK l G) (σ : CS) (x : Int32) (h : vp_in (x - x / 2 * 2) 2) : cx_M l y_Cc_misses (.code y_Cc_misses b_Cc_misses 3 (some .boolean)) 0 0 (gA G) [.ref (gad G 7), .int x] (Cw G σ) (Ri G (fun r u => r = b2i (cmF σ x).1 ∧ u = (cmF σ x).2)) (Tn) := by
  refine cx_of (by decide +kernel) ?_
  intro p e s m below meth c s₁ B hml ht hc
  have hx := B.exec
  have hb := B.bytes
  have hr := B.returns
  have hown : s.vm.findClass R_Cc = some m.cls := findClass_of_methodNamed B.named
  have hlocks := B.notSynchronized
  have hT := g.tb hc
  have hK := g.k hc
  have hD := g.d (σ := σ)
  have hS : va_S (gA G) s.heap s.heap [] := va_S.rf
  have hP := hc.2.2
  have hl := lv_entry ([.ref (gad G 7), .int x]) (n := 3) (Nat.le_of_ble_eq_true rfl)
  rw [lg_entry_eq]
  generalize (lg_sl ([.ref (gad G 7), .int x]) ++ List.replicate (3 - (lg_sl ([.ref (gad G 7), .int x])).length) Slot.unset).toArray = ls at hl ⊢
  have hl : lv_has ls 3 [(0, .ref (gad G 7)), (1, .int x)] := hl
  refine lv_iload_n hx hb d_Cc_misses_0 rfl (lv_at hl 1 rfl) ?_
  refine lv_iconst (v := 2) hx hb d_Cc_misses_1 (by decide) ?_
  refine lv_irem hx hb d_Cc_misses_2 (by decide) ?_
  refine lv_istore_n (lv' := [(2, .int (x - x / 2 * 2)), (0, .ref (gad G 7)), (1, .int x)]) hx hb d_Cc_misses_3 rfl hl (by decide) rfl (fun ls hl => ?_)
  refine lv_aload_n hx hb d_Cc_misses_4 rfl (lv_at hl 1 rfl) ?_
  refine va_get (D := gD G) (ci := 1) (v := .ref (gad G 8)) (C := R_Cc) (T := F_Cc) (N := 2) hx hb (wl_Cc hT) (fun _ h9 => h9) hown hK hP 7 rfl rfl 1 (by decide) (k_69 hT) (fun _ h9 => h9) rfl d_Cc_misses_5 ?_
  refine lv_iload_n hx hb d_Cc_misses_8 rfl (lv_at hl 0 rfl) ?_
  refine va_iald (f := (cJ σ 2)) hx hb hK hP 8 0 rfl rfl (h) d_Cc_misses_9 ?_
  refine lv_iload_n hx hb d_Cc_misses_10 rfl (lv_at hl 2 rfl) ?_
  refine lv_icmp_ne (tgt := 16) hx hb d_Cc_misses_11 (by decide) (fun c11 => ?_) (fun c11 => ?_)
  · refine lv_aload_n hx hb d_Cc_misses_16 rfl (lv_at hl 1 rfl) ?_
    refine va_get (D := gD G) (ci := 1) (v := .ref (gad G 8)) (C := R_Cc) (T := F_Cc) (N := 2) hx hb (wl_Cc hT) (fun _ h9 => h9) hown hK hP 7 rfl rfl 1 (by decide) (k_69 hT) (fun _ h9 => h9) rfl d_Cc_misses_17 ?_
    refine lv_iload_n hx hb d_Cc_misses_20 rfl (lv_at hl 0 rfl) ?_
    refine lv_iload_n hx hb d_Cc_misses_21 rfl (lv_at hl 2 rfl) ?_
    refine va_iast (f := (cJ σ 2)) hx hb hK hP hD hS 8 0 rfl rfl (h) d_Cc_misses_22 (fun H locs hP hD hS => ?_)
    have hP : va_P (gD G) classes (cw G (sJ σ 2 (upd (cJ σ 2) (x - x / 2 * 2).toNatClampNeg x))) H := hP
    have hD : va_D (gA G) (cw G (sJ σ 2 (upd (cJ σ 2) (x - x / 2 * 2).toNatClampNeg x))) := g.d
    refine lv_aload_n hx hb d_Cc_misses_23 rfl (lv_at hl 1 rfl) ?_
    refine lv_dup hx hb d_Cc_misses_24 rfl ?_
    refine va_get (D := gD G) (ci := 1) (v := .int (cI σ 7)) (C := R_Cc) (T := F_Cc) (N := 2) hx hb (wl_Cc hT) (fun _ h9 => h9) hown hK hP 7 rfl rfl 0 (by decide) (k_67 hT) (fun _ h9 => h9) rfl d_Cc_misses_25 ?_
    refine lv_iconst (v := 1) hx hb d_Cc_misses_28 (by decide) ?_
    refine lv_iadd hx hb d_Cc_misses_29 ?_
    refine va_put (D := gD G) (ci := 1) (v := .int ((cI σ 7) + 1)) (ty := .int) (C := R_Cc) (T := F_Cc) (N := 2) hx hb (wl_Cc hT) (fun _ h9 => h9) fy_Cc fy_Cc_ok fn_Cc hown hK hP hD hS 7 rfl rfl 0 (by decide) (k_67 hT) (fun _ h9 => h9) rfl (by decide +kernel) rfl rfl (Nat.le_of_ble_eq_true rfl) d_Cc_misses_30 (fun H locs hP hD hS => ?_)
    have hP : va_P (gD G) classes (cw G (sI (sJ σ 2 (upd (cJ σ 2) (x - x / 2 * 2).toNatClampNeg x)) 7 ((cI σ 7) + 1))) H := hP
    have hD : va_D (gA G) (cw G (sI (sJ σ 2 (upd (cJ σ 2) (x - x / 2 * 2).toNatClampNeg x)) 7 ((cI σ 7) + 1))) := g.d
    refine lv_iconst (v := 1) hx hb d_Cc_misses_33 (by decide) ?_
    exact end_z (u := (sI (sJ σ 2 (upd (cJ σ 2) (x - x / 2 * 2).toNatClampNeg x)) 7 ((cI σ 7) + 1))) hx hb hr hlocks hS hP d_Cc_misses_34 rfl (⟨by first | (simp [cmF, b2i, cI_sI, cJ_sI, cF_sI, cP_sI, cQ_sI, cI_sJ, cJ_sJ, cF_sJ, cP_sJ, cQ_sJ, cI_sF, cJ_sF, cF_sF, cP_sF, cQ_sF, cI_sP, cJ_sP, cF_sP, cP_sP, cQ_sP, ix, m4, c11]; done) | (revert c11; simp [cmF, b2i, cI_sI, cJ_sI, cF_sI, cP_sI, cQ_sI, cI_sJ, cJ_sJ, cF_sJ, cP_sJ, cQ_sJ, cI_sF, cJ_sF, cF_sF, cP_sF, cQ_sF, cI_sP, cJ_sP, cF_sP, cP_sP, cQ_sP, ix, m4]), by first | (simp [cmF, b2i, cI_sI, cJ_sI, cF_sI, cP_sI, cQ_sI, cI_sJ, cJ_sJ, cF_sJ, cP_sJ, cQ_sJ, cI_sF, cJ_sF, cF_sF, cP_sF, cQ_sF, cI_sP, cJ_sP, cF_sP, cP_sP, cQ_sP, ix, m4, c11]; done) | (revert c11; simp [cmF, b2i, cI_sI, cJ_sI, cF_sI, cP_sI, cQ_sI, cI_sJ, cJ_sJ, cF_sJ, cP_sJ, cQ_sJ, cI_sF, cJ_sF, cF_sF, cP_sF, cQ_sF, cI_sP, cJ_sP, cF_sP, cP_sP, cQ_sP, ix, m4])⟩)
  · refine lv_iconst (v := 0) hx hb d_Cc_misses_14 (by decide) ?_
    exact end_z (u := σ) hx hb hr hlocks hS hP d_Cc_misses_15 rfl (⟨by first | (simp [cmF, b2i, cI_sI, cJ_sI, cF_sI, cP_sI, cQ_sI, cI_sJ, cJ_sJ, cF_sJ, cP_sJ, cQ_sJ, cI_sF, cJ_sF, cF_sF, cP_sF, cQ_sF, cI_sP, cJ_sP, cF_sP, cP_sP, cQ_sP, ix, m4, c11]; done) | (revert c11; simp [cmF, b2i, cI_sI, cJ_sI, cF_sI, cP_sI, cQ_sI, cI_sJ, cJ_sJ, cF_sJ, cP_sJ, cQ_sJ, cI_sF, cJ_sF, cF_sF, cP_sF, cQ_sF, cI_sP, cJ_sP, cF_sP, cP_sP, cQ_sP, ix, m4]), by first | (simp [cmF, b2i, cI_sI, cJ_sI, cF_sI, cP_sI, cQ_sI, cI_sJ, cJ_sJ, cF_sJ, cP_sJ, cQ_sJ, cI_sF, cJ_sF, cF_sF, cP_sF, cQ_sF, cI_sP, cJ_sP, cF_sP, cP_sP, cQ_sP, ix, m4, c11]; done) | (revert c11; simp [cmF, b2i, cI_sI, cJ_sI, cF_sI, cP_sI, cQ_sI, cI_sJ, cJ_sJ, cF_sJ, cP_sJ, cQ_sJ, cI_sF, cJ_sF, cF_sF, cP_sF, cQ_sF, cI_sP, cJ_sP, cF_sP, cP_sP, cQ_sP, ix, m4])⟩)

set_option maxHeartbeats 4000000 in
set_option maxRecDepth 100000 in
theorem K_Dc_misses {l : Launch} {G : GT} (g : GOK l G) (σ : CS) (x : Int32) (h1 : vp_in ((x - x / 2 * 2) * 2) 4) (h2 : vp_in ((x - x / 2 * 2) * 2 + 1) 4) : cx_M l y_Dc_misses (.code y_Dc_misses b_Dc_misses 5 (some .boolean)) 0 0 (gA G) [.ref (gad G 9), .int x] (Cw G σ) (Ri G (fun r u => r = b2i (dmF σ x).1 ∧ u = (dmF σ x).2)) (Tn) := by
  refine cx_of (by decide +kernel) ?_
  intro p e s m below meth c s₁ B hml ht hc
  have hx := B.exec
  have hb := B.bytes
  have hr := B.returns
  have hown : s.vm.findClass R_Dc = some m.cls := findClass_of_methodNamed B.named
  have hlocks := B.notSynchronized
  have hT := g.tb hc
  have hK := g.k hc
  have hD := g.d (σ := σ)
  have hS : va_S (gA G) s.heap s.heap [] := va_S.rf
  have hP := hc.2.2
  have hl := lv_entry ([.ref (gad G 9), .int x]) (n := 5) (Nat.le_of_ble_eq_true rfl)
  rw [lg_entry_eq]
  generalize (lg_sl ([.ref (gad G 9), .int x]) ++ List.replicate (5 - (lg_sl ([.ref (gad G 9), .int x])).length) Slot.unset).toArray = ls at hl ⊢
  have hl : lv_has ls 5 [(0, .ref (gad G 9)), (1, .int x)] := hl
  refine lv_iload_n hx hb d_Dc_misses_0 rfl (lv_at hl 1 rfl) ?_
  refine lv_iconst (v := 2) hx hb d_Dc_misses_1 (by decide) ?_
  refine lv_irem hx hb d_Dc_misses_2 (by decide) ?_
  refine lv_iconst (v := 2) hx hb d_Dc_misses_3 (by decide) ?_
  refine lv_imul hx hb d_Dc_misses_4 ?_
  refine lv_istore_n (lv' := [(2, .int ((x - x / 2 * 2) * 2)), (0, .ref (gad G 9)), (1, .int x)]) hx hb d_Dc_misses_5 rfl hl (by decide) rfl (fun ls hl => ?_)
  refine lv_iload_n hx hb d_Dc_misses_6 rfl (lv_at hl 0 rfl) ?_
  refine lv_iconst (v := 1) hx hb d_Dc_misses_7 (by decide) ?_
  refine lv_iadd hx hb d_Dc_misses_8 ?_
  refine lv_istore_n (lv' := [(3, .int (((x - x / 2 * 2) * 2) + 1)), (2, .int ((x - x / 2 * 2) * 2)), (0, .ref (gad G 9)), (1, .int x)]) hx hb d_Dc_misses_9 rfl hl (by decide) rfl (fun ls hl => ?_)
  refine lv_aload_n hx hb d_Dc_misses_10 rfl (lv_at hl 2 rfl) ?_
  refine lv_dup hx hb d_Dc_misses_11 rfl ?_
  refine va_get (D := gD G) (ci := 2) (v := .int (cI σ 9)) (C := R_Dc) (T := F_Dc) (N := 4) hx hb (wl_Dc hT) (fun _ h9 => h9) hown hK hP 9 rfl rfl 3 (by decide) (k_90 hT) (fun _ h9 => h9) rfl d_Dc_misses_12 ?_
  refine lv_iconst (v := 1) hx hb d_Dc_misses_15 (by decide) ?_
  refine lv_iadd hx hb d_Dc_misses_16 ?_
  refine va_put (D := gD G) (ci := 2) (v := .int ((cI σ 9) + 1)) (ty := .int) (C := R_Dc) (T := F_Dc) (N := 4) hx hb (wl_Dc hT) (fun _ h9 => h9) fy_Dc fy_Dc_ok fn_Dc hown hK hP hD hS 9 rfl rfl 3 (by decide) (k_90 hT) (fun _ h9 => h9) rfl (by decide +kernel) rfl rfl (Nat.le_of_ble_eq_true rfl) d_Dc_misses_17 (fun H locs hP hD hS => ?_)
  have hP : va_P (gD G) classes (cw G (sI σ 9 ((cI σ 9) + 1))) H := hP
  have hD : va_D (gA G) (cw G (sI σ 9 ((cI σ 9) + 1))) := g.d
  refine lv_aload_n hx hb d_Dc_misses_20 rfl (lv_at hl 2 rfl) ?_
  refine va_get (D := gD G) (ci := 2) (v := .ref (gad G 10)) (C := R_Dc) (T := F_Dc) (N := 4) hx hb (wl_Dc hT) (fun _ h9 => h9) hown hK hP 9 rfl rfl 1 (by decide) (k_88 hT) (fun _ h9 => h9) rfl d_Dc_misses_21 ?_
  refine lv_iload_n hx hb d_Dc_misses_24 rfl (lv_at hl 1 rfl) ?_
  refine va_iald (f := (cJ σ 3)) hx hb hK hP 10 0 rfl rfl (h1) d_Dc_misses_25 ?_
  refine lv_iload_n hx hb d_Dc_misses_26 rfl (lv_at hl 3 rfl) ?_
  refine lv_icmp_eq (tgt := 40) hx hb d_Dc_misses_27 (by decide) (fun c27 => ?_) (fun c27 => ?_)
  · refine lv_aload_n hx hb d_Dc_misses_40 rfl (lv_at hl 2 rfl) ?_
    refine va_get (D := gD G) (ci := 2) (v := .ref (gad G 11)) (C := R_Dc) (T := F_Dc) (N := 4) hx hb (wl_Dc hT) (fun _ h9 => h9) hown hK hP 9 rfl rfl 2 (by decide) (k_89 hT) (fun _ h9 => h9) rfl d_Dc_misses_41 ?_
    refine lv_aload_n hx hb d_Dc_misses_44 rfl (lv_at hl 2 rfl) ?_
    refine va_get (D := gD G) (ci := 2) (v := .ref (gad G 10)) (C := R_Dc) (T := F_Dc) (N := 4) hx hb (wl_Dc hT) (fun _ h9 => h9) hown hK hP 9 rfl rfl 1 (by decide) (k_88 hT) (fun _ h9 => h9) rfl d_Dc_misses_45 ?_
    refine lv_iload_n hx hb d_Dc_misses_48 rfl (lv_at hl 1 rfl) ?_
    refine va_iald (f := (cJ σ 3)) hx hb hK hP 10 0 rfl rfl (h1) d_Dc_misses_49 ?_
    refine lv_iload_n hx hb d_Dc_misses_50 rfl (lv_at hl 3 rfl) ?_
    refine lv_icmp_ne (tgt := 58) hx hb d_Dc_misses_51 (by decide) (fun c51 => ?_) (fun c51 => ?_)
    · exact absurd c27 c51
    · refine lv_iload_n hx hb d_Dc_misses_54 rfl (lv_at hl 1 rfl) ?_
      refine lv_goto (tgt := 59) hx hb d_Dc_misses_55 (by decide) ?_
      refine lv_aload_n hx hb d_Dc_misses_59 rfl (lv_at hl 2 rfl) ?_
      refine va_get (D := gD G) (ci := 2) (v := .int ((cI σ 9) + 1)) (C := R_Dc) (T := F_Dc) (N := 4) hx hb (wl_Dc hT) (fun _ h9 => h9) hown hK hP 9 rfl rfl 3 (by decide) (k_90 hT) (fun _ h9 => h9) rfl d_Dc_misses_60 ?_
      refine va_iast (f := (cJ σ 4)) hx hb hK hP hD hS 11 0 rfl rfl (h1) d_Dc_misses_63 (fun H locs hP hD hS => ?_)
      have hP : va_P (gD G) classes (cw G (sJ (sI σ 9 ((cI σ 9) + 1)) 4 (upd (cJ σ 4) ((x - x / 2 * 2) * 2).toNatClampNeg ((cI σ 9) + 1)))) H := hP
      have hD : va_D (gA G) (cw G (sJ (sI σ 9 ((cI σ 9) + 1)) 4 (upd (cJ σ 4) ((x - x / 2 * 2) * 2).toNatClampNeg ((cI σ 9) + 1)))) := g.d
      refine lv_iconst (v := 0) hx hb d_Dc_misses_64 (by decide) ?_
      exact end_z (u := (sJ (sI σ 9 ((cI σ 9) + 1)) 4 (upd (cJ σ 4) ((x - x / 2 * 2) * 2).toNatClampNeg ((cI σ 9) + 1)))) hx hb hr hlocks hS hP d_Dc_misses_65 rfl (⟨by first | (simp [dmF, b2i, cI_sI, cJ_sI, cF_sI, cP_sI, cQ_sI, cI_sJ, cJ_sJ, cF_sJ, cP_sJ, cQ_sJ, cI_sF, cJ_sF, cF_sF, cP_sF, cQ_sF, cI_sP, cJ_sP, cF_sP, cP_sP, cQ_sP, ix, m4, c27, c51]; done) | (revert c27 c51; simp [dmF, b2i, cI_sI, cJ_sI, cF_sI, cP_sI, cQ_sI, cI_sJ, cJ_sJ, cF_sJ, cP_sJ, cQ_sJ, cI_sF, cJ_sF, cF_sF, cP_sF, cQ_sF, cI_sP, cJ_sP, cF_sP, cP_sP, cQ_sP, ix, m4]), by first | (simp [dmF, b2i, cI_sI, cJ_sI, cF_sI, cP_sI, cQ_sI, cI_sJ, cJ_sJ, cF_sJ, cP_sJ, cQ_sJ, cI_sF, cJ_sF, cF_sF, cP_sF, cQ_sF, cI_sP, cJ_sP, cF_sP, cP_sP, cQ_sP, ix, m4, c27, c51]; done) | (revert c27 c51; simp [dmF, b2i, cI_sI, cJ_sI, cF_sI, cP_sI, cQ_sI, cI_sJ, cJ_sJ, cF_sJ, cP_sJ, cQ_sJ, cI_sF, cJ_sF, cF_sF, cP_sF, cQ_sF, cI_sP, cJ_sP, cF_sP, cP_sP, cQ_sP, ix, m4])⟩)
  · refine lv_aload_n hx hb d_Dc_misses_30 rfl (lv_at hl 2 rfl) ?_
    refine va_get (D := gD G) (ci := 2) (v := .ref (gad G 10)) (C := R_Dc) (T := F_Dc) (N := 4) hx hb (wl_Dc hT) (fun _ h9 => h9) hown hK hP 9 rfl rfl 1 (by decide) (k_88 hT) (fun _ h9 => h9) rfl d_Dc_misses_31 ?_
    refine lv_iload_n hx hb d_Dc_misses_34 rfl (lv_at hl 0 rfl) ?_
    refine va_iald (f := (cJ σ 3)) hx hb hK hP 10 0 rfl rfl (h2) d_Dc_misses_35 ?_
    refine lv_iload_n hx hb d_Dc_misses_36 rfl (lv_at hl 3 rfl) ?_
    refine lv_icmp_ne (tgt := 66) hx hb d_Dc_misses_37 (by decide) (fun c37 => ?_) (fun c37 => ?_)
    · refine lv_aload_n hx hb d_Dc_misses_66 rfl (lv_at hl 2 rfl) ?_
      refine va_get (D := gD G) (ci := 2) (v := .ref (gad G 11)) (C := R_Dc) (T := F_Dc) (N := 4) hx hb (wl_Dc hT) (fun _ h9 => h9) hown hK hP 9 rfl rfl 2 (by decide) (k_89 hT) (fun _ h9 => h9) rfl d_Dc_misses_67 ?_
      refine lv_iload_n hx hb d_Dc_misses_70 rfl (lv_at hl 1 rfl) ?_
      refine va_iald (f := (cJ σ 4)) hx hb hK hP 11 0 rfl rfl (h1) d_Dc_misses_71 ?_
      refine lv_aload_n hx hb d_Dc_misses_72 rfl (lv_at hl 2 rfl) ?_
      refine va_get (D := gD G) (ci := 2) (v := .ref (gad G 11)) (C := R_Dc) (T := F_Dc) (N := 4) hx hb (wl_Dc hT) (fun _ h9 => h9) hown hK hP 9 rfl rfl 2 (by decide) (k_89 hT) (fun _ h9 => h9) rfl d_Dc_misses_73 ?_
      refine lv_iload_n hx hb d_Dc_misses_76 rfl (lv_at hl 0 rfl) ?_
      refine va_iald (f := (cJ σ 4)) hx hb hK hP 11 0 rfl rfl (h2) d_Dc_misses_77 ?_
      refine lv_icmp_gt (tgt := 85) hx hb d_Dc_misses_78 (by decide) (fun c78 => ?_) (fun c78 => ?_)
      · refine lv_iload_n hx hb d_Dc_misses_85 rfl (lv_at hl 0 rfl) ?_
        refine lv_istore (lv' := [(4, .int (((x - x / 2 * 2) * 2) + 1)), (3, .int (((x - x / 2 * 2) * 2) + 1)), (2, .int ((x - x / 2 * 2) * 2)), (0, .ref (gad G 9)), (1, .int x)]) hx hb d_Dc_misses_86 hl (by decide) rfl (fun ls hl => ?_)
        refine lv_aload_n hx hb d_Dc_misses_88 rfl (lv_at hl 3 rfl) ?_
        refine va_get (D := gD G) (ci := 2) (v := .ref (gad G 10)) (C := R_Dc) (T := F_Dc) (N := 4) hx hb (wl_Dc hT) (fun _ h9 => h9) hown hK hP 9 rfl rfl 1 (by decide) (k_88 hT) (fun _ h9 => h9) rfl d_Dc_misses_89 ?_
        refine lv_iload hx hb d_Dc_misses_92 (lv_at hl 0 rfl) ?_
        refine lv_iload_n hx hb d_Dc_misses_94 rfl (lv_at hl 4 rfl) ?_
        refine va_iast (f := (cJ σ 3)) hx hb hK hP hD hS 10 0 rfl rfl (h2) d_Dc_misses_95 (fun H locs hP hD hS => ?_)
        have hP : va_P (gD G) classes (cw G (sJ (sI σ 9 ((cI σ 9) + 1)) 3 (upd (cJ σ 3) (((x - x / 2 * 2) * 2) + 1).toNatClampNeg x))) H := hP
        have hD : va_D (gA G) (cw G (sJ (sI σ 9 ((cI σ 9) + 1)) 3 (upd (cJ σ 3) (((x - x / 2 * 2) * 2) + 1).toNatClampNeg x))) := g.d
        refine lv_aload_n hx hb d_Dc_misses_96 rfl (lv_at hl 3 rfl) ?_
        refine va_get (D := gD G) (ci := 2) (v := .ref (gad G 11)) (C := R_Dc) (T := F_Dc) (N := 4) hx hb (wl_Dc hT) (fun _ h9 => h9) hown hK hP 9 rfl rfl 2 (by decide) (k_89 hT) (fun _ h9 => h9) rfl d_Dc_misses_97 ?_
        refine lv_iload hx hb d_Dc_misses_100 (lv_at hl 0 rfl) ?_
        refine lv_aload_n hx hb d_Dc_misses_102 rfl (lv_at hl 3 rfl) ?_
        refine va_get (D := gD G) (ci := 2) (v := .int ((cI σ 9) + 1)) (C := R_Dc) (T := F_Dc) (N := 4) hx hb (wl_Dc hT) (fun _ h9 => h9) hown hK hP 9 rfl rfl 3 (by decide) (k_90 hT) (fun _ h9 => h9) rfl d_Dc_misses_103 ?_
        refine va_iast (f := (cJ σ 4)) hx hb hK hP hD hS 11 0 rfl rfl (h2) d_Dc_misses_106 (fun H locs hP hD hS => ?_)
        have hP : va_P (gD G) classes (cw G (sJ (sJ (sI σ 9 ((cI σ 9) + 1)) 3 (upd (cJ σ 3) (((x - x / 2 * 2) * 2) + 1).toNatClampNeg x)) 4 (upd (cJ σ 4) (((x - x / 2 * 2) * 2) + 1).toNatClampNeg ((cI σ 9) + 1)))) H := hP
        have hD : va_D (gA G) (cw G (sJ (sJ (sI σ 9 ((cI σ 9) + 1)) 3 (upd (cJ σ 3) (((x - x / 2 * 2) * 2) + 1).toNatClampNeg x)) 4 (upd (cJ σ 4) (((x - x / 2 * 2) * 2) + 1).toNatClampNeg ((cI σ 9) + 1)))) := g.d
        refine lv_aload_n hx hb d_Dc_misses_107 rfl (lv_at hl 3 rfl) ?_
        refine lv_dup hx hb d_Dc_misses_108 rfl ?_
        refine va_get (D := gD G) (ci := 2) (v := .int (cI σ 8)) (C := R_Dc) (T := F_Dc) (N := 4) hx hb (wl_Dc hT) (fun _ h9 => h9) hown hK hP 9 rfl rfl 0 (by decide) (k_86 hT) (fun _ h9 => h9) rfl d_Dc_misses_109 ?_
        refine lv_iconst (v := 1) hx hb d_Dc_misses_112 (by decide) ?_
        refine lv_iadd hx hb d_Dc_misses_113 ?_
        refine va_put (D := gD G) (ci := 2) (v := .int ((cI σ 8) + 1)) (ty := .int) (C := R_Dc) (T := F_Dc) (N := 4) hx hb (wl_Dc hT) (fun _ h9 => h9) fy_Dc fy_Dc_ok fn_Dc hown hK hP hD hS 9 rfl rfl 0 (by decide) (k_86 hT) (fun _ h9 => h9) rfl (by decide +kernel) rfl rfl (Nat.le_of_ble_eq_true rfl) d_Dc_misses_114 (fun H locs hP hD hS => ?_)
        have hP : va_P (gD G) classes (cw G (sI (sJ (sJ (sI σ 9 ((cI σ 9) + 1)) 3 (upd (cJ σ 3) (((x - x / 2 * 2) * 2) + 1).toNatClampNeg x)) 4 (upd (cJ σ 4) (((x - x / 2 * 2) * 2) + 1).toNatClampNeg ((cI σ 9) + 1))) 8 ((cI σ 8) + 1))) H := hP
        have hD : va_D (gA G) (cw G (sI (sJ (sJ (sI σ 9 ((cI σ 9) + 1)) 3 (upd (cJ σ 3) (((x - x / 2 * 2) * 2) + 1).toNatClampNeg x)) 4 (upd (cJ σ 4) (((x - x / 2 * 2) * 2) + 1).toNatClampNeg ((cI σ 9) + 1))) 8 ((cI σ 8) + 1))) := g.d
        refine lv_iconst (v := 1) hx hb d_Dc_misses_117 (by decide) ?_
        exact end_z (u := (sI (sJ (sJ (sI σ 9 ((cI σ 9) + 1)) 3 (upd (cJ σ 3) (((x - x / 2 * 2) * 2) + 1).toNatClampNeg x)) 4 (upd (cJ σ 4) (((x - x / 2 * 2) * 2) + 1).toNatClampNeg ((cI σ 9) + 1))) 8 ((cI σ 8) + 1))) hx hb hr hlocks hS hP d_Dc_misses_118 rfl (⟨by first | (simp [dmF, b2i, cI_sI, cJ_sI, cF_sI, cP_sI, cQ_sI, cI_sJ, cJ_sJ, cF_sJ, cP_sJ, cQ_sJ, cI_sF, cJ_sF, cF_sF, cP_sF, cQ_sF, cI_sP, cJ_sP, cF_sP, cP_sP, cQ_sP, ix, m4, c27, c37, c78]; done) | (revert c27 c37 c78; simp [dmF, b2i, cI_sI, cJ_sI, cF_sI, cP_sI, cQ_sI, cI_sJ, cJ_sJ, cF_sJ, cP_sJ, cQ_sJ, cI_sF, cJ_sF, cF_sF, cP_sF, cQ_sF, cI_sP, cJ_sP, cF_sP, cP_sP, cQ_sP, ix, m4]), by first | (simp [dmF, b2i, cI_sI, cJ_sI, cF_sI, cP_sI, cQ_sI, cI_sJ, cJ_sJ, cF_sJ, cP_sJ, cQ_sJ, cI_sF, cJ_sF, cF_sF, cP_sF, cQ_sF, cI_sP, cJ_sP, cF_sP, cP_sP, cQ_sP, ix, m4, c27, c37, c78]; done) | (revert c27 c37 c78; simp [dmF, b2i, cI_sI, cJ_sI, cF_sI, cP_sI, cQ_sI, cI_sJ, cJ_sJ, cF_sJ, cP_sJ, cQ_sJ, cI_sF, cJ_sF, cF_sF, cP_sF, cQ_sF, cI_sP, cJ_sP, cF_sP, cP_sP, cQ_sP, ix, m4])⟩)
      · refine lv_iload_n hx hb d_Dc_misses_81 rfl (lv_at hl 1 rfl) ?_
        refine lv_goto (tgt := 86) hx hb d_Dc_misses_82 (by decide) ?_
        refine lv_istore (lv' := [(4, .int ((x - x / 2 * 2) * 2)), (3, .int (((x - x / 2 * 2) * 2) + 1)), (2, .int ((x - x / 2 * 2) * 2)), (0, .ref (gad G 9)), (1, .int x)]) hx hb d_Dc_misses_86 hl (by decide) rfl (fun ls hl => ?_)
        refine lv_aload_n hx hb d_Dc_misses_88 rfl (lv_at hl 3 rfl) ?_
        refine va_get (D := gD G) (ci := 2) (v := .ref (gad G 10)) (C := R_Dc) (T := F_Dc) (N := 4) hx hb (wl_Dc hT) (fun _ h9 => h9) hown hK hP 9 rfl rfl 1 (by decide) (k_88 hT) (fun _ h9 => h9) rfl d_Dc_misses_89 ?_
        refine lv_iload hx hb d_Dc_misses_92 (lv_at hl 0 rfl) ?_
        refine lv_iload_n hx hb d_Dc_misses_94 rfl (lv_at hl 4 rfl) ?_
        refine va_iast (f := (cJ σ 3)) hx hb hK hP hD hS 10 0 rfl rfl (h1) d_Dc_misses_95 (fun H locs hP hD hS => ?_)
        have hP : va_P (gD G) classes (cw G (sJ (sI σ 9 ((cI σ 9) + 1)) 3 (upd (cJ σ 3) ((x - x / 2 * 2) * 2).toNatClampNeg x))) H := hP
        have hD : va_D (gA G) (cw G (sJ (sI σ 9 ((cI σ 9) + 1)) 3 (upd (cJ σ 3) ((x - x / 2 * 2) * 2).toNatClampNeg x))) := g.d
        refine lv_aload_n hx hb d_Dc_misses_96 rfl (lv_at hl 3 rfl) ?_
        refine va_get (D := gD G) (ci := 2) (v := .ref (gad G 11)) (C := R_Dc) (T := F_Dc) (N := 4) hx hb (wl_Dc hT) (fun _ h9 => h9) hown hK hP 9 rfl rfl 2 (by decide) (k_89 hT) (fun _ h9 => h9) rfl d_Dc_misses_97 ?_
        refine lv_iload hx hb d_Dc_misses_100 (lv_at hl 0 rfl) ?_
        refine lv_aload_n hx hb d_Dc_misses_102 rfl (lv_at hl 3 rfl) ?_
        refine va_get (D := gD G) (ci := 2) (v := .int ((cI σ 9) + 1)) (C := R_Dc) (T := F_Dc) (N := 4) hx hb (wl_Dc hT) (fun _ h9 => h9) hown hK hP 9 rfl rfl 3 (by decide) (k_90 hT) (fun _ h9 => h9) rfl d_Dc_misses_103 ?_
        refine va_iast (f := (cJ σ 4)) hx hb hK hP hD hS 11 0 rfl rfl (h1) d_Dc_misses_106 (fun H locs hP hD hS => ?_)
        have hP : va_P (gD G) classes (cw G (sJ (sJ (sI σ 9 ((cI σ 9) + 1)) 3 (upd (cJ σ 3) ((x - x / 2 * 2) * 2).toNatClampNeg x)) 4 (upd (cJ σ 4) ((x - x / 2 * 2) * 2).toNatClampNeg ((cI σ 9) + 1)))) H := hP
        have hD : va_D (gA G) (cw G (sJ (sJ (sI σ 9 ((cI σ 9) + 1)) 3 (upd (cJ σ 3) ((x - x / 2 * 2) * 2).toNatClampNeg x)) 4 (upd (cJ σ 4) ((x - x / 2 * 2) * 2).toNatClampNeg ((cI σ 9) + 1)))) := g.d
        refine lv_aload_n hx hb d_Dc_misses_107 rfl (lv_at hl 3 rfl) ?_
        refine lv_dup hx hb d_Dc_misses_108 rfl ?_
        refine va_get (D := gD G) (ci := 2) (v := .int (cI σ 8)) (C := R_Dc) (T := F_Dc) (N := 4) hx hb (wl_Dc hT) (fun _ h9 => h9) hown hK hP 9 rfl rfl 0 (by decide) (k_86 hT) (fun _ h9 => h9) rfl d_Dc_misses_109 ?_
        refine lv_iconst (v := 1) hx hb d_Dc_misses_112 (by decide) ?_
        refine lv_iadd hx hb d_Dc_misses_113 ?_
        refine va_put (D := gD G) (ci := 2) (v := .int ((cI σ 8) + 1)) (ty := .int) (C := R_Dc) (T := F_Dc) (N := 4) hx hb (wl_Dc hT) (fun _ h9 => h9) fy_Dc fy_Dc_ok fn_Dc hown hK hP hD hS 9 rfl rfl 0 (by decide) (k_86 hT) (fun _ h9 => h9) rfl (by decide +kernel) rfl rfl (Nat.le_of_ble_eq_true rfl) d_Dc_misses_114 (fun H locs hP hD hS => ?_)
        have hP : va_P (gD G) classes (cw G (sI (sJ (sJ (sI σ 9 ((cI σ 9) + 1)) 3 (upd (cJ σ 3) ((x - x / 2 * 2) * 2).toNatClampNeg x)) 4 (upd (cJ σ 4) ((x - x / 2 * 2) * 2).toNatClampNeg ((cI σ 9) + 1))) 8 ((cI σ 8) + 1))) H := hP
        have hD : va_D (gA G) (cw G (sI (sJ (sJ (sI σ 9 ((cI σ 9) + 1)) 3 (upd (cJ σ 3) ((x - x / 2 * 2) * 2).toNatClampNeg x)) 4 (upd (cJ σ 4) ((x - x / 2 * 2) * 2).toNatClampNeg ((cI σ 9) + 1))) 8 ((cI σ 8) + 1))) := g.d
        refine lv_iconst (v := 1) hx hb d_Dc_misses_117 (by decide) ?_
        exact end_z (u := (sI (sJ (sJ (sI σ 9 ((cI σ 9) + 1)) 3 (upd (cJ σ 3) ((x - x / 2 * 2) * 2).toNatClampNeg x)) 4 (upd (cJ σ 4) ((x - x / 2 * 2) * 2).toNatClampNeg ((cI σ 9) + 1))) 8 ((cI σ 8) + 1))) hx hb hr hlocks hS hP d_Dc_misses_118 rfl (⟨by first | (simp [dmF, b2i, cI_sI, cJ_sI, cF_sI, cP_sI, cQ_sI, cI_sJ, cJ_sJ, cF_sJ, cP_sJ, cQ_sJ, cI_sF, cJ_sF, cF_sF, cP_sF, cQ_sF, cI_sP, cJ_sP, cF_sP, cP_sP, cQ_sP, ix, m4, c27, c37, c78]; done) | (revert c27 c37 c78; simp [dmF, b2i, cI_sI, cJ_sI, cF_sI, cP_sI, cQ_sI, cI_sJ, cJ_sJ, cF_sJ, cP_sJ, cQ_sJ, cI_sF, cJ_sF, cF_sF, cP_sF, cQ_sF, cI_sP, cJ_sP, cF_sP, cP_sP, cQ_sP, ix, m4]), by first | (simp [dmF, b2i, cI_sI, cJ_sI, cF_sI, cP_sI, cQ_sI, cI_sJ, cJ_sJ, cF_sJ, cP_sJ, cQ_sJ, cI_sF, cJ_sF, cF_sF, cP_sF, cQ_sF, cI_sP, cJ_sP, cF_sP, cP_sP, cQ_sP, ix, m4, c27, c37, c78]; done) | (revert c27 c37 c78; simp [dmF, b2i, cI_sI, cJ_sI, cF_sI, cP_sI, cQ_sI, cI_sJ, cJ_sJ, cF_sJ, cP_sJ, cQ_sJ, cI_sF, cJ_sF, cF_sF, cP_sF, cQ_sF, cI_sP, cJ_sP, cF_sP, cP_sP, cQ_sP, ix, m4])⟩)
    · refine lv_aload_n hx hb d_Dc_misses_40 rfl (lv_at hl 2 rfl) ?_
      refine va_get (D := gD G) (ci := 2) (v := .ref (gad G 11)) (C := R_Dc) (T := F_Dc) (N := 4) hx hb (wl_Dc hT) (fun _ h9 => h9) hown hK hP 9 rfl rfl 2 (by decide) (k_89 hT) (fun _ h9 => h9) rfl d_Dc_misses_41 ?_
      refine lv_aload_n hx hb d_Dc_misses_44 rfl (lv_at hl 2 rfl) ?_
      refine va_get (D := gD G) (ci := 2) (v := .ref (gad G 10)) (C := R_Dc) (T := F_Dc) (N := 4) hx hb (wl_Dc hT) (fun _ h9 => h9) hown hK hP 9 rfl rfl 1 (by decide) (k_88 hT) (fun _ h9 => h9) rfl d_Dc_misses_45 ?_
      refine lv_iload_n hx hb d_Dc_misses_48 rfl (lv_at hl 1 rfl) ?_
      refine va_iald (f := (cJ σ 3)) hx hb hK hP 10 0 rfl rfl (h1) d_Dc_misses_49 ?_
      refine lv_iload_n hx hb d_Dc_misses_50 rfl (lv_at hl 3 rfl) ?_
      refine lv_icmp_ne (tgt := 58) hx hb d_Dc_misses_51 (by decide) (fun c51 => ?_) (fun c51 => ?_)
      · refine lv_iload_n hx hb d_Dc_misses_58 rfl (lv_at hl 0 rfl) ?_
        refine lv_aload_n hx hb d_Dc_misses_59 rfl (lv_at hl 2 rfl) ?_
        refine va_get (D := gD G) (ci := 2) (v := .int ((cI σ 9) + 1)) (C := R_Dc) (T := F_Dc) (N := 4) hx hb (wl_Dc hT) (fun _ h9 => h9) hown hK hP 9 rfl rfl 3 (by decide) (k_90 hT) (fun _ h9 => h9) rfl d_Dc_misses_60 ?_
        refine va_iast (f := (cJ σ 4)) hx hb hK hP hD hS 11 0 rfl rfl (h2) d_Dc_misses_63 (fun H locs hP hD hS => ?_)
        have hP : va_P (gD G) classes (cw G (sJ (sI σ 9 ((cI σ 9) + 1)) 4 (upd (cJ σ 4) (((x - x / 2 * 2) * 2) + 1).toNatClampNeg ((cI σ 9) + 1)))) H := hP
        have hD : va_D (gA G) (cw G (sJ (sI σ 9 ((cI σ 9) + 1)) 4 (upd (cJ σ 4) (((x - x / 2 * 2) * 2) + 1).toNatClampNeg ((cI σ 9) + 1)))) := g.d
        refine lv_iconst (v := 0) hx hb d_Dc_misses_64 (by decide) ?_
        exact end_z (u := (sJ (sI σ 9 ((cI σ 9) + 1)) 4 (upd (cJ σ 4) (((x - x / 2 * 2) * 2) + 1).toNatClampNeg ((cI σ 9) + 1)))) hx hb hr hlocks hS hP d_Dc_misses_65 rfl (⟨by first | (simp [dmF, b2i, cI_sI, cJ_sI, cF_sI, cP_sI, cQ_sI, cI_sJ, cJ_sJ, cF_sJ, cP_sJ, cQ_sJ, cI_sF, cJ_sF, cF_sF, cP_sF, cQ_sF, cI_sP, cJ_sP, cF_sP, cP_sP, cQ_sP, ix, m4, c27, c37, c51]; done) | (revert c27 c37 c51; simp [dmF, b2i, cI_sI, cJ_sI, cF_sI, cP_sI, cQ_sI, cI_sJ, cJ_sJ, cF_sJ, cP_sJ, cQ_sJ, cI_sF, cJ_sF, cF_sF, cP_sF, cQ_sF, cI_sP, cJ_sP, cF_sP, cP_sP, cQ_sP, ix, m4]), by first | (simp [dmF, b2i, cI_sI, cJ_sI, cF_sI, cP_sI, cQ_sI, cI_sJ, cJ_sJ, cF_sJ, cP_sJ, cQ_sJ, cI_sF, cJ_sF, cF_sF, cP_sF, cQ_sF, cI_sP, cJ_sP, cF_sP, cP_sP, cQ_sP, ix, m4, c27, c37, c51]; done) | (revert c27 c37 c51; simp [dmF, b2i, cI_sI, cJ_sI, cF_sI, cP_sI, cQ_sI, cI_sJ, cJ_sJ, cF_sJ, cP_sJ, cQ_sJ, cI_sF, cJ_sF, cF_sF, cP_sF, cQ_sF, cI_sP, cJ_sP, cF_sP, cP_sP, cQ_sP, ix, m4])⟩)
      · exact absurd c51 c27

set_option maxHeartbeats 4000000 in
set_option maxRecDepth 100000 in
theorem K_Pr_guessesWrong {l : Launch} {G : GT} (g : GOK l G) (σ : CS) (x : Int32) (j : Bool) (h : vp_in (x - x / 8 * 8) 8) : cx_M l y_Pr_guessesWrong (.code y_Pr_guessesWrong b_Pr_guessesWrong 5 (some .boolean)) 1 21 (gA G) [.ref (gad G 12), .int x, .int (b2i j)] (Cw G σ) (Ri G (fun r u => r = b2i (gwW σ x j) ∧ u = gwF σ x j)) (Tn) := by
  refine cx_of (by decide +kernel) ?_
  intro p e s m below meth c s₁ B hml ht hc
  have hx := B.exec
  have hb := B.bytes
  have hr := B.returns
  have hown : s.vm.findClass R_Pr = some m.cls := findClass_of_methodNamed B.named
  have hlocks := B.notSynchronized
  have hT := g.tb hc
  have hK := g.k hc
  have hD := g.d (σ := σ)
  have hS : va_S (gA G) s.heap s.heap [] := va_S.rf
  have hP := hc.2.2
  have hl := lv_entry ([.ref (gad G 12), .int x, .int (b2i j)]) (n := 5) (Nat.le_of_ble_eq_true rfl)
  rw [lg_entry_eq]
  generalize (lg_sl ([.ref (gad G 12), .int x, .int (b2i j)]) ++ List.replicate (5 - (lg_sl ([.ref (gad G 12), .int x, .int (b2i j)])).length) Slot.unset).toArray = ls at hl ⊢
  have hl : lv_has ls 5 [(0, .ref (gad G 12)), (1, .int x), (2, .int (b2i j))] := hl
  refine lv_iload_n hx hb d_Pr_guessesWrong_0 rfl (lv_at hl 1 rfl) ?_
  refine lv_bipush (v := 8) hx hb d_Pr_guessesWrong_1 (by decide) ?_
  refine lv_irem hx hb d_Pr_guessesWrong_3 (by decide) ?_
  refine lv_istore_n (lv' := [(3, .int (x - x / 8 * 8)), (0, .ref (gad G 12)), (1, .int x), (2, .int (b2i j))]) hx hb d_Pr_guessesWrong_4 rfl hl (by decide) rfl (fun ls hl => ?_)
  refine lv_aload_n hx hb d_Pr_guessesWrong_5 rfl (lv_at hl 1 rfl) ?_
  refine va_get (D := gD G) (ci := 4) (v := .ref (gad G 13)) (C := R_Pr) (T := F_Pr) (N := 2) hx hb (wl_Pr hT) (fun _ h9 => h9) hown hK hP 12 rfl rfl 1 (by decide) (k_113 hT) (fun _ h9 => h9) rfl d_Pr_guessesWrong_6 ?_
  refine lv_iload_n hx hb d_Pr_guessesWrong_9 rfl (lv_at hl 0 rfl) ?_
  refine va_iald (f := (cJ σ 5)) hx hb hK hP 13 0 rfl rfl (h) d_Pr_guessesWrong_10 ?_
  refine lv_iconst (v := 2) hx hb d_Pr_guessesWrong_11 (by decide) ?_
  refine lv_icmp_lt (tgt := 19) hx hb d_Pr_guessesWrong_12 (by decide) (fun c12 => ?_) (fun c12 => ?_)
  · refine lv_iconst (v := 0) hx hb d_Pr_guessesWrong_19 (by decide) ?_
    refine lv_iload_n hx hb d_Pr_guessesWrong_20 rfl (lv_at hl 3 rfl) ?_
    refine lv_icmp_eq (tgt := 28) hx hb d_Pr_guessesWrong_21 (by decide) (fun c21 => ?_) (fun c21 => ?_)
    · refine lv_iconst (v := 0) hx hb d_Pr_guessesWrong_28 (by decide) ?_
      refine lv_istore (lv' := [(4, .int 0), (3, .int (x - x / 8 * 8)), (0, .ref (gad G 12)), (1, .int x), (2, .int (b2i j))]) hx hb d_Pr_guessesWrong_29 hl (by decide) rfl (fun ls hl => ?_)
      refine lv_aload_n hx hb d_Pr_guessesWrong_31 rfl (lv_at hl 2 rfl) ?_
      refine va_get (D := gD G) (ci := 4) (v := .ref (gad G 13)) (C := R_Pr) (T := F_Pr) (N := 2) hx hb (wl_Pr hT) (fun _ h9 => h9) hown hK hP 12 rfl rfl 1 (by decide) (k_113 hT) (fun _ h9 => h9) rfl d_Pr_guessesWrong_32 ?_
      refine lv_iload_n hx hb d_Pr_guessesWrong_35 rfl (lv_at hl 1 rfl) ?_
      refine lv_iload_n hx hb d_Pr_guessesWrong_36 rfl (lv_at hl 4 rfl) ?_
      refine lv_if_eq (tgt := 55) hx hb d_Pr_guessesWrong_37 (by decide) (fun c37 => ?_) (fun c37 => ?_)
      · have c37 := b2i0 c37
        refine lv_aload_n hx hb d_Pr_guessesWrong_55 rfl (lv_at hl 2 rfl) ?_
        refine va_get (D := gD G) (ci := 4) (v := .ref (gad G 13)) (C := R_Pr) (T := F_Pr) (N := 2) hx hb (wl_Pr hT) (fun _ h9 => h9) hown hK hP 12 rfl rfl 1 (by decide) (k_113 hT) (fun _ h9 => h9) rfl d_Pr_guessesWrong_56 ?_
        refine lv_iload_n hx hb d_Pr_guessesWrong_59 rfl (lv_at hl 1 rfl) ?_
        refine va_iald (f := (cJ σ 5)) hx hb hK hP 13 0 rfl rfl (h) d_Pr_guessesWrong_60 ?_
        refine lv_iconst (v := 1) hx hb d_Pr_guessesWrong_61 (by decide) ?_
        refine lv_isub hx hb d_Pr_guessesWrong_62 ?_
        refine lv_iconst (v := 0) hx hb d_Pr_guessesWrong_63 (by decide) ?_
        refine va_mmax hx hb (by rw [hml]; exact hl.1.symm) hown (k_478 hT) (k_276 hT) (k_16 hT) (k_277 hT) (by decide) (Nat.le_of_ble_eq_true rfl) (by decide) (by decide) d_Pr_guessesWrong_64 ?_
        refine va_iast (f := (cJ σ 5)) hx hb hK hP hD hS 13 0 rfl rfl (h) d_Pr_guessesWrong_67 (fun H locs hP hD hS => ?_)
        have hP : va_P (gD G) classes (cw G (sJ σ 5 (upd (cJ σ 5) (x - x / 8 * 8).toNatClampNeg (imax (((cJ σ 5) (x - x / 8 * 8).toNatClampNeg) - 1) 0)))) H := hP
        have hD : va_D (gA G) (cw G (sJ σ 5 (upd (cJ σ 5) (x - x / 8 * 8).toNatClampNeg (imax (((cJ σ 5) (x - x / 8 * 8).toNatClampNeg) - 1) 0)))) := g.d
        refine lv_iload hx hb d_Pr_guessesWrong_68 (lv_at hl 0 rfl) ?_
        refine lv_if_eq (tgt := 83) hx hb d_Pr_guessesWrong_70 (by decide) (fun c70 => ?_) (fun c70 => ?_)
        · refine lv_iload hx hb d_Pr_guessesWrong_83 (lv_at hl 0 rfl) ?_
          exact end_z (u := (sJ σ 5 (upd (cJ σ 5) (x - x / 8 * 8).toNatClampNeg (imax (((cJ σ 5) (x - x / 8 * 8).toNatClampNeg) - 1) 0)))) hx hb hr hlocks hS hP d_Pr_guessesWrong_85 rfl (⟨by revert c12 c21 c37; cases j <;> first | (simp +contextual [gwW, b2i, ix]; done) | (simp +contextual [gwW, b2i, ix]; intro h8 h9; exact absurd h9 (Int32.not_lt.mpr h8)), by revert c12 c21 c37; cases j <;> first | (simp +contextual [gwF, gwW, b2i, ix]; done) | (simp +contextual [gwF, gwW, b2i, ix]; intro h8 h9; exact absurd h9 (Int32.not_lt.mpr h8))⟩)
        · exact absurd rfl c70
      · have c37 := b2i1 c37
        refine lv_aload_n hx hb d_Pr_guessesWrong_40 rfl (lv_at hl 2 rfl) ?_
        refine va_get (D := gD G) (ci := 4) (v := .ref (gad G 13)) (C := R_Pr) (T := F_Pr) (N := 2) hx hb (wl_Pr hT) (fun _ h9 => h9) hown hK hP 12 rfl rfl 1 (by decide) (k_113 hT) (fun _ h9 => h9) rfl d_Pr_guessesWrong_41 ?_
        refine lv_iload_n hx hb d_Pr_guessesWrong_44 rfl (lv_at hl 1 rfl) ?_
        refine va_iald (f := (cJ σ 5)) hx hb hK hP 13 0 rfl rfl (h) d_Pr_guessesWrong_45 ?_
        refine lv_iconst (v := 1) hx hb d_Pr_guessesWrong_46 (by decide) ?_
        refine lv_iadd hx hb d_Pr_guessesWrong_47 ?_
        refine lv_iconst (v := 3) hx hb d_Pr_guessesWrong_48 (by decide) ?_
        refine va_mmin hx hb (by rw [hml]; exact hl.1.symm) hown (k_475 hT) (k_476 hT) (k_16 hT) (k_477 hT) (by decide) (Nat.le_of_ble_eq_true rfl) (by decide) (by decide) d_Pr_guessesWrong_49 ?_
        refine lv_goto (tgt := 67) hx hb d_Pr_guessesWrong_52 (by decide) ?_
        refine va_iast (f := (cJ σ 5)) hx hb hK hP hD hS 13 0 rfl rfl (h) d_Pr_guessesWrong_67 (fun H locs hP hD hS => ?_)
        have hP : va_P (gD G) classes (cw G (sJ σ 5 (upd (cJ σ 5) (x - x / 8 * 8).toNatClampNeg (imin (((cJ σ 5) (x - x / 8 * 8).toNatClampNeg) + 1) 3)))) H := hP
        have hD : va_D (gA G) (cw G (sJ σ 5 (upd (cJ σ 5) (x - x / 8 * 8).toNatClampNeg (imin (((cJ σ 5) (x - x / 8 * 8).toNatClampNeg) + 1) 3)))) := g.d
        refine lv_iload hx hb d_Pr_guessesWrong_68 (lv_at hl 0 rfl) ?_
        refine lv_if_eq (tgt := 83) hx hb d_Pr_guessesWrong_70 (by decide) (fun c70 => ?_) (fun c70 => ?_)
        · refine lv_iload hx hb d_Pr_guessesWrong_83 (lv_at hl 0 rfl) ?_
          exact end_z (u := (sJ σ 5 (upd (cJ σ 5) (x - x / 8 * 8).toNatClampNeg (imin (((cJ σ 5) (x - x / 8 * 8).toNatClampNeg) + 1) 3)))) hx hb hr hlocks hS hP d_Pr_guessesWrong_85 rfl (⟨by revert c12 c21 c37; cases j <;> first | (simp +contextual [gwW, b2i, ix]; done) | (simp +contextual [gwW, b2i, ix]; intro h8 h9; exact absurd h9 (Int32.not_lt.mpr h8)), by revert c12 c21 c37; cases j <;> first | (simp +contextual [gwF, gwW, b2i, ix]; done) | (simp +contextual [gwF, gwW, b2i, ix]; intro h8 h9; exact absurd h9 (Int32.not_lt.mpr h8))⟩)
        · exact absurd rfl c70
    · refine lv_iconst (v := 1) hx hb d_Pr_guessesWrong_24 (by decide) ?_
      refine lv_goto (tgt := 29) hx hb d_Pr_guessesWrong_25 (by decide) ?_
      refine lv_istore (lv' := [(4, .int 1), (3, .int (x - x / 8 * 8)), (0, .ref (gad G 12)), (1, .int x), (2, .int (b2i j))]) hx hb d_Pr_guessesWrong_29 hl (by decide) rfl (fun ls hl => ?_)
      refine lv_aload_n hx hb d_Pr_guessesWrong_31 rfl (lv_at hl 2 rfl) ?_
      refine va_get (D := gD G) (ci := 4) (v := .ref (gad G 13)) (C := R_Pr) (T := F_Pr) (N := 2) hx hb (wl_Pr hT) (fun _ h9 => h9) hown hK hP 12 rfl rfl 1 (by decide) (k_113 hT) (fun _ h9 => h9) rfl d_Pr_guessesWrong_32 ?_
      refine lv_iload_n hx hb d_Pr_guessesWrong_35 rfl (lv_at hl 1 rfl) ?_
      refine lv_iload_n hx hb d_Pr_guessesWrong_36 rfl (lv_at hl 4 rfl) ?_
      refine lv_if_eq (tgt := 55) hx hb d_Pr_guessesWrong_37 (by decide) (fun c37 => ?_) (fun c37 => ?_)
      · have c37 := b2i0 c37
        refine lv_aload_n hx hb d_Pr_guessesWrong_55 rfl (lv_at hl 2 rfl) ?_
        refine va_get (D := gD G) (ci := 4) (v := .ref (gad G 13)) (C := R_Pr) (T := F_Pr) (N := 2) hx hb (wl_Pr hT) (fun _ h9 => h9) hown hK hP 12 rfl rfl 1 (by decide) (k_113 hT) (fun _ h9 => h9) rfl d_Pr_guessesWrong_56 ?_
        refine lv_iload_n hx hb d_Pr_guessesWrong_59 rfl (lv_at hl 1 rfl) ?_
        refine va_iald (f := (cJ σ 5)) hx hb hK hP 13 0 rfl rfl (h) d_Pr_guessesWrong_60 ?_
        refine lv_iconst (v := 1) hx hb d_Pr_guessesWrong_61 (by decide) ?_
        refine lv_isub hx hb d_Pr_guessesWrong_62 ?_
        refine lv_iconst (v := 0) hx hb d_Pr_guessesWrong_63 (by decide) ?_
        refine va_mmax hx hb (by rw [hml]; exact hl.1.symm) hown (k_478 hT) (k_276 hT) (k_16 hT) (k_277 hT) (by decide) (Nat.le_of_ble_eq_true rfl) (by decide) (by decide) d_Pr_guessesWrong_64 ?_
        refine va_iast (f := (cJ σ 5)) hx hb hK hP hD hS 13 0 rfl rfl (h) d_Pr_guessesWrong_67 (fun H locs hP hD hS => ?_)
        have hP : va_P (gD G) classes (cw G (sJ σ 5 (upd (cJ σ 5) (x - x / 8 * 8).toNatClampNeg (imax (((cJ σ 5) (x - x / 8 * 8).toNatClampNeg) - 1) 0)))) H := hP
        have hD : va_D (gA G) (cw G (sJ σ 5 (upd (cJ σ 5) (x - x / 8 * 8).toNatClampNeg (imax (((cJ σ 5) (x - x / 8 * 8).toNatClampNeg) - 1) 0)))) := g.d
        refine lv_iload hx hb d_Pr_guessesWrong_68 (lv_at hl 0 rfl) ?_
        refine lv_if_eq (tgt := 83) hx hb d_Pr_guessesWrong_70 (by decide) (fun c70 => ?_) (fun c70 => ?_)
        · exact absurd c70 (by decide)
        · refine lv_aload_n hx hb d_Pr_guessesWrong_73 rfl (lv_at hl 2 rfl) ?_
          refine lv_dup hx hb d_Pr_guessesWrong_74 rfl ?_
          refine va_get (D := gD G) (ci := 4) (v := .int (cI σ 10)) (C := R_Pr) (T := F_Pr) (N := 2) hx hb (wl_Pr hT) (fun _ h9 => h9) hown hK hP 12 rfl rfl 0 (by decide) (k_111 hT) (fun _ h9 => h9) rfl d_Pr_guessesWrong_75 ?_
          refine lv_iconst (v := 1) hx hb d_Pr_guessesWrong_78 (by decide) ?_
          refine lv_iadd hx hb d_Pr_guessesWrong_79 ?_
          refine va_put (D := gD G) (ci := 4) (v := .int ((cI σ 10) + 1)) (ty := .int) (C := R_Pr) (T := F_Pr) (N := 2) hx hb (wl_Pr hT) (fun _ h9 => h9) fy_Pr fy_Pr_ok fn_Pr hown hK hP hD hS 12 rfl rfl 0 (by decide) (k_111 hT) (fun _ h9 => h9) rfl (by decide +kernel) rfl rfl (Nat.le_of_ble_eq_true rfl) d_Pr_guessesWrong_80 (fun H locs hP hD hS => ?_)
          have hP : va_P (gD G) classes (cw G (sI (sJ σ 5 (upd (cJ σ 5) (x - x / 8 * 8).toNatClampNeg (imax (((cJ σ 5) (x - x / 8 * 8).toNatClampNeg) - 1) 0))) 10 ((cI σ 10) + 1))) H := hP
          have hD : va_D (gA G) (cw G (sI (sJ σ 5 (upd (cJ σ 5) (x - x / 8 * 8).toNatClampNeg (imax (((cJ σ 5) (x - x / 8 * 8).toNatClampNeg) - 1) 0))) 10 ((cI σ 10) + 1))) := g.d
          refine lv_iload hx hb d_Pr_guessesWrong_83 (lv_at hl 0 rfl) ?_
          exact end_z (u := (sI (sJ σ 5 (upd (cJ σ 5) (x - x / 8 * 8).toNatClampNeg (imax (((cJ σ 5) (x - x / 8 * 8).toNatClampNeg) - 1) 0))) 10 ((cI σ 10) + 1))) hx hb hr hlocks hS hP d_Pr_guessesWrong_85 rfl (⟨by revert c12 c21 c37; cases j <;> first | (simp +contextual [gwW, b2i, ix]; done) | (simp +contextual [gwW, b2i, ix]; intro h8 h9; exact absurd h9 (Int32.not_lt.mpr h8)), by revert c12 c21 c37; cases j <;> first | (simp +contextual [gwF, gwW, b2i, ix]; done) | (simp +contextual [gwF, gwW, b2i, ix]; intro h8 h9; exact absurd h9 (Int32.not_lt.mpr h8))⟩)
      · have c37 := b2i1 c37
        refine lv_aload_n hx hb d_Pr_guessesWrong_40 rfl (lv_at hl 2 rfl) ?_
        refine va_get (D := gD G) (ci := 4) (v := .ref (gad G 13)) (C := R_Pr) (T := F_Pr) (N := 2) hx hb (wl_Pr hT) (fun _ h9 => h9) hown hK hP 12 rfl rfl 1 (by decide) (k_113 hT) (fun _ h9 => h9) rfl d_Pr_guessesWrong_41 ?_
        refine lv_iload_n hx hb d_Pr_guessesWrong_44 rfl (lv_at hl 1 rfl) ?_
        refine va_iald (f := (cJ σ 5)) hx hb hK hP 13 0 rfl rfl (h) d_Pr_guessesWrong_45 ?_
        refine lv_iconst (v := 1) hx hb d_Pr_guessesWrong_46 (by decide) ?_
        refine lv_iadd hx hb d_Pr_guessesWrong_47 ?_
        refine lv_iconst (v := 3) hx hb d_Pr_guessesWrong_48 (by decide) ?_
        refine va_mmin hx hb (by rw [hml]; exact hl.1.symm) hown (k_475 hT) (k_476 hT) (k_16 hT) (k_477 hT) (by decide) (Nat.le_of_ble_eq_true rfl) (by decide) (by decide) d_Pr_guessesWrong_49 ?_
        refine lv_goto (tgt := 67) hx hb d_Pr_guessesWrong_52 (by decide) ?_
        refine va_iast (f := (cJ σ 5)) hx hb hK hP hD hS 13 0 rfl rfl (h) d_Pr_guessesWrong_67 (fun H locs hP hD hS => ?_)
        have hP : va_P (gD G) classes (cw G (sJ σ 5 (upd (cJ σ 5) (x - x / 8 * 8).toNatClampNeg (imin (((cJ σ 5) (x - x / 8 * 8).toNatClampNeg) + 1) 3)))) H := hP
        have hD : va_D (gA G) (cw G (sJ σ 5 (upd (cJ σ 5) (x - x / 8 * 8).toNatClampNeg (imin (((cJ σ 5) (x - x / 8 * 8).toNatClampNeg) + 1) 3)))) := g.d
        refine lv_iload hx hb d_Pr_guessesWrong_68 (lv_at hl 0 rfl) ?_
        refine lv_if_eq (tgt := 83) hx hb d_Pr_guessesWrong_70 (by decide) (fun c70 => ?_) (fun c70 => ?_)
        · exact absurd c70 (by decide)
        · refine lv_aload_n hx hb d_Pr_guessesWrong_73 rfl (lv_at hl 2 rfl) ?_
          refine lv_dup hx hb d_Pr_guessesWrong_74 rfl ?_
          refine va_get (D := gD G) (ci := 4) (v := .int (cI σ 10)) (C := R_Pr) (T := F_Pr) (N := 2) hx hb (wl_Pr hT) (fun _ h9 => h9) hown hK hP 12 rfl rfl 0 (by decide) (k_111 hT) (fun _ h9 => h9) rfl d_Pr_guessesWrong_75 ?_
          refine lv_iconst (v := 1) hx hb d_Pr_guessesWrong_78 (by decide) ?_
          refine lv_iadd hx hb d_Pr_guessesWrong_79 ?_
          refine va_put (D := gD G) (ci := 4) (v := .int ((cI σ 10) + 1)) (ty := .int) (C := R_Pr) (T := F_Pr) (N := 2) hx hb (wl_Pr hT) (fun _ h9 => h9) fy_Pr fy_Pr_ok fn_Pr hown hK hP hD hS 12 rfl rfl 0 (by decide) (k_111 hT) (fun _ h9 => h9) rfl (by decide +kernel) rfl rfl (Nat.le_of_ble_eq_true rfl) d_Pr_guessesWrong_80 (fun H locs hP hD hS => ?_)
          have hP : va_P (gD G) classes (cw G (sI (sJ σ 5 (upd (cJ σ 5) (x - x / 8 * 8).toNatClampNeg (imin (((cJ σ 5) (x - x / 8 * 8).toNatClampNeg) + 1) 3))) 10 ((cI σ 10) + 1))) H := hP
          have hD : va_D (gA G) (cw G (sI (sJ σ 5 (upd (cJ σ 5) (x - x / 8 * 8).toNatClampNeg (imin (((cJ σ 5) (x - x / 8 * 8).toNatClampNeg) + 1) 3))) 10 ((cI σ 10) + 1))) := g.d
          refine lv_iload hx hb d_Pr_guessesWrong_83 (lv_at hl 0 rfl) ?_
          exact end_z (u := (sI (sJ σ 5 (upd (cJ σ 5) (x - x / 8 * 8).toNatClampNeg (imin (((cJ σ 5) (x - x / 8 * 8).toNatClampNeg) + 1) 3))) 10 ((cI σ 10) + 1))) hx hb hr hlocks hS hP d_Pr_guessesWrong_85 rfl (⟨by revert c12 c21 c37; cases j <;> first | (simp +contextual [gwW, b2i, ix]; done) | (simp +contextual [gwW, b2i, ix]; intro h8 h9; exact absurd h9 (Int32.not_lt.mpr h8)), by revert c12 c21 c37; cases j <;> first | (simp +contextual [gwF, gwW, b2i, ix]; done) | (simp +contextual [gwF, gwW, b2i, ix]; intro h8 h9; exact absurd h9 (Int32.not_lt.mpr h8))⟩)
  · refine lv_iconst (v := 1) hx hb d_Pr_guessesWrong_15 (by decide) ?_
    refine lv_goto (tgt := 20) hx hb d_Pr_guessesWrong_16 (by decide) ?_
    refine lv_iload_n hx hb d_Pr_guessesWrong_20 rfl (lv_at hl 3 rfl) ?_
    refine lv_icmp_eq (tgt := 28) hx hb d_Pr_guessesWrong_21 (by decide) (fun c21 => ?_) (fun c21 => ?_)
    · refine lv_iconst (v := 0) hx hb d_Pr_guessesWrong_28 (by decide) ?_
      refine lv_istore (lv' := [(4, .int 0), (3, .int (x - x / 8 * 8)), (0, .ref (gad G 12)), (1, .int x), (2, .int (b2i j))]) hx hb d_Pr_guessesWrong_29 hl (by decide) rfl (fun ls hl => ?_)
      refine lv_aload_n hx hb d_Pr_guessesWrong_31 rfl (lv_at hl 2 rfl) ?_
      refine va_get (D := gD G) (ci := 4) (v := .ref (gad G 13)) (C := R_Pr) (T := F_Pr) (N := 2) hx hb (wl_Pr hT) (fun _ h9 => h9) hown hK hP 12 rfl rfl 1 (by decide) (k_113 hT) (fun _ h9 => h9) rfl d_Pr_guessesWrong_32 ?_
      refine lv_iload_n hx hb d_Pr_guessesWrong_35 rfl (lv_at hl 1 rfl) ?_
      refine lv_iload_n hx hb d_Pr_guessesWrong_36 rfl (lv_at hl 4 rfl) ?_
      refine lv_if_eq (tgt := 55) hx hb d_Pr_guessesWrong_37 (by decide) (fun c37 => ?_) (fun c37 => ?_)
      · have c37 := b2i0 c37
        refine lv_aload_n hx hb d_Pr_guessesWrong_55 rfl (lv_at hl 2 rfl) ?_
        refine va_get (D := gD G) (ci := 4) (v := .ref (gad G 13)) (C := R_Pr) (T := F_Pr) (N := 2) hx hb (wl_Pr hT) (fun _ h9 => h9) hown hK hP 12 rfl rfl 1 (by decide) (k_113 hT) (fun _ h9 => h9) rfl d_Pr_guessesWrong_56 ?_
        refine lv_iload_n hx hb d_Pr_guessesWrong_59 rfl (lv_at hl 1 rfl) ?_
        refine va_iald (f := (cJ σ 5)) hx hb hK hP 13 0 rfl rfl (h) d_Pr_guessesWrong_60 ?_
        refine lv_iconst (v := 1) hx hb d_Pr_guessesWrong_61 (by decide) ?_
        refine lv_isub hx hb d_Pr_guessesWrong_62 ?_
        refine lv_iconst (v := 0) hx hb d_Pr_guessesWrong_63 (by decide) ?_
        refine va_mmax hx hb (by rw [hml]; exact hl.1.symm) hown (k_478 hT) (k_276 hT) (k_16 hT) (k_277 hT) (by decide) (Nat.le_of_ble_eq_true rfl) (by decide) (by decide) d_Pr_guessesWrong_64 ?_
        refine va_iast (f := (cJ σ 5)) hx hb hK hP hD hS 13 0 rfl rfl (h) d_Pr_guessesWrong_67 (fun H locs hP hD hS => ?_)
        have hP : va_P (gD G) classes (cw G (sJ σ 5 (upd (cJ σ 5) (x - x / 8 * 8).toNatClampNeg (imax (((cJ σ 5) (x - x / 8 * 8).toNatClampNeg) - 1) 0)))) H := hP
        have hD : va_D (gA G) (cw G (sJ σ 5 (upd (cJ σ 5) (x - x / 8 * 8).toNatClampNeg (imax (((cJ σ 5) (x - x / 8 * 8).toNatClampNeg) - 1) 0)))) := g.d
        refine lv_iload hx hb d_Pr_guessesWrong_68 (lv_at hl 0 rfl) ?_
        refine lv_if_eq (tgt := 83) hx hb d_Pr_guessesWrong_70 (by decide) (fun c70 => ?_) (fun c70 => ?_)
        · refine lv_iload hx hb d_Pr_guessesWrong_83 (lv_at hl 0 rfl) ?_
          exact end_z (u := (sJ σ 5 (upd (cJ σ 5) (x - x / 8 * 8).toNatClampNeg (imax (((cJ σ 5) (x - x / 8 * 8).toNatClampNeg) - 1) 0)))) hx hb hr hlocks hS hP d_Pr_guessesWrong_85 rfl (⟨by revert c12 c21 c37; cases j <;> first | (simp +contextual [gwW, b2i, ix]; done) | (simp +contextual [gwW, b2i, ix]; intro h8 h9; exact absurd h9 (Int32.not_lt.mpr h8)), by revert c12 c21 c37; cases j <;> first | (simp +contextual [gwF, gwW, b2i, ix]; done) | (simp +contextual [gwF, gwW, b2i, ix]; intro h8 h9; exact absurd h9 (Int32.not_lt.mpr h8))⟩)
        · exact absurd rfl c70
      · have c37 := b2i1 c37
        refine lv_aload_n hx hb d_Pr_guessesWrong_40 rfl (lv_at hl 2 rfl) ?_
        refine va_get (D := gD G) (ci := 4) (v := .ref (gad G 13)) (C := R_Pr) (T := F_Pr) (N := 2) hx hb (wl_Pr hT) (fun _ h9 => h9) hown hK hP 12 rfl rfl 1 (by decide) (k_113 hT) (fun _ h9 => h9) rfl d_Pr_guessesWrong_41 ?_
        refine lv_iload_n hx hb d_Pr_guessesWrong_44 rfl (lv_at hl 1 rfl) ?_
        refine va_iald (f := (cJ σ 5)) hx hb hK hP 13 0 rfl rfl (h) d_Pr_guessesWrong_45 ?_
        refine lv_iconst (v := 1) hx hb d_Pr_guessesWrong_46 (by decide) ?_
        refine lv_iadd hx hb d_Pr_guessesWrong_47 ?_
        refine lv_iconst (v := 3) hx hb d_Pr_guessesWrong_48 (by decide) ?_
        refine va_mmin hx hb (by rw [hml]; exact hl.1.symm) hown (k_475 hT) (k_476 hT) (k_16 hT) (k_477 hT) (by decide) (Nat.le_of_ble_eq_true rfl) (by decide) (by decide) d_Pr_guessesWrong_49 ?_
        refine lv_goto (tgt := 67) hx hb d_Pr_guessesWrong_52 (by decide) ?_
        refine va_iast (f := (cJ σ 5)) hx hb hK hP hD hS 13 0 rfl rfl (h) d_Pr_guessesWrong_67 (fun H locs hP hD hS => ?_)
        have hP : va_P (gD G) classes (cw G (sJ σ 5 (upd (cJ σ 5) (x - x / 8 * 8).toNatClampNeg (imin (((cJ σ 5) (x - x / 8 * 8).toNatClampNeg) + 1) 3)))) H := hP
        have hD : va_D (gA G) (cw G (sJ σ 5 (upd (cJ σ 5) (x - x / 8 * 8).toNatClampNeg (imin (((cJ σ 5) (x - x / 8 * 8).toNatClampNeg) + 1) 3)))) := g.d
        refine lv_iload hx hb d_Pr_guessesWrong_68 (lv_at hl 0 rfl) ?_
        refine lv_if_eq (tgt := 83) hx hb d_Pr_guessesWrong_70 (by decide) (fun c70 => ?_) (fun c70 => ?_)
        · refine lv_iload hx hb d_Pr_guessesWrong_83 (lv_at hl 0 rfl) ?_
          exact end_z (u := (sJ σ 5 (upd (cJ σ 5) (x - x / 8 * 8).toNatClampNeg (imin (((cJ σ 5) (x - x / 8 * 8).toNatClampNeg) + 1) 3)))) hx hb hr hlocks hS hP d_Pr_guessesWrong_85 rfl (⟨by revert c12 c21 c37; cases j <;> first | (simp +contextual [gwW, b2i, ix]; done) | (simp +contextual [gwW, b2i, ix]; intro h8 h9; exact absurd h9 (Int32.not_lt.mpr h8)), by revert c12 c21 c37; cases j <;> first | (simp +contextual [gwF, gwW, b2i, ix]; done) | (simp +contextual [gwF, gwW, b2i, ix]; intro h8 h9; exact absurd h9 (Int32.not_lt.mpr h8))⟩)
        · exact absurd rfl c70
    · refine lv_iconst (v := 1) hx hb d_Pr_guessesWrong_24 (by decide) ?_
      refine lv_goto (tgt := 29) hx hb d_Pr_guessesWrong_25 (by decide) ?_
      refine lv_istore (lv' := [(4, .int 1), (3, .int (x - x / 8 * 8)), (0, .ref (gad G 12)), (1, .int x), (2, .int (b2i j))]) hx hb d_Pr_guessesWrong_29 hl (by decide) rfl (fun ls hl => ?_)
      refine lv_aload_n hx hb d_Pr_guessesWrong_31 rfl (lv_at hl 2 rfl) ?_
      refine va_get (D := gD G) (ci := 4) (v := .ref (gad G 13)) (C := R_Pr) (T := F_Pr) (N := 2) hx hb (wl_Pr hT) (fun _ h9 => h9) hown hK hP 12 rfl rfl 1 (by decide) (k_113 hT) (fun _ h9 => h9) rfl d_Pr_guessesWrong_32 ?_
      refine lv_iload_n hx hb d_Pr_guessesWrong_35 rfl (lv_at hl 1 rfl) ?_
      refine lv_iload_n hx hb d_Pr_guessesWrong_36 rfl (lv_at hl 4 rfl) ?_
      refine lv_if_eq (tgt := 55) hx hb d_Pr_guessesWrong_37 (by decide) (fun c37 => ?_) (fun c37 => ?_)
      · have c37 := b2i0 c37
        refine lv_aload_n hx hb d_Pr_guessesWrong_55 rfl (lv_at hl 2 rfl) ?_
        refine va_get (D := gD G) (ci := 4) (v := .ref (gad G 13)) (C := R_Pr) (T := F_Pr) (N := 2) hx hb (wl_Pr hT) (fun _ h9 => h9) hown hK hP 12 rfl rfl 1 (by decide) (k_113 hT) (fun _ h9 => h9) rfl d_Pr_guessesWrong_56 ?_
        refine lv_iload_n hx hb d_Pr_guessesWrong_59 rfl (lv_at hl 1 rfl) ?_
        refine va_iald (f := (cJ σ 5)) hx hb hK hP 13 0 rfl rfl (h) d_Pr_guessesWrong_60 ?_
        refine lv_iconst (v := 1) hx hb d_Pr_guessesWrong_61 (by decide) ?_
        refine lv_isub hx hb d_Pr_guessesWrong_62 ?_
        refine lv_iconst (v := 0) hx hb d_Pr_guessesWrong_63 (by decide) ?_
        refine va_mmax hx hb (by rw [hml]; exact hl.1.symm) hown (k_478 hT) (k_276 hT) (k_16 hT) (k_277 hT) (by decide) (Nat.le_of_ble_eq_true rfl) (by decide) (by decide) d_Pr_guessesWrong_64 ?_
        refine va_iast (f := (cJ σ 5)) hx hb hK hP hD hS 13 0 rfl rfl (h) d_Pr_guessesWrong_67 (fun H locs hP hD hS => ?_)
        have hP : va_P (gD G) classes (cw G (sJ σ 5 (upd (cJ σ 5) (x - x / 8 * 8).toNatClampNeg (imax (((cJ σ 5) (x - x / 8 * 8).toNatClampNeg) - 1) 0)))) H := hP
        have hD : va_D (gA G) (cw G (sJ σ 5 (upd (cJ σ 5) (x - x / 8 * 8).toNatClampNeg (imax (((cJ σ 5) (x - x / 8 * 8).toNatClampNeg) - 1) 0)))) := g.d
        refine lv_iload hx hb d_Pr_guessesWrong_68 (lv_at hl 0 rfl) ?_
        refine lv_if_eq (tgt := 83) hx hb d_Pr_guessesWrong_70 (by decide) (fun c70 => ?_) (fun c70 => ?_)
        · exact absurd c70 (by decide)
        · refine lv_aload_n hx hb d_Pr_guessesWrong_73 rfl (lv_at hl 2 rfl) ?_
          refine lv_dup hx hb d_Pr_guessesWrong_74 rfl ?_
          refine va_get (D := gD G) (ci := 4) (v := .int (cI σ 10)) (C := R_Pr) (T := F_Pr) (N := 2) hx hb (wl_Pr hT) (fun _ h9 => h9) hown hK hP 12 rfl rfl 0 (by decide) (k_111 hT) (fun _ h9 => h9) rfl d_Pr_guessesWrong_75 ?_
          refine lv_iconst (v := 1) hx hb d_Pr_guessesWrong_78 (by decide) ?_
          refine lv_iadd hx hb d_Pr_guessesWrong_79 ?_
          refine va_put (D := gD G) (ci := 4) (v := .int ((cI σ 10) + 1)) (ty := .int) (C := R_Pr) (T := F_Pr) (N := 2) hx hb (wl_Pr hT) (fun _ h9 => h9) fy_Pr fy_Pr_ok fn_Pr hown hK hP hD hS 12 rfl rfl 0 (by decide) (k_111 hT) (fun _ h9 => h9) rfl (by decide +kernel) rfl rfl (Nat.le_of_ble_eq_true rfl) d_Pr_guessesWrong_80 (fun H locs hP hD hS => ?_)
          have hP : va_P (gD G) classes (cw G (sI (sJ σ 5 (upd (cJ σ 5) (x - x / 8 * 8).toNatClampNeg (imax (((cJ σ 5) (x - x / 8 * 8).toNatClampNeg) - 1) 0))) 10 ((cI σ 10) + 1))) H := hP
          have hD : va_D (gA G) (cw G (sI (sJ σ 5 (upd (cJ σ 5) (x - x / 8 * 8).toNatClampNeg (imax (((cJ σ 5) (x - x / 8 * 8).toNatClampNeg) - 1) 0))) 10 ((cI σ 10) + 1))) := g.d
          refine lv_iload hx hb d_Pr_guessesWrong_83 (lv_at hl 0 rfl) ?_
          exact end_z (u := (sI (sJ σ 5 (upd (cJ σ 5) (x - x / 8 * 8).toNatClampNeg (imax (((cJ σ 5) (x - x / 8 * 8).toNatClampNeg) - 1) 0))) 10 ((cI σ 10) + 1))) hx hb hr hlocks hS hP d_Pr_guessesWrong_85 rfl (⟨by revert c12 c21 c37; cases j <;> first | (simp +contextual [gwW, b2i, ix]; done) | (simp +contextual [gwW, b2i, ix]; intro h8 h9; exact absurd h9 (Int32.not_lt.mpr h8)), by revert c12 c21 c37; cases j <;> first | (simp +contextual [gwF, gwW, b2i, ix]; done) | (simp +contextual [gwF, gwW, b2i, ix]; intro h8 h9; exact absurd h9 (Int32.not_lt.mpr h8))⟩)
      · have c37 := b2i1 c37
        refine lv_aload_n hx hb d_Pr_guessesWrong_40 rfl (lv_at hl 2 rfl) ?_
        refine va_get (D := gD G) (ci := 4) (v := .ref (gad G 13)) (C := R_Pr) (T := F_Pr) (N := 2) hx hb (wl_Pr hT) (fun _ h9 => h9) hown hK hP 12 rfl rfl 1 (by decide) (k_113 hT) (fun _ h9 => h9) rfl d_Pr_guessesWrong_41 ?_
        refine lv_iload_n hx hb d_Pr_guessesWrong_44 rfl (lv_at hl 1 rfl) ?_
        refine va_iald (f := (cJ σ 5)) hx hb hK hP 13 0 rfl rfl (h) d_Pr_guessesWrong_45 ?_
        refine lv_iconst (v := 1) hx hb d_Pr_guessesWrong_46 (by decide) ?_
        refine lv_iadd hx hb d_Pr_guessesWrong_47 ?_
        refine lv_iconst (v := 3) hx hb d_Pr_guessesWrong_48 (by decide) ?_
        refine va_mmin hx hb (by rw [hml]; exact hl.1.symm) hown (k_475 hT) (k_476 hT) (k_16 hT) (k_477 hT) (by decide) (Nat.le_of_ble_eq_true rfl) (by decide) (by decide) d_Pr_guessesWrong_49 ?_
        refine lv_goto (tgt := 67) hx hb d_Pr_guessesWrong_52 (by decide) ?_
        refine va_iast (f := (cJ σ 5)) hx hb hK hP hD hS 13 0 rfl rfl (h) d_Pr_guessesWrong_67 (fun H locs hP hD hS => ?_)
        have hP : va_P (gD G) classes (cw G (sJ σ 5 (upd (cJ σ 5) (x - x / 8 * 8).toNatClampNeg (imin (((cJ σ 5) (x - x / 8 * 8).toNatClampNeg) + 1) 3)))) H := hP
        have hD : va_D (gA G) (cw G (sJ σ 5 (upd (cJ σ 5) (x - x / 8 * 8).toNatClampNeg (imin (((cJ σ 5) (x - x / 8 * 8).toNatClampNeg) + 1) 3)))) := g.d
        refine lv_iload hx hb d_Pr_guessesWrong_68 (lv_at hl 0 rfl) ?_
        refine lv_if_eq (tgt := 83) hx hb d_Pr_guessesWrong_70 (by decide) (fun c70 => ?_) (fun c70 => ?_)
        · exact absurd c70 (by decide)
        · refine lv_aload_n hx hb d_Pr_guessesWrong_73 rfl (lv_at hl 2 rfl) ?_
          refine lv_dup hx hb d_Pr_guessesWrong_74 rfl ?_
          refine va_get (D := gD G) (ci := 4) (v := .int (cI σ 10)) (C := R_Pr) (T := F_Pr) (N := 2) hx hb (wl_Pr hT) (fun _ h9 => h9) hown hK hP 12 rfl rfl 0 (by decide) (k_111 hT) (fun _ h9 => h9) rfl d_Pr_guessesWrong_75 ?_
          refine lv_iconst (v := 1) hx hb d_Pr_guessesWrong_78 (by decide) ?_
          refine lv_iadd hx hb d_Pr_guessesWrong_79 ?_
          refine va_put (D := gD G) (ci := 4) (v := .int ((cI σ 10) + 1)) (ty := .int) (C := R_Pr) (T := F_Pr) (N := 2) hx hb (wl_Pr hT) (fun _ h9 => h9) fy_Pr fy_Pr_ok fn_Pr hown hK hP hD hS 12 rfl rfl 0 (by decide) (k_111 hT) (fun _ h9 => h9) rfl (by decide +kernel) rfl rfl (Nat.le_of_ble_eq_true rfl) d_Pr_guessesWrong_80 (fun H locs hP hD hS => ?_)
          have hP : va_P (gD G) classes (cw G (sI (sJ σ 5 (upd (cJ σ 5) (x - x / 8 * 8).toNatClampNeg (imin (((cJ σ 5) (x - x / 8 * 8).toNatClampNeg) + 1) 3))) 10 ((cI σ 10) + 1))) H := hP
          have hD : va_D (gA G) (cw G (sI (sJ σ 5 (upd (cJ σ 5) (x - x / 8 * 8).toNatClampNeg (imin (((cJ σ 5) (x - x / 8 * 8).toNatClampNeg) + 1) 3))) 10 ((cI σ 10) + 1))) := g.d
          refine lv_iload hx hb d_Pr_guessesWrong_83 (lv_at hl 0 rfl) ?_
          exact end_z (u := (sI (sJ σ 5 (upd (cJ σ 5) (x - x / 8 * 8).toNatClampNeg (imin (((cJ σ 5) (x - x / 8 * 8).toNatClampNeg) + 1) 3))) 10 ((cI σ 10) + 1))) hx hb hr hlocks hS hP d_Pr_guessesWrong_85 rfl (⟨by revert c12 c21 c37; cases j <;> first | (simp +contextual [gwW, b2i, ix]; done) | (simp +contextual [gwW, b2i, ix]; intro h8 h9; exact absurd h9 (Int32.not_lt.mpr h8)), by revert c12 c21 c37; cases j <;> first | (simp +contextual [gwF, gwW, b2i, ix]; done) | (simp +contextual [gwF, gwW, b2i, ix]; intro h8 h9; exact absurd h9 (Int32.not_lt.mpr h8))⟩)

set_option maxHeartbeats 4000000 in
set_option maxRecDepth 100000 in
theorem K_Ck_readyTime {l : Launch} {G : GT} (g : GOK l G) (σ : CS) (r : Int32) (h : r = -1 ∨ vp_in r 12) : cx_M l y_Ck_readyTime (.code y_Ck_readyTime b_Ck_readyTime 2 (some .int)) 0 0 (gA G) [.ref (gad G 5), .int r] (Cw G σ) (Ri G (fun k u => k = rtF σ r ∧ u = σ)) (Tn) := by
  refine cx_of (by decide +kernel) ?_
  intro p e s m below meth c s₁ B hml ht hc
  have hx := B.exec
  have hb := B.bytes
  have hr := B.returns
  have hown : s.vm.findClass R_Ck = some m.cls := findClass_of_methodNamed B.named
  have hlocks := B.notSynchronized
  have hT := g.tb hc
  have hK := g.k hc
  have hD := g.d (σ := σ)
  have hS : va_S (gA G) s.heap s.heap [] := va_S.rf
  have hP := hc.2.2
  have hl := lv_entry ([.ref (gad G 5), .int r]) (n := 2) (Nat.le_of_ble_eq_true rfl)
  rw [lg_entry_eq]
  generalize (lg_sl ([.ref (gad G 5), .int r]) ++ List.replicate (2 - (lg_sl ([.ref (gad G 5), .int r])).length) Slot.unset).toArray = ls at hl ⊢
  have hl : lv_has ls 2 [(0, .ref (gad G 5)), (1, .int r)] := hl
  refine lv_iload_n hx hb d_Ck_readyTime_0 rfl (lv_at hl 1 rfl) ?_
  refine lv_iconst (v := (-1)) hx hb d_Ck_readyTime_1 (by decide) ?_
  refine lv_icmp_ne (tgt := 9) hx hb d_Ck_readyTime_2 (by decide) (fun c2 => ?_) (fun c2 => ?_)
  · refine lv_aload_n hx hb d_Ck_readyTime_9 rfl (lv_at hl 0 rfl) ?_
    refine va_get (D := gD G) (ci := 0) (v := .ref (gad G 6)) (C := R_Ck) (T := F_Ck) (N := 5) hx hb (wl_Ck hT) (fun _ h9 => h9) hown hK hP 5 rfl rfl 0 (by decide) (k_34 hT) (fun _ h9 => h9) rfl d_Ck_readyTime_10 ?_
    refine lv_iload_n hx hb d_Ck_readyTime_13 rfl (lv_at hl 1 rfl) ?_
    refine va_iald (f := (cJ σ 1)) hx hb hK hP 6 0 rfl rfl (h.resolve_left c2) d_Ck_readyTime_14 ?_
    exact end_i (u := σ) hx hb hr hlocks hS hP d_Ck_readyTime_15 (⟨by simp [rtF, ix, c2], rfl⟩)
  · refine lv_iconst (v := 0) hx hb d_Ck_readyTime_5 (by decide) ?_
    refine lv_goto (tgt := 15) hx hb d_Ck_readyTime_6 (by decide) ?_
    exact end_i (u := σ) hx hb hr hlocks hS hP d_Ck_readyTime_15 (⟨by simp [rtF, ix, c2], rfl⟩)

set_option maxHeartbeats 4000000 in
set_option maxRecDepth 100000 in
theorem K_Ck_beginning {l : Launch} {G : GT} (g : GOK l G) (σ : CS) {i : Nat} (hi : i < 24) (h : okQ (cQ σ i)) (lat : Int32) (gm : Bool) : cx_M l y_Ck_beginning (.code y_Ck_beginning b_Ck_beginning 5 (some .int)) 1 21 (gA G) [.ref (gad G 5), .ref (gia G i), .int lat, .int (b2i gm)] (Cw G σ) (Ri G (fun r u => r = bgF σ (cQ σ i) lat gm ∧ u = σ)) (Tn) := by
  refine cx_of (by decide +kernel) ?_
  intro p e s m below meth c s₁ B hml ht hc
  have hx := B.exec
  have hb := B.bytes
  have hr := B.returns
  have hown : s.vm.findClass R_Ck = some m.cls := findClass_of_methodNamed B.named
  have hlocks := B.notSynchronized
  have hT := g.tb hc
  have hK := g.k hc
  have hD := g.d (σ := σ)
  have hS : va_S (gA G) s.heap s.heap [] := va_S.rf
  have hP := hc.2.2
  have hl := lv_entry ([.ref (gad G 5), .ref (gia G i), .int lat, .int (b2i gm)]) (n := 5) (Nat.le_of_ble_eq_true rfl)
  rw [lg_entry_eq]
  generalize (lg_sl ([.ref (gad G 5), .ref (gia G i), .int lat, .int (b2i gm)]) ++ List.replicate (5 - (lg_sl ([.ref (gad G 5), .ref (gia G i), .int lat, .int (b2i gm)])).length) Slot.unset).toArray = ls at hl ⊢
  have hl : lv_has ls 5 [(0, .ref (gad G 5)), (1, .ref (gia G i)), (2, .int lat), (3, .int (b2i gm))] := hl
  refine lv_aload_n hx hb d_Ck_beginning_0 rfl (lv_at hl 0 rfl) ?_
  refine va_get (D := gD G) (ci := 0) (v := .int (cI σ 3)) (C := R_Ck) (T := F_Ck) (N := 5) hx hb (wl_Ck hT) (fun _ h9 => h9) hown hK hP 5 rfl rfl 1 (by decide) (k_36 hT) (fun _ h9 => h9) rfl d_Ck_beginning_1 ?_
  refine lv_iconst (v := 1) hx hb d_Ck_beginning_4 (by decide) ?_
  refine lv_iadd hx hb d_Ck_beginning_5 ?_
  refine lv_iload_n hx hb d_Ck_beginning_6 rfl (lv_at hl 3 rfl) ?_
  refine W_tern (a := 4) (b := 0) (L := 14) (J := 15) hx hb d_Ck_beginning_7 (by decide) d_Ck_beginning_10 (by decide) d_Ck_beginning_11 (by decide) d_Ck_beginning_14 (by decide) rfl ?_
  refine lv_iadd hx hb d_Ck_beginning_15 ?_
  refine lv_aload_n hx hb d_Ck_beginning_16 rfl (lv_at hl 0 rfl) ?_
  refine va_get (D := gD G) (ci := 0) (v := .int (cI σ 6)) (C := R_Ck) (T := F_Ck) (N := 5) hx hb (wl_Ck hT) (fun _ h9 => h9) hown hK hP 5 rfl rfl 4 (by decide) (k_40 hT) (fun _ h9 => h9) rfl d_Ck_beginning_17 ?_
  refine W_tern (a := 2) (b := 0) (L := 27) (J := 28) hx hb d_Ck_beginning_20 (by decide) d_Ck_beginning_23 (by decide) d_Ck_beginning_24 (by decide) d_Ck_beginning_27 (by decide) rfl ?_
  refine lv_iadd hx hb d_Ck_beginning_28 ?_
  refine lv_istore (lv' := [(4, .int ((((cI σ 3) + 1) + (if (b2i gm) = 0 then 0 else 4)) + (if (cI σ 6) = 0 then 0 else 2))), (0, .ref (gad G 5)), (1, .ref (gia G i)), (2, .int lat), (3, .int (b2i gm))]) hx hb d_Ck_beginning_29 hl (by decide) rfl (fun ls hl => ?_)
  refine lv_iload hx hb d_Ck_beginning_31 (lv_at hl 0 rfl) ?_
  refine lv_aload_n hx hb d_Ck_beginning_33 rfl (lv_at hl 1 rfl) ?_
  refine lv_aload_n hx hb d_Ck_beginning_34 rfl (lv_at hl 2 rfl) ?_
  refine va_get (D := gD G) (ci := 3) (v := .int (cQ σ i 6)) (C := R_In) (T := F_In) (N := 8) hx hb (wl_In hT) (fun _ h9 => h9) hown hK hP (19 + i) (cw_in hi) rfl 6 (by decide) (k_159 hT) (fun _ h9 => h9) rfl d_Ck_beginning_35 ?_
  refine cx_V (n := 1) (C := R_Ck) (As := [.int (cQ σ i 6)]) (rest := [.int ((((cI σ 3) + 1) + (if (b2i gm) = 0 then 0 else 4)) + (if (cI σ 6) = 0 then 0 else 2))]) ⟨hx, hb, hml, hown, fun _ h9 => nomatch h9⟩ (K_Ck_readyTime g σ (cQ σ i 6) h.2.2.2.2.2.1) (k_525 hT) (k_527 hT) (ks_17 hT) (k_528 hT) (k_2 hT) rfl (by decide +kernel) (va_recv hK hP (ci := 0) (q0 := 5) rfl rfl) (hc.at g hS hP) ⟨by decide, by decide⟩ ⟨by decide, by decide⟩ hl.1 (Nat.le_of_ble_eq_true rfl) d_Ck_beginning_38 (fun _ h9 => h9) hS (fun _ _ _ _ _ _ _ h9 => h9.elim) (fun v t H locs ht9 hRt hz hk hS => ?_)
  obtain ⟨r, u, rfl, ⟨er, eu⟩, hP⟩ := hRt
  subst er
  rw [eu, ht9] at hP
  have hD : va_D (gA G) (cw G σ) := g.d
  refine W.eq (g2 := F0 m 41 ls [.int (rtF σ (cQ σ i 6)), .int ((((cI σ 3) + 1) + (if (b2i gm) = 0 then 0 else 4)) + (if (cI σ 6) = 0 then 0 else 2))]) rfl ?_
  refine va_mmax hx hb (by rw [hml]; exact hl.1.symm) hown (k_529 hT) (k_276 hT) (k_16 hT) (k_277 hT) (by decide) (Nat.le_of_ble_eq_true rfl) (by decide) (by decide) d_Ck_beginning_41 ?_
  refine lv_istore (lv' := [(4, .int (imax ((((cI σ 3) + 1) + (if (b2i gm) = 0 then 0 else 4)) + (if (cI σ 6) = 0 then 0 else 2)) (rtF σ (cQ σ i 6)))), (0, .ref (gad G 5)), (1, .ref (gia G i)), (2, .int lat), (3, .int (b2i gm))]) hx hb d_Ck_beginning_44 hl (by decide) rfl (fun ls hl => ?_)
  refine lv_iload hx hb d_Ck_beginning_46 (lv_at hl 0 rfl) ?_
  refine lv_aload_n hx hb d_Ck_beginning_48 rfl (lv_at hl 1 rfl) ?_
  refine lv_aload_n hx hb d_Ck_beginning_49 rfl (lv_at hl 2 rfl) ?_
  refine va_get (D := gD G) (ci := 3) (v := .int (cQ σ i 7)) (C := R_In) (T := F_In) (N := 8) hx hb (wl_In hT) (fun _ h9 => h9) hown hK hP (19 + i) (cw_in hi) rfl 7 (by decide) (k_161 hT) (fun _ h9 => h9) rfl d_Ck_beginning_50 ?_
  refine cx_V (n := 1) (C := R_Ck) (As := [.int (cQ σ i 7)]) (rest := [.int (imax ((((cI σ 3) + 1) + (if (b2i gm) = 0 then 0 else 4)) + (if (cI σ 6) = 0 then 0 else 2)) (rtF σ (cQ σ i 6)))]) ⟨hx, hb, hml, hown, fun _ h9 => nomatch h9⟩ (K_Ck_readyTime g σ (cQ σ i 7) h.2.2.2.2.2.2) (k_525 hT) (k_527 hT) (ks_17 hT) (k_528 hT) (k_2 hT) rfl (by decide +kernel) (va_recv hK hP (ci := 0) (q0 := 5) rfl rfl) (hc.at g hS hP) ⟨by decide, by decide⟩ ⟨by decide, by decide⟩ hl.1 (Nat.le_of_ble_eq_true rfl) d_Ck_beginning_53 (fun _ h9 => h9) hS (fun _ _ _ _ _ _ _ h9 => h9.elim) (fun v t H locs ht9 hRt hz hk hS => ?_)
  obtain ⟨r, u, rfl, ⟨er, eu⟩, hP⟩ := hRt
  subst er
  rw [eu, ht9] at hP
  have hD : va_D (gA G) (cw G σ) := g.d
  refine W.eq (g2 := F0 m 56 ls [.int (rtF σ (cQ σ i 7)), .int (imax ((((cI σ 3) + 1) + (if (b2i gm) = 0 then 0 else 4)) + (if (cI σ 6) = 0 then 0 else 2)) (rtF σ (cQ σ i 6)))]) rfl ?_
  refine va_mmax hx hb (by rw [hml]; exact hl.1.symm) hown (k_529 hT) (k_276 hT) (k_16 hT) (k_277 hT) (by decide) (Nat.le_of_ble_eq_true rfl) (by decide) (by decide) d_Ck_beginning_56 ?_
  refine lv_istore (lv' := [(4, .int (imax (imax ((((cI σ 3) + 1) + (if (b2i gm) = 0 then 0 else 4)) + (if (cI σ 6) = 0 then 0 else 2)) (rtF σ (cQ σ i 6))) (rtF σ (cQ σ i 7)))), (0, .ref (gad G 5)), (1, .ref (gia G i)), (2, .int lat), (3, .int (b2i gm))]) hx hb d_Ck_beginning_59 hl (by decide) rfl (fun ls hl => ?_)
  refine lv_aload_n hx hb d_Ck_beginning_61 rfl (lv_at hl 2 rfl) ?_
  refine va_get (D := gD G) (ci := 3) (v := .int (cQ σ i 0)) (C := R_In) (T := F_In) (N := 8) hx hb (wl_In hT) (fun _ h9 => h9) hown hK hP (19 + i) (cw_in hi) rfl 0 (by decide) (k_146 hT) (fun _ h9 => h9) rfl d_Ck_beginning_62 ?_
  refine lv_bipush (v := 13) hx hb d_Ck_beginning_65 (by decide) ?_
  refine W_join (α := Int32) (P := fun j67 ls => j67 = (if cQ σ i 0 = 13 then imax (imax (imax ((((cI σ 3) + 1) + (if (b2i gm) = 0 then 0 else 4)) + (if (cI σ 6) = 0 then 0 else 2)) (rtF σ (cQ σ i 6))) (rtF σ (cQ σ i 7))) (cI σ 4) else (imax (imax ((((cI σ 3) + 1) + (if (b2i gm) = 0 then 0 else 4)) + (if (cI σ 6) = 0 then 0 else 2)) (rtF σ (cQ σ i 6))) (rtF σ (cQ σ i 7)))) ∧ lv_has ls 5 [(4, .int j67), (0, .ref (gad G 5)), (1, .ref (gia G i)), (2, .int lat), (3, .int (b2i gm))]) (fun j67 ls => F0 m 81 ls []) (fun j67 ls hj67 => ?_) (fun J67 => ?_)
  · obtain ⟨ej67, hl⟩ := hj67
    refine lv_aload_n hx hb d_Ck_beginning_81 rfl (lv_at hl 2 rfl) ?_
    refine cx_V (n := 0) (C := R_In) (As := []) (rest := []) ⟨hx, hb, hml, hown, fun _ h9 => nomatch h9⟩ (K_In_goesToMemory g σ hi) (k_530 hT) (k_436 hT) (k_437 hT) (k_438 hT) (k_8 hT) rfl (by decide +kernel) (va_recv hK hP (ci := 3) (q0 := 19 + i) rfl (cw_in hi)) (hc.at g hS hP) ⟨by decide, by decide⟩ ⟨by decide, by decide⟩ hl.1 (Nat.le_of_ble_eq_true rfl) d_Ck_beginning_82 (fun _ h9 => h9) hS (fun _ _ _ _ _ _ _ h9 => h9.elim) (fun v t H locs ht9 hRt hz hk hS => ?_)
    obtain ⟨r, u, rfl, ⟨er, eu⟩, hP⟩ := hRt
    subst er
    rw [eu, ht9] at hP
    have hD : va_D (gA G) (cw G σ) := g.d
    refine W.eq (g2 := F0 m 85 ls [.int (b2i (memQ (cQ σ i)))]) rfl ?_
    refine W_join (α := Int32) (P := fun j85 ls => j85 = (if memQ (cQ σ i) then imax j67 (cI σ 5) else j67) ∧ lv_has ls 5 [(4, .int j85), (0, .ref (gad G 5)), (1, .ref (gia G i)), (2, .int lat), (3, .int (b2i gm))]) (fun j85 ls => F0 m 99 ls []) (fun j85 ls hj85 => ?_) (fun J85 => ?_)
    · obtain ⟨ej85, hl⟩ := hj85
      refine lv_iload hx hb d_Ck_beginning_99 (lv_at hl 0 rfl) ?_
      refine lv_aload_n hx hb d_Ck_beginning_101 rfl (lv_at hl 1 rfl) ?_
      refine lv_aload_n hx hb d_Ck_beginning_102 rfl (lv_at hl 2 rfl) ?_
      refine va_get (D := gD G) (ci := 3) (v := .int (cQ σ i 5)) (C := R_In) (T := F_In) (N := 8) hx hb (wl_In hT) (fun _ h9 => h9) hown hK hP (19 + i) (cw_in hi) rfl 5 (by decide) (k_157 hT) (fun _ h9 => h9) rfl d_Ck_beginning_103 ?_
      refine cx_V (n := 1) (C := R_Ck) (As := [.int (cQ σ i 5)]) (rest := [.int j85]) ⟨hx, hb, hml, hown, fun _ h9 => nomatch h9⟩ (K_Ck_readyTime g σ (cQ σ i 5) h.2.2.2.2.1) (k_525 hT) (k_527 hT) (ks_17 hT) (k_528 hT) (k_2 hT) rfl (by decide +kernel) (va_recv hK hP (ci := 0) (q0 := 5) rfl rfl) (hc.at g hS hP) ⟨by decide, by decide⟩ ⟨by decide, by decide⟩ hl.1 (Nat.le_of_ble_eq_true rfl) d_Ck_beginning_106 (fun _ h9 => h9) hS (fun _ _ _ _ _ _ _ h9 => h9.elim) (fun v t H locs ht9 hRt hz hk hS => ?_)
      obtain ⟨r, u, rfl, ⟨er, eu⟩, hP⟩ := hRt
      subst er
      rw [eu, ht9] at hP
      have hD : va_D (gA G) (cw G σ) := g.d
      refine W.eq (g2 := F0 m 109 ls [.int (rtF σ (cQ σ i 5)), .int j85]) rfl ?_
      refine lv_iload_n hx hb d_Ck_beginning_109 rfl (lv_at hl 3 rfl) ?_
      refine lv_isub hx hb d_Ck_beginning_110 ?_
      refine lv_iconst (v := 1) hx hb d_Ck_beginning_111 (by decide) ?_
      refine lv_iadd hx hb d_Ck_beginning_112 ?_
      refine va_mmax hx hb (by rw [hml]; exact hl.1.symm) hown (k_529 hT) (k_276 hT) (k_16 hT) (k_277 hT) (by decide) (Nat.le_of_ble_eq_true rfl) (by decide) (by decide) d_Ck_beginning_113 ?_
      exact end_i (u := σ) hx hb hr hlocks hS hP d_Ck_beginning_116 (⟨by rw [ej85, ej67]; rfl, rfl⟩)
    · refine lv_if_eq (tgt := 99) hx hb d_Ck_beginning_85 (by decide) (fun c85 => ?_) (fun c85 => ?_)
      · have c85 := b2i0 c85
        exact J85 _ _ ⟨by simp [c85], lv_sub hl [0, 1, 2, 3, 4] rfl⟩
      · have c85 := b2i1 c85
        refine lv_iload hx hb d_Ck_beginning_88 (lv_at hl 0 rfl) ?_
        refine lv_aload_n hx hb d_Ck_beginning_90 rfl (lv_at hl 1 rfl) ?_
        refine va_get (D := gD G) (ci := 0) (v := .int (cI σ 5)) (C := R_Ck) (T := F_Ck) (N := 5) hx hb (wl_Ck hT) (fun _ h9 => h9) hown hK hP 5 rfl rfl 3 (by decide) (k_39 hT) (fun _ h9 => h9) rfl d_Ck_beginning_91 ?_
        refine va_mmax hx hb (by rw [hml]; exact hl.1.symm) hown (k_529 hT) (k_276 hT) (k_16 hT) (k_277 hT) (by decide) (Nat.le_of_ble_eq_true rfl) (by decide) (by decide) d_Ck_beginning_94 ?_
        refine lv_istore (lv' := [(4, .int (imax j67 (cI σ 5))), (0, .ref (gad G 5)), (1, .ref (gia G i)), (2, .int lat), (3, .int (b2i gm))]) hx hb d_Ck_beginning_97 hl (by decide) rfl (fun ls hl => ?_)
        exact J85 _ _ ⟨by simp [c85], lv_sub hl [0, 1, 2, 3, 4] rfl⟩
  · refine lv_icmp_ne (tgt := 81) hx hb d_Ck_beginning_67 (by decide) (fun c67 => ?_) (fun c67 => ?_)
    · exact J67 _ _ ⟨by simp [c67], lv_sub hl [0, 1, 2, 3, 4] rfl⟩
    · refine lv_iload hx hb d_Ck_beginning_70 (lv_at hl 0 rfl) ?_
      refine lv_aload_n hx hb d_Ck_beginning_72 rfl (lv_at hl 1 rfl) ?_
      refine va_get (D := gD G) (ci := 0) (v := .int (cI σ 4)) (C := R_Ck) (T := F_Ck) (N := 5) hx hb (wl_Ck hT) (fun _ h9 => h9) hown hK hP 5 rfl rfl 2 (by decide) (k_38 hT) (fun _ h9 => h9) rfl d_Ck_beginning_73 ?_
      refine va_mmax hx hb (by rw [hml]; exact hl.1.symm) hown (k_529 hT) (k_276 hT) (k_16 hT) (k_277 hT) (by decide) (Nat.le_of_ble_eq_true rfl) (by decide) (by decide) d_Ck_beginning_76 ?_
      refine lv_istore (lv' := [(4, .int (imax (imax (imax ((((cI σ 3) + 1) + (if (b2i gm) = 0 then 0 else 4)) + (if (cI σ 6) = 0 then 0 else 2)) (rtF σ (cQ σ i 6))) (rtF σ (cQ σ i 7))) (cI σ 4))), (0, .ref (gad G 5)), (1, .ref (gia G i)), (2, .int lat), (3, .int (b2i gm))]) hx hb d_Ck_beginning_79 hl (by decide) rfl (fun ls hl => ?_)
      exact J67 _ _ ⟨by simp [c67], lv_sub hl [0, 1, 2, 3, 4] rfl⟩

set_option maxHeartbeats 4000000 in
set_option maxRecDepth 100000 in
theorem K_Ck_begin {l : Launch} {G : GT} (g : GOK l G) (σ : CS) {i : Nat} (hi : i < 24) (h : okQ (cQ σ i)) (gm lm wj : Bool) : cx_M l y_Ck_begin (.code y_Ck_begin b_Ck_begin 7 none) 2 45 (gA G) [.ref (gad G 5), .ref (gia G i), .int (b2i gm), .int (b2i lm), .int (b2i wj)] (Cw G σ) (Rv G (fun u => u = beF σ (cQ σ i) gm lm wj)) (Tn) := by
  refine cx_of (by decide +kernel) ?_
  intro p e s m below meth c s₁ B hml ht hc
  have hx := B.exec
  have hb := B.bytes
  have hr := B.returns
  have hown : s.vm.findClass R_Ck = some m.cls := findClass_of_methodNamed B.named
  have hlocks := B.notSynchronized
  have hT := g.tb hc
  have hK := g.k hc
  have hD := g.d (σ := σ)
  have hS : va_S (gA G) s.heap s.heap [] := va_S.rf
  have hP := hc.2.2
  have hl := lv_entry ([.ref (gad G 5), .ref (gia G i), .int (b2i gm), .int (b2i lm), .int (b2i wj)]) (n := 7) (Nat.le_of_ble_eq_true rfl)
  rw [lg_entry_eq]
  generalize (lg_sl ([.ref (gad G 5), .ref (gia G i), .int (b2i gm), .int (b2i lm), .int (b2i wj)]) ++ List.replicate (7 - (lg_sl ([.ref (gad G 5), .ref (gia G i), .int (b2i gm), .int (b2i lm), .int (b2i wj)])).length) Slot.unset).toArray = ls at hl ⊢
  have hl : lv_has ls 7 [(0, .ref (gad G 5)), (1, .ref (gia G i)), (2, .int (b2i gm)), (3, .int (b2i lm)), (4, .int (b2i wj))] := hl
  refine lv_iload_n hx hb d_Ck_begin_0 rfl (lv_at hl 3 rfl) ?_
  refine W_tern (a := 5) (b := 0) (L := 8) (J := 9) hx hb d_Ck_begin_1 (by decide) d_Ck_begin_4 (by decide) d_Ck_begin_5 (by decide) d_Ck_begin_8 (by decide) rfl ?_
  refine lv_istore (lv' := [(5, .int (if (b2i lm) = 0 then 0 else 5)), (0, .ref (gad G 5)), (1, .ref (gia G i)), (2, .int (b2i gm)), (3, .int (b2i lm)), (4, .int (b2i wj))]) hx hb d_Ck_begin_9 hl (by decide) rfl (fun ls hl => ?_)
  refine lv_aload_n hx hb d_Ck_begin_11 rfl (lv_at hl 2 rfl) ?_
  refine cx_V (n := 0) (C := R_In) (As := []) (rest := []) ⟨hx, hb, hml, hown, fun _ h9 => nomatch h9⟩ (K_In_latency g σ hi h.1) (k_520 hT) (k_270 hT) (k_271 hT) (k_272 hT) (k_8 hT) rfl (by decide +kernel) (va_recv hK hP (ci := 3) (q0 := 19 + i) rfl (cw_in hi)) (hc.at g hS hP) ⟨by decide, by decide⟩ ⟨by decide, by decide⟩ hl.1 (Nat.le_of_ble_eq_true rfl) d_Ck_begin_12 (fun _ h9 => h9) hS (fun _ _ _ _ _ _ _ h9 => h9.elim) (fun v t H locs ht9 hRt hz hk hS => ?_)
  obtain ⟨r, u, rfl, ⟨er, eu⟩, hP⟩ := hRt
  subst er
  rw [eu, ht9] at hP
  have hD : va_D (gA G) (cw G σ) := g.d
  refine W.eq (g2 := F0 m 15 ls [.int (latT (cQ σ i 0).toNatClampNeg)]) rfl ?_
  refine lv_iload hx hb d_Ck_begin_15 (lv_at hl 0 rfl) ?_
  refine lv_iadd hx hb d_Ck_begin_17 ?_
  refine lv_istore (lv' := [(6, .int ((latT (cQ σ i 0).toNatClampNeg) + (if (b2i lm) = 0 then 0 else 5))), (5, .int (if (b2i lm) = 0 then 0 else 5)), (0, .ref (gad G 5)), (1, .ref (gia G i)), (2, .int (b2i gm)), (3, .int (b2i lm)), (4, .int (b2i wj))]) hx hb d_Ck_begin_18 hl (by decide) rfl (fun ls hl => ?_)
  refine lv_aload_n hx hb d_Ck_begin_20 rfl (lv_at hl 2 rfl) ?_
  refine lv_aload_n hx hb d_Ck_begin_21 rfl (lv_at hl 2 rfl) ?_
  refine lv_aload_n hx hb d_Ck_begin_22 rfl (lv_at hl 3 rfl) ?_
  refine lv_iload hx hb d_Ck_begin_23 (lv_at hl 0 rfl) ?_
  refine lv_iload_n hx hb d_Ck_begin_25 rfl (lv_at hl 4 rfl) ?_
  refine cx_V (n := 3) (C := R_Ck) (As := [.ref (gia G i), .int ((latT (cQ σ i 0).toNatClampNeg) + (if (b2i lm) = 0 then 0 else 5)), .int (b2i gm)]) (rest := [.ref (gad G 5)]) ⟨hx, hb, hml, hown, fun _ h9 => nomatch h9⟩ (K_Ck_beginning g σ hi h ((latT (cQ σ i 0).toNatClampNeg) + (if (b2i lm) = 0 then 0 else 5)) gm) (k_521 hT) (k_523 hT) (ks_16 hT) (k_524 hT) (k_2 hT) rfl (by decide +kernel) (va_recv hK hP (ci := 0) (q0 := 5) rfl rfl) (hc.at g hS hP) ⟨by decide, by decide⟩ ⟨by decide, by decide⟩ hl.1 (Nat.le_of_ble_eq_true rfl) d_Ck_begin_26 (fun _ h9 => h9) hS (fun _ _ _ _ _ _ _ h9 => h9.elim) (fun v t H locs ht9 hRt hz hk hS => ?_)
  obtain ⟨r, u, rfl, ⟨er, eu⟩, hP⟩ := hRt
  subst er
  rw [eu, ht9] at hP
  have hD : va_D (gA G) (cw G σ) := g.d
  refine W.eq (g2 := F0 m 29 ls [.int (bgF σ (cQ σ i) ((latT (cQ σ i 0).toNatClampNeg) + (if (b2i lm) = 0 then 0 else 5)) gm), .ref (gad G 5)]) rfl ?_
  refine va_put (D := gD G) (ci := 0) (v := .int (bgF σ (cQ σ i) ((latT (cQ σ i 0).toNatClampNeg) + (if (b2i lm) = 0 then 0 else 5)) gm)) (ty := .int) (C := R_Ck) (T := F_Ck) (N := 5) hx hb (wl_Ck hT) (fun _ h9 => h9) fy_Ck fy_Ck_ok fn_Ck hown hK hP hD hS 5 rfl rfl 1 (by decide) (k_36 hT) (fun _ h9 => h9) rfl (by decide +kernel) rfl rfl (Nat.le_of_ble_eq_true rfl) d_Ck_begin_29 (fun H locs hP hD hS => ?_)
  have hP : va_P (gD G) classes (cw G (sI σ 3 (bgF σ (cQ σ i) ((latT (cQ σ i 0).toNatClampNeg) + (if (b2i lm) = 0 then 0 else 5)) gm))) H := hP
  have hD : va_D (gA G) (cw G (sI σ 3 (bgF σ (cQ σ i) ((latT (cQ σ i 0).toNatClampNeg) + (if (b2i lm) = 0 then 0 else 5)) gm))) := g.d
  refine lv_aload_n hx hb d_Ck_begin_32 rfl (lv_at hl 2 rfl) ?_
  refine lv_iload hx hb d_Ck_begin_33 (lv_at hl 6 rfl) ?_
  refine va_put (D := gD G) (ci := 0) (v := .int (b2i wj)) (ty := .boolean) (C := R_Ck) (T := F_Ck) (N := 5) hx hb (wl_Ck hT) (fun _ h9 => h9) fy_Ck fy_Ck_ok fn_Ck hown hK hP hD hS 5 rfl rfl 4 (by decide) (k_40 hT) (fun _ h9 => h9) rfl (by decide +kernel) (nb_b _) (fb_b _) (Nat.le_of_ble_eq_true rfl) d_Ck_begin_35 (fun H locs hP hD hS => ?_)
  have hP : va_P (gD G) classes (cw G (sI (sI σ 3 (bgF σ (cQ σ i) ((latT (cQ σ i 0).toNatClampNeg) + (if (b2i lm) = 0 then 0 else 5)) gm)) 6 (b2i wj))) H := hP
  have hD : va_D (gA G) (cw G (sI (sI σ 3 (bgF σ (cQ σ i) ((latT (cQ σ i 0).toNatClampNeg) + (if (b2i lm) = 0 then 0 else 5)) gm)) 6 (b2i wj))) := g.d
  refine lv_aload_n hx hb d_Ck_begin_38 rfl (lv_at hl 3 rfl) ?_
  refine va_get (D := gD G) (ci := 3) (v := .int (cQ σ i 5)) (C := R_In) (T := F_In) (N := 8) hx hb (wl_In hT) (fun _ h9 => h9) hown hK hP (19 + i) (cw_in hi) rfl 5 (by decide) (k_157 hT) (fun _ h9 => h9) rfl d_Ck_begin_39 ?_
  refine lv_iconst (v := (-1)) hx hb d_Ck_begin_42 (by decide) ?_
  refine lv_icmp_eq (tgt := 62) hx hb d_Ck_begin_43 (by decide) (fun c43 => ?_) (fun c43 => ?_)
  · refine lv_aload_n hx hb d_Ck_begin_62 rfl (lv_at hl 3 rfl) ?_
    refine va_get (D := gD G) (ci := 3) (v := .int (cQ σ i 0)) (C := R_In) (T := F_In) (N := 8) hx hb (wl_In hT) (fun _ h9 => h9) hown hK hP (19 + i) (cw_in hi) rfl 0 (by decide) (k_146 hT) (fun _ h9 => h9) rfl d_Ck_begin_63 ?_
    refine lv_bipush (v := 13) hx hb d_Ck_begin_66 (by decide) ?_
    refine lv_icmp_ne (tgt := 82) hx hb d_Ck_begin_68 (by decide) (fun c68 => ?_) (fun c68 => ?_)
    · refine lv_aload_n hx hb d_Ck_begin_82 rfl (lv_at hl 3 rfl) ?_
      refine cx_V (n := 0) (C := R_In) (As := []) (rest := []) ⟨hx, hb, hml, hown, fun _ h9 => nomatch h9⟩ (K_In_goesToMemory g (sI (sI σ 3 (bgF σ (cQ σ i) ((latT (cQ σ i 0).toNatClampNeg) + (if (b2i lm) = 0 then 0 else 5)) gm)) 6 (b2i wj)) hi) (k_530 hT) (k_436 hT) (k_437 hT) (k_438 hT) (k_8 hT) rfl (by decide +kernel) (va_recv hK hP (ci := 3) (q0 := 19 + i) rfl (cw_in hi)) (hc.at g hS hP) ⟨by decide, by decide⟩ ⟨by decide, by decide⟩ hl.1 (Nat.le_of_ble_eq_true rfl) d_Ck_begin_83 (fun _ h9 => h9) hS (fun _ _ _ _ _ _ _ h9 => h9.elim) (fun v t H locs ht9 hRt hz hk hS => ?_)
      obtain ⟨r, u, rfl, ⟨er, eu⟩, hP⟩ := hRt
      subst er
      rw [eu, ht9] at hP
      have hD : va_D (gA G) (cw G (sI (sI σ 3 (bgF σ (cQ σ i) ((latT (cQ σ i 0).toNatClampNeg) + (if (b2i lm) = 0 then 0 else 5)) gm)) 6 (b2i wj))) := g.d
      refine W.eq (g2 := F0 m 86 ls [.int (b2i (memQ (cQ σ i)))]) rfl ?_
      refine lv_if_eq (tgt := 102) hx hb d_Ck_begin_86 (by decide) (fun c86 => ?_) (fun c86 => ?_)
      · have c86 := b2i0 c86
        exact end_v (u := (sI (sI σ 3 (bgF σ (cQ σ i) ((latT (cQ σ i 0).toNatClampNeg) + (if (b2i lm) = 0 then 0 else 5)) gm)) 6 (b2i wj))) hx hb hr hlocks hS hP d_Ck_begin_102 (by first | (simp [beF, cI_sI, cJ_sI, cF_sI, cP_sI, cQ_sI, cI_sJ, cJ_sJ, cF_sJ, cP_sJ, cQ_sJ, cI_sF, cJ_sF, cF_sF, cP_sF, cQ_sF, cI_sP, cJ_sP, cF_sP, cP_sP, cQ_sP, ix, m4, c43, c68, c86]; done) | (revert c43 c68 c86; simp [beF, cI_sI, cJ_sI, cF_sI, cP_sI, cQ_sI, cI_sJ, cJ_sJ, cF_sJ, cP_sJ, cQ_sJ, cI_sF, cJ_sF, cF_sF, cP_sF, cQ_sF, cI_sP, cJ_sP, cF_sP, cP_sP, cQ_sP, ix, m4]))
      · have c86 := b2i1 c86
        refine lv_aload_n hx hb d_Ck_begin_89 rfl (lv_at hl 2 rfl) ?_
        refine lv_aload_n hx hb d_Ck_begin_90 rfl (lv_at hl 2 rfl) ?_
        refine va_get (D := gD G) (ci := 0) (v := .int (bgF σ (cQ σ i) ((latT (cQ σ i 0).toNatClampNeg) + (if (b2i lm) = 0 then 0 else 5)) gm)) (C := R_Ck) (T := F_Ck) (N := 5) hx hb (wl_Ck hT) (fun _ h9 => h9) hown hK hP 5 rfl rfl 1 (by decide) (k_36 hT) (fun _ h9 => h9) rfl d_Ck_begin_91 ?_
        refine lv_iconst (v := 1) hx hb d_Ck_begin_94 (by decide) ?_
        refine lv_iadd hx hb d_Ck_begin_95 ?_
        refine lv_iload hx hb d_Ck_begin_96 (lv_at hl 1 rfl) ?_
        refine lv_iadd hx hb d_Ck_begin_98 ?_
        refine va_put (D := gD G) (ci := 0) (v := .int (((bgF σ (cQ σ i) ((latT (cQ σ i 0).toNatClampNeg) + (if (b2i lm) = 0 then 0 else 5)) gm) + 1) + (if (b2i lm) = 0 then 0 else 5))) (ty := .int) (C := R_Ck) (T := F_Ck) (N := 5) hx hb (wl_Ck hT) (fun _ h9 => h9) fy_Ck fy_Ck_ok fn_Ck hown hK hP hD hS 5 rfl rfl 3 (by decide) (k_39 hT) (fun _ h9 => h9) rfl (by decide +kernel) rfl rfl (Nat.le_of_ble_eq_true rfl) d_Ck_begin_99 (fun H locs hP hD hS => ?_)
        have hP : va_P (gD G) classes (cw G (sI (sI (sI σ 3 (bgF σ (cQ σ i) ((latT (cQ σ i 0).toNatClampNeg) + (if (b2i lm) = 0 then 0 else 5)) gm)) 6 (b2i wj)) 5 (((bgF σ (cQ σ i) ((latT (cQ σ i 0).toNatClampNeg) + (if (b2i lm) = 0 then 0 else 5)) gm) + 1) + (if (b2i lm) = 0 then 0 else 5)))) H := hP
        have hD : va_D (gA G) (cw G (sI (sI (sI σ 3 (bgF σ (cQ σ i) ((latT (cQ σ i 0).toNatClampNeg) + (if (b2i lm) = 0 then 0 else 5)) gm)) 6 (b2i wj)) 5 (((bgF σ (cQ σ i) ((latT (cQ σ i 0).toNatClampNeg) + (if (b2i lm) = 0 then 0 else 5)) gm) + 1) + (if (b2i lm) = 0 then 0 else 5)))) := g.d
        exact end_v (u := (sI (sI (sI σ 3 (bgF σ (cQ σ i) ((latT (cQ σ i 0).toNatClampNeg) + (if (b2i lm) = 0 then 0 else 5)) gm)) 6 (b2i wj)) 5 (((bgF σ (cQ σ i) ((latT (cQ σ i 0).toNatClampNeg) + (if (b2i lm) = 0 then 0 else 5)) gm) + 1) + (if (b2i lm) = 0 then 0 else 5)))) hx hb hr hlocks hS hP d_Ck_begin_102 (by first | (simp [beF, cI_sI, cJ_sI, cF_sI, cP_sI, cQ_sI, cI_sJ, cJ_sJ, cF_sJ, cP_sJ, cQ_sJ, cI_sF, cJ_sF, cF_sF, cP_sF, cQ_sF, cI_sP, cJ_sP, cF_sP, cP_sP, cQ_sP, ix, m4, c43, c68, c86]; done) | (revert c43 c68 c86; simp [beF, cI_sI, cJ_sI, cF_sI, cP_sI, cQ_sI, cI_sJ, cJ_sJ, cF_sJ, cP_sJ, cQ_sJ, cI_sF, cJ_sF, cF_sF, cP_sF, cQ_sF, cI_sP, cJ_sP, cF_sP, cP_sP, cQ_sP, ix, m4]))
    · refine lv_aload_n hx hb d_Ck_begin_71 rfl (lv_at hl 2 rfl) ?_
      refine lv_aload_n hx hb d_Ck_begin_72 rfl (lv_at hl 2 rfl) ?_
      refine va_get (D := gD G) (ci := 0) (v := .int (bgF σ (cQ σ i) ((latT (cQ σ i 0).toNatClampNeg) + (if (b2i lm) = 0 then 0 else 5)) gm)) (C := R_Ck) (T := F_Ck) (N := 5) hx hb (wl_Ck hT) (fun _ h9 => h9) hown hK hP 5 rfl rfl 1 (by decide) (k_36 hT) (fun _ h9 => h9) rfl d_Ck_begin_73 ?_
      refine lv_bipush (v := 8) hx hb d_Ck_begin_76 (by decide) ?_
      refine lv_iadd hx hb d_Ck_begin_78 ?_
      refine va_put (D := gD G) (ci := 0) (v := .int ((bgF σ (cQ σ i) ((latT (cQ σ i 0).toNatClampNeg) + (if (b2i lm) = 0 then 0 else 5)) gm) + 8)) (ty := .int) (C := R_Ck) (T := F_Ck) (N := 5) hx hb (wl_Ck hT) (fun _ h9 => h9) fy_Ck fy_Ck_ok fn_Ck hown hK hP hD hS 5 rfl rfl 2 (by decide) (k_38 hT) (fun _ h9 => h9) rfl (by decide +kernel) rfl rfl (Nat.le_of_ble_eq_true rfl) d_Ck_begin_79 (fun H locs hP hD hS => ?_)
      have hP : va_P (gD G) classes (cw G (sI (sI (sI σ 3 (bgF σ (cQ σ i) ((latT (cQ σ i 0).toNatClampNeg) + (if (b2i lm) = 0 then 0 else 5)) gm)) 6 (b2i wj)) 4 ((bgF σ (cQ σ i) ((latT (cQ σ i 0).toNatClampNeg) + (if (b2i lm) = 0 then 0 else 5)) gm) + 8))) H := hP
      have hD : va_D (gA G) (cw G (sI (sI (sI σ 3 (bgF σ (cQ σ i) ((latT (cQ σ i 0).toNatClampNeg) + (if (b2i lm) = 0 then 0 else 5)) gm)) 6 (b2i wj)) 4 ((bgF σ (cQ σ i) ((latT (cQ σ i 0).toNatClampNeg) + (if (b2i lm) = 0 then 0 else 5)) gm) + 8))) := g.d
      refine lv_aload_n hx hb d_Ck_begin_82 rfl (lv_at hl 3 rfl) ?_
      refine cx_V (n := 0) (C := R_In) (As := []) (rest := []) ⟨hx, hb, hml, hown, fun _ h9 => nomatch h9⟩ (K_In_goesToMemory g (sI (sI (sI σ 3 (bgF σ (cQ σ i) ((latT (cQ σ i 0).toNatClampNeg) + (if (b2i lm) = 0 then 0 else 5)) gm)) 6 (b2i wj)) 4 ((bgF σ (cQ σ i) ((latT (cQ σ i 0).toNatClampNeg) + (if (b2i lm) = 0 then 0 else 5)) gm) + 8)) hi) (k_530 hT) (k_436 hT) (k_437 hT) (k_438 hT) (k_8 hT) rfl (by decide +kernel) (va_recv hK hP (ci := 3) (q0 := 19 + i) rfl (cw_in hi)) (hc.at g hS hP) ⟨by decide, by decide⟩ ⟨by decide, by decide⟩ hl.1 (Nat.le_of_ble_eq_true rfl) d_Ck_begin_83 (fun _ h9 => h9) hS (fun _ _ _ _ _ _ _ h9 => h9.elim) (fun v t H locs ht9 hRt hz hk hS => ?_)
      obtain ⟨r, u, rfl, ⟨er, eu⟩, hP⟩ := hRt
      subst er
      rw [eu, ht9] at hP
      have hD : va_D (gA G) (cw G (sI (sI (sI σ 3 (bgF σ (cQ σ i) ((latT (cQ σ i 0).toNatClampNeg) + (if (b2i lm) = 0 then 0 else 5)) gm)) 6 (b2i wj)) 4 ((bgF σ (cQ σ i) ((latT (cQ σ i 0).toNatClampNeg) + (if (b2i lm) = 0 then 0 else 5)) gm) + 8))) := g.d
      refine W.eq (g2 := F0 m 86 ls [.int (b2i (memQ (cQ σ i)))]) rfl ?_
      refine lv_if_eq (tgt := 102) hx hb d_Ck_begin_86 (by decide) (fun c86 => ?_) (fun c86 => ?_)
      · have c86 := b2i0 c86
        exact end_v (u := (sI (sI (sI σ 3 (bgF σ (cQ σ i) ((latT (cQ σ i 0).toNatClampNeg) + (if (b2i lm) = 0 then 0 else 5)) gm)) 6 (b2i wj)) 4 ((bgF σ (cQ σ i) ((latT (cQ σ i 0).toNatClampNeg) + (if (b2i lm) = 0 then 0 else 5)) gm) + 8))) hx hb hr hlocks hS hP d_Ck_begin_102 (by first | (simp [beF, cI_sI, cJ_sI, cF_sI, cP_sI, cQ_sI, cI_sJ, cJ_sJ, cF_sJ, cP_sJ, cQ_sJ, cI_sF, cJ_sF, cF_sF, cP_sF, cQ_sF, cI_sP, cJ_sP, cF_sP, cP_sP, cQ_sP, ix, m4, c43, c68, c86]; done) | (revert c43 c68 c86; simp [beF, cI_sI, cJ_sI, cF_sI, cP_sI, cQ_sI, cI_sJ, cJ_sJ, cF_sJ, cP_sJ, cQ_sJ, cI_sF, cJ_sF, cF_sF, cP_sF, cQ_sF, cI_sP, cJ_sP, cF_sP, cP_sP, cQ_sP, ix, m4]))
      · have c86 := b2i1 c86
        refine lv_aload_n hx hb d_Ck_begin_89 rfl (lv_at hl 2 rfl) ?_
        refine lv_aload_n hx hb d_Ck_begin_90 rfl (lv_at hl 2 rfl) ?_
        refine va_get (D := gD G) (ci := 0) (v := .int (bgF σ (cQ σ i) ((latT (cQ σ i 0).toNatClampNeg) + (if (b2i lm) = 0 then 0 else 5)) gm)) (C := R_Ck) (T := F_Ck) (N := 5) hx hb (wl_Ck hT) (fun _ h9 => h9) hown hK hP 5 rfl rfl 1 (by decide) (k_36 hT) (fun _ h9 => h9) rfl d_Ck_begin_91 ?_
        refine lv_iconst (v := 1) hx hb d_Ck_begin_94 (by decide) ?_
        refine lv_iadd hx hb d_Ck_begin_95 ?_
        refine lv_iload hx hb d_Ck_begin_96 (lv_at hl 1 rfl) ?_
        refine lv_iadd hx hb d_Ck_begin_98 ?_
        refine va_put (D := gD G) (ci := 0) (v := .int (((bgF σ (cQ σ i) ((latT (cQ σ i 0).toNatClampNeg) + (if (b2i lm) = 0 then 0 else 5)) gm) + 1) + (if (b2i lm) = 0 then 0 else 5))) (ty := .int) (C := R_Ck) (T := F_Ck) (N := 5) hx hb (wl_Ck hT) (fun _ h9 => h9) fy_Ck fy_Ck_ok fn_Ck hown hK hP hD hS 5 rfl rfl 3 (by decide) (k_39 hT) (fun _ h9 => h9) rfl (by decide +kernel) rfl rfl (Nat.le_of_ble_eq_true rfl) d_Ck_begin_99 (fun H locs hP hD hS => ?_)
        have hP : va_P (gD G) classes (cw G (sI (sI (sI (sI σ 3 (bgF σ (cQ σ i) ((latT (cQ σ i 0).toNatClampNeg) + (if (b2i lm) = 0 then 0 else 5)) gm)) 6 (b2i wj)) 4 ((bgF σ (cQ σ i) ((latT (cQ σ i 0).toNatClampNeg) + (if (b2i lm) = 0 then 0 else 5)) gm) + 8)) 5 (((bgF σ (cQ σ i) ((latT (cQ σ i 0).toNatClampNeg) + (if (b2i lm) = 0 then 0 else 5)) gm) + 1) + (if (b2i lm) = 0 then 0 else 5)))) H := hP
        have hD : va_D (gA G) (cw G (sI (sI (sI (sI σ 3 (bgF σ (cQ σ i) ((latT (cQ σ i 0).toNatClampNeg) + (if (b2i lm) = 0 then 0 else 5)) gm)) 6 (b2i wj)) 4 ((bgF σ (cQ σ i) ((latT (cQ σ i 0).toNatClampNeg) + (if (b2i lm) = 0 then 0 else 5)) gm) + 8)) 5 (((bgF σ (cQ σ i) ((latT (cQ σ i 0).toNatClampNeg) + (if (b2i lm) = 0 then 0 else 5)) gm) + 1) + (if (b2i lm) = 0 then 0 else 5)))) := g.d
        exact end_v (u := (sI (sI (sI (sI σ 3 (bgF σ (cQ σ i) ((latT (cQ σ i 0).toNatClampNeg) + (if (b2i lm) = 0 then 0 else 5)) gm)) 6 (b2i wj)) 4 ((bgF σ (cQ σ i) ((latT (cQ σ i 0).toNatClampNeg) + (if (b2i lm) = 0 then 0 else 5)) gm) + 8)) 5 (((bgF σ (cQ σ i) ((latT (cQ σ i 0).toNatClampNeg) + (if (b2i lm) = 0 then 0 else 5)) gm) + 1) + (if (b2i lm) = 0 then 0 else 5)))) hx hb hr hlocks hS hP d_Ck_begin_102 (by first | (simp [beF, cI_sI, cJ_sI, cF_sI, cP_sI, cQ_sI, cI_sJ, cJ_sJ, cF_sJ, cP_sJ, cQ_sJ, cI_sF, cJ_sF, cF_sF, cP_sF, cQ_sF, cI_sP, cJ_sP, cF_sP, cP_sP, cQ_sP, ix, m4, c43, c68, c86]; done) | (revert c43 c68 c86; simp [beF, cI_sI, cJ_sI, cF_sI, cP_sI, cQ_sI, cI_sJ, cJ_sJ, cF_sJ, cP_sJ, cQ_sJ, cI_sF, cJ_sF, cF_sF, cP_sF, cQ_sF, cI_sP, cJ_sP, cF_sP, cP_sP, cQ_sP, ix, m4]))
  · refine lv_aload_n hx hb d_Ck_begin_46 rfl (lv_at hl 2 rfl) ?_
    refine va_get (D := gD G) (ci := 0) (v := .ref (gad G 6)) (C := R_Ck) (T := F_Ck) (N := 5) hx hb (wl_Ck hT) (fun _ h9 => h9) hown hK hP 5 rfl rfl 0 (by decide) (k_34 hT) (fun _ h9 => h9) rfl d_Ck_begin_47 ?_
    refine lv_aload_n hx hb d_Ck_begin_50 rfl (lv_at hl 3 rfl) ?_
    refine va_get (D := gD G) (ci := 3) (v := .int (cQ σ i 5)) (C := R_In) (T := F_In) (N := 8) hx hb (wl_In hT) (fun _ h9 => h9) hown hK hP (19 + i) (cw_in hi) rfl 5 (by decide) (k_157 hT) (fun _ h9 => h9) rfl d_Ck_begin_51 ?_
    refine lv_aload_n hx hb d_Ck_begin_54 rfl (lv_at hl 2 rfl) ?_
    refine va_get (D := gD G) (ci := 0) (v := .int (bgF σ (cQ σ i) ((latT (cQ σ i 0).toNatClampNeg) + (if (b2i lm) = 0 then 0 else 5)) gm)) (C := R_Ck) (T := F_Ck) (N := 5) hx hb (wl_Ck hT) (fun _ h9 => h9) hown hK hP 5 rfl rfl 1 (by decide) (k_36 hT) (fun _ h9 => h9) rfl d_Ck_begin_55 ?_
    refine lv_iload hx hb d_Ck_begin_58 (lv_at hl 0 rfl) ?_
    refine lv_iadd hx hb d_Ck_begin_60 ?_
    refine va_iast (f := (cJ σ 1)) hx hb hK hP hD hS 6 0 rfl rfl (h.2.2.2.2.1.resolve_left c43) d_Ck_begin_61 (fun H locs hP hD hS => ?_)
    have hP : va_P (gD G) classes (cw G (sJ (sI (sI σ 3 (bgF σ (cQ σ i) ((latT (cQ σ i 0).toNatClampNeg) + (if (b2i lm) = 0 then 0 else 5)) gm)) 6 (b2i wj)) 1 (upd (cJ σ 1) (cQ σ i 5).toNatClampNeg ((bgF σ (cQ σ i) ((latT (cQ σ i 0).toNatClampNeg) + (if (b2i lm) = 0 then 0 else 5)) gm) + ((latT (cQ σ i 0).toNatClampNeg) + (if (b2i lm) = 0 then 0 else 5)))))) H := hP
    have hD : va_D (gA G) (cw G (sJ (sI (sI σ 3 (bgF σ (cQ σ i) ((latT (cQ σ i 0).toNatClampNeg) + (if (b2i lm) = 0 then 0 else 5)) gm)) 6 (b2i wj)) 1 (upd (cJ σ 1) (cQ σ i 5).toNatClampNeg ((bgF σ (cQ σ i) ((latT (cQ σ i 0).toNatClampNeg) + (if (b2i lm) = 0 then 0 else 5)) gm) + ((latT (cQ σ i 0).toNatClampNeg) + (if (b2i lm) = 0 then 0 else 5)))))) := g.d
    refine lv_aload_n hx hb d_Ck_begin_62 rfl (lv_at hl 3 rfl) ?_
    refine va_get (D := gD G) (ci := 3) (v := .int (cQ σ i 0)) (C := R_In) (T := F_In) (N := 8) hx hb (wl_In hT) (fun _ h9 => h9) hown hK hP (19 + i) (cw_in hi) rfl 0 (by decide) (k_146 hT) (fun _ h9 => h9) rfl d_Ck_begin_63 ?_
    refine lv_bipush (v := 13) hx hb d_Ck_begin_66 (by decide) ?_
    refine lv_icmp_ne (tgt := 82) hx hb d_Ck_begin_68 (by decide) (fun c68 => ?_) (fun c68 => ?_)
    · refine lv_aload_n hx hb d_Ck_begin_82 rfl (lv_at hl 3 rfl) ?_
      refine cx_V (n := 0) (C := R_In) (As := []) (rest := []) ⟨hx, hb, hml, hown, fun _ h9 => nomatch h9⟩ (K_In_goesToMemory g (sJ (sI (sI σ 3 (bgF σ (cQ σ i) ((latT (cQ σ i 0).toNatClampNeg) + (if (b2i lm) = 0 then 0 else 5)) gm)) 6 (b2i wj)) 1 (upd (cJ σ 1) (cQ σ i 5).toNatClampNeg ((bgF σ (cQ σ i) ((latT (cQ σ i 0).toNatClampNeg) + (if (b2i lm) = 0 then 0 else 5)) gm) + ((latT (cQ σ i 0).toNatClampNeg) + (if (b2i lm) = 0 then 0 else 5))))) hi) (k_530 hT) (k_436 hT) (k_437 hT) (k_438 hT) (k_8 hT) rfl (by decide +kernel) (va_recv hK hP (ci := 3) (q0 := 19 + i) rfl (cw_in hi)) (hc.at g hS hP) ⟨by decide, by decide⟩ ⟨by decide, by decide⟩ hl.1 (Nat.le_of_ble_eq_true rfl) d_Ck_begin_83 (fun _ h9 => h9) hS (fun _ _ _ _ _ _ _ h9 => h9.elim) (fun v t H locs ht9 hRt hz hk hS => ?_)
      obtain ⟨r, u, rfl, ⟨er, eu⟩, hP⟩ := hRt
      subst er
      rw [eu, ht9] at hP
      have hD : va_D (gA G) (cw G (sJ (sI (sI σ 3 (bgF σ (cQ σ i) ((latT (cQ σ i 0).toNatClampNeg) + (if (b2i lm) = 0 then 0 else 5)) gm)) 6 (b2i wj)) 1 (upd (cJ σ 1) (cQ σ i 5).toNatClampNeg ((bgF σ (cQ σ i) ((latT (cQ σ i 0).toNatClampNeg) + (if (b2i lm) = 0 then 0 else 5)) gm) + ((latT (cQ σ i 0).toNatClampNeg) + (if (b2i lm) = 0 then 0 else 5)))))) := g.d
      refine W.eq (g2 := F0 m 86 ls [.int (b2i (memQ (cQ σ i)))]) rfl ?_
      refine lv_if_eq (tgt := 102) hx hb d_Ck_begin_86 (by decide) (fun c86 => ?_) (fun c86 => ?_)
      · have c86 := b2i0 c86
        exact end_v (u := (sJ (sI (sI σ 3 (bgF σ (cQ σ i) ((latT (cQ σ i 0).toNatClampNeg) + (if (b2i lm) = 0 then 0 else 5)) gm)) 6 (b2i wj)) 1 (upd (cJ σ 1) (cQ σ i 5).toNatClampNeg ((bgF σ (cQ σ i) ((latT (cQ σ i 0).toNatClampNeg) + (if (b2i lm) = 0 then 0 else 5)) gm) + ((latT (cQ σ i 0).toNatClampNeg) + (if (b2i lm) = 0 then 0 else 5)))))) hx hb hr hlocks hS hP d_Ck_begin_102 (by first | (simp [beF, cI_sI, cJ_sI, cF_sI, cP_sI, cQ_sI, cI_sJ, cJ_sJ, cF_sJ, cP_sJ, cQ_sJ, cI_sF, cJ_sF, cF_sF, cP_sF, cQ_sF, cI_sP, cJ_sP, cF_sP, cP_sP, cQ_sP, ix, m4, c43, c68, c86]; done) | (revert c43 c68 c86; simp [beF, cI_sI, cJ_sI, cF_sI, cP_sI, cQ_sI, cI_sJ, cJ_sJ, cF_sJ, cP_sJ, cQ_sJ, cI_sF, cJ_sF, cF_sF, cP_sF, cQ_sF, cI_sP, cJ_sP, cF_sP, cP_sP, cQ_sP, ix, m4]))
      · have c86 := b2i1 c86
        refine lv_aload_n hx hb d_Ck_begin_89 rfl (lv_at hl 2 rfl) ?_
        refine lv_aload_n hx hb d_Ck_begin_90 rfl (lv_at hl 2 rfl) ?_
        refine va_get (D := gD G) (ci := 0) (v := .int (bgF σ (cQ σ i) ((latT (cQ σ i 0).toNatClampNeg) + (if (b2i lm) = 0 then 0 else 5)) gm)) (C := R_Ck) (T := F_Ck) (N := 5) hx hb (wl_Ck hT) (fun _ h9 => h9) hown hK hP 5 rfl rfl 1 (by decide) (k_36 hT) (fun _ h9 => h9) rfl d_Ck_begin_91 ?_
        refine lv_iconst (v := 1) hx hb d_Ck_begin_94 (by decide) ?_
        refine lv_iadd hx hb d_Ck_begin_95 ?_
        refine lv_iload hx hb d_Ck_begin_96 (lv_at hl 1 rfl) ?_
        refine lv_iadd hx hb d_Ck_begin_98 ?_
        refine va_put (D := gD G) (ci := 0) (v := .int (((bgF σ (cQ σ i) ((latT (cQ σ i 0).toNatClampNeg) + (if (b2i lm) = 0 then 0 else 5)) gm) + 1) + (if (b2i lm) = 0 then 0 else 5))) (ty := .int) (C := R_Ck) (T := F_Ck) (N := 5) hx hb (wl_Ck hT) (fun _ h9 => h9) fy_Ck fy_Ck_ok fn_Ck hown hK hP hD hS 5 rfl rfl 3 (by decide) (k_39 hT) (fun _ h9 => h9) rfl (by decide +kernel) rfl rfl (Nat.le_of_ble_eq_true rfl) d_Ck_begin_99 (fun H locs hP hD hS => ?_)
        have hP : va_P (gD G) classes (cw G (sI (sJ (sI (sI σ 3 (bgF σ (cQ σ i) ((latT (cQ σ i 0).toNatClampNeg) + (if (b2i lm) = 0 then 0 else 5)) gm)) 6 (b2i wj)) 1 (upd (cJ σ 1) (cQ σ i 5).toNatClampNeg ((bgF σ (cQ σ i) ((latT (cQ σ i 0).toNatClampNeg) + (if (b2i lm) = 0 then 0 else 5)) gm) + ((latT (cQ σ i 0).toNatClampNeg) + (if (b2i lm) = 0 then 0 else 5))))) 5 (((bgF σ (cQ σ i) ((latT (cQ σ i 0).toNatClampNeg) + (if (b2i lm) = 0 then 0 else 5)) gm) + 1) + (if (b2i lm) = 0 then 0 else 5)))) H := hP
        have hD : va_D (gA G) (cw G (sI (sJ (sI (sI σ 3 (bgF σ (cQ σ i) ((latT (cQ σ i 0).toNatClampNeg) + (if (b2i lm) = 0 then 0 else 5)) gm)) 6 (b2i wj)) 1 (upd (cJ σ 1) (cQ σ i 5).toNatClampNeg ((bgF σ (cQ σ i) ((latT (cQ σ i 0).toNatClampNeg) + (if (b2i lm) = 0 then 0 else 5)) gm) + ((latT (cQ σ i 0).toNatClampNeg) + (if (b2i lm) = 0 then 0 else 5))))) 5 (((bgF σ (cQ σ i) ((latT (cQ σ i 0).toNatClampNeg) + (if (b2i lm) = 0 then 0 else 5)) gm) + 1) + (if (b2i lm) = 0 then 0 else 5)))) := g.d
        exact end_v (u := (sI (sJ (sI (sI σ 3 (bgF σ (cQ σ i) ((latT (cQ σ i 0).toNatClampNeg) + (if (b2i lm) = 0 then 0 else 5)) gm)) 6 (b2i wj)) 1 (upd (cJ σ 1) (cQ σ i 5).toNatClampNeg ((bgF σ (cQ σ i) ((latT (cQ σ i 0).toNatClampNeg) + (if (b2i lm) = 0 then 0 else 5)) gm) + ((latT (cQ σ i 0).toNatClampNeg) + (if (b2i lm) = 0 then 0 else 5))))) 5 (((bgF σ (cQ σ i) ((latT (cQ σ i 0).toNatClampNeg) + (if (b2i lm) = 0 then 0 else 5)) gm) + 1) + (if (b2i lm) = 0 then 0 else 5)))) hx hb hr hlocks hS hP d_Ck_begin_102 (by first | (simp [beF, cI_sI, cJ_sI, cF_sI, cP_sI, cQ_sI, cI_sJ, cJ_sJ, cF_sJ, cP_sJ, cQ_sJ, cI_sF, cJ_sF, cF_sF, cP_sF, cQ_sF, cI_sP, cJ_sP, cF_sP, cP_sP, cQ_sP, ix, m4, c43, c68, c86]; done) | (revert c43 c68 c86; simp [beF, cI_sI, cJ_sI, cF_sI, cP_sI, cQ_sI, cI_sJ, cJ_sJ, cF_sJ, cP_sJ, cQ_sJ, cI_sF, cJ_sF, cF_sF, cP_sF, cQ_sF, cI_sP, cJ_sP, cF_sP, cP_sP, cQ_sP, ix, m4]))
    · refine lv_aload_n hx hb d_Ck_begin_71 rfl (lv_at hl 2 rfl) ?_
      refine lv_aload_n hx hb d_Ck_begin_72 rfl (lv_at hl 2 rfl) ?_
      refine va_get (D := gD G) (ci := 0) (v := .int (bgF σ (cQ σ i) ((latT (cQ σ i 0).toNatClampNeg) + (if (b2i lm) = 0 then 0 else 5)) gm)) (C := R_Ck) (T := F_Ck) (N := 5) hx hb (wl_Ck hT) (fun _ h9 => h9) hown hK hP 5 rfl rfl 1 (by decide) (k_36 hT) (fun _ h9 => h9) rfl d_Ck_begin_73 ?_
      refine lv_bipush (v := 8) hx hb d_Ck_begin_76 (by decide) ?_
      refine lv_iadd hx hb d_Ck_begin_78 ?_
      refine va_put (D := gD G) (ci := 0) (v := .int ((bgF σ (cQ σ i) ((latT (cQ σ i 0).toNatClampNeg) + (if (b2i lm) = 0 then 0 else 5)) gm) + 8)) (ty := .int) (C := R_Ck) (T := F_Ck) (N := 5) hx hb (wl_Ck hT) (fun _ h9 => h9) fy_Ck fy_Ck_ok fn_Ck hown hK hP hD hS 5 rfl rfl 2 (by decide) (k_38 hT) (fun _ h9 => h9) rfl (by decide +kernel) rfl rfl (Nat.le_of_ble_eq_true rfl) d_Ck_begin_79 (fun H locs hP hD hS => ?_)
      have hP : va_P (gD G) classes (cw G (sI (sJ (sI (sI σ 3 (bgF σ (cQ σ i) ((latT (cQ σ i 0).toNatClampNeg) + (if (b2i lm) = 0 then 0 else 5)) gm)) 6 (b2i wj)) 1 (upd (cJ σ 1) (cQ σ i 5).toNatClampNeg ((bgF σ (cQ σ i) ((latT (cQ σ i 0).toNatClampNeg) + (if (b2i lm) = 0 then 0 else 5)) gm) + ((latT (cQ σ i 0).toNatClampNeg) + (if (b2i lm) = 0 then 0 else 5))))) 4 ((bgF σ (cQ σ i) ((latT (cQ σ i 0).toNatClampNeg) + (if (b2i lm) = 0 then 0 else 5)) gm) + 8))) H := hP
      have hD : va_D (gA G) (cw G (sI (sJ (sI (sI σ 3 (bgF σ (cQ σ i) ((latT (cQ σ i 0).toNatClampNeg) + (if (b2i lm) = 0 then 0 else 5)) gm)) 6 (b2i wj)) 1 (upd (cJ σ 1) (cQ σ i 5).toNatClampNeg ((bgF σ (cQ σ i) ((latT (cQ σ i 0).toNatClampNeg) + (if (b2i lm) = 0 then 0 else 5)) gm) + ((latT (cQ σ i 0).toNatClampNeg) + (if (b2i lm) = 0 then 0 else 5))))) 4 ((bgF σ (cQ σ i) ((latT (cQ σ i 0).toNatClampNeg) + (if (b2i lm) = 0 then 0 else 5)) gm) + 8))) := g.d
      refine lv_aload_n hx hb d_Ck_begin_82 rfl (lv_at hl 3 rfl) ?_
      refine cx_V (n := 0) (C := R_In) (As := []) (rest := []) ⟨hx, hb, hml, hown, fun _ h9 => nomatch h9⟩ (K_In_goesToMemory g (sI (sJ (sI (sI σ 3 (bgF σ (cQ σ i) ((latT (cQ σ i 0).toNatClampNeg) + (if (b2i lm) = 0 then 0 else 5)) gm)) 6 (b2i wj)) 1 (upd (cJ σ 1) (cQ σ i 5).toNatClampNeg ((bgF σ (cQ σ i) ((latT (cQ σ i 0).toNatClampNeg) + (if (b2i lm) = 0 then 0 else 5)) gm) + ((latT (cQ σ i 0).toNatClampNeg) + (if (b2i lm) = 0 then 0 else 5))))) 4 ((bgF σ (cQ σ i) ((latT (cQ σ i 0).toNatClampNeg) + (if (b2i lm) = 0 then 0 else 5)) gm) + 8)) hi) (k_530 hT) (k_436 hT) (k_437 hT) (k_438 hT) (k_8 hT) rfl (by decide +kernel) (va_recv hK hP (ci := 3) (q0 := 19 + i) rfl (cw_in hi)) (hc.at g hS hP) ⟨by decide, by decide⟩ ⟨by decide, by decide⟩ hl.1 (Nat.le_of_ble_eq_true rfl) d_Ck_begin_83 (fun _ h9 => h9) hS (fun _ _ _ _ _ _ _ h9 => h9.elim) (fun v t H locs ht9 hRt hz hk hS => ?_)
      obtain ⟨r, u, rfl, ⟨er, eu⟩, hP⟩ := hRt
      subst er
      rw [eu, ht9] at hP
      have hD : va_D (gA G) (cw G (sI (sJ (sI (sI σ 3 (bgF σ (cQ σ i) ((latT (cQ σ i 0).toNatClampNeg) + (if (b2i lm) = 0 then 0 else 5)) gm)) 6 (b2i wj)) 1 (upd (cJ σ 1) (cQ σ i 5).toNatClampNeg ((bgF σ (cQ σ i) ((latT (cQ σ i 0).toNatClampNeg) + (if (b2i lm) = 0 then 0 else 5)) gm) + ((latT (cQ σ i 0).toNatClampNeg) + (if (b2i lm) = 0 then 0 else 5))))) 4 ((bgF σ (cQ σ i) ((latT (cQ σ i 0).toNatClampNeg) + (if (b2i lm) = 0 then 0 else 5)) gm) + 8))) := g.d
      refine W.eq (g2 := F0 m 86 ls [.int (b2i (memQ (cQ σ i)))]) rfl ?_
      refine lv_if_eq (tgt := 102) hx hb d_Ck_begin_86 (by decide) (fun c86 => ?_) (fun c86 => ?_)
      · have c86 := b2i0 c86
        exact end_v (u := (sI (sJ (sI (sI σ 3 (bgF σ (cQ σ i) ((latT (cQ σ i 0).toNatClampNeg) + (if (b2i lm) = 0 then 0 else 5)) gm)) 6 (b2i wj)) 1 (upd (cJ σ 1) (cQ σ i 5).toNatClampNeg ((bgF σ (cQ σ i) ((latT (cQ σ i 0).toNatClampNeg) + (if (b2i lm) = 0 then 0 else 5)) gm) + ((latT (cQ σ i 0).toNatClampNeg) + (if (b2i lm) = 0 then 0 else 5))))) 4 ((bgF σ (cQ σ i) ((latT (cQ σ i 0).toNatClampNeg) + (if (b2i lm) = 0 then 0 else 5)) gm) + 8))) hx hb hr hlocks hS hP d_Ck_begin_102 (by first | (simp [beF, cI_sI, cJ_sI, cF_sI, cP_sI, cQ_sI, cI_sJ, cJ_sJ, cF_sJ, cP_sJ, cQ_sJ, cI_sF, cJ_sF, cF_sF, cP_sF, cQ_sF, cI_sP, cJ_sP, cF_sP, cP_sP, cQ_sP, ix, m4, c43, c68, c86]; done) | (revert c43 c68 c86; simp [beF, cI_sI, cJ_sI, cF_sI, cP_sI, cQ_sI, cI_sJ, cJ_sJ, cF_sJ, cP_sJ, cQ_sJ, cI_sF, cJ_sF, cF_sF, cP_sF, cQ_sF, cI_sP, cJ_sP, cF_sP, cP_sP, cQ_sP, ix, m4]))
      · have c86 := b2i1 c86
        refine lv_aload_n hx hb d_Ck_begin_89 rfl (lv_at hl 2 rfl) ?_
        refine lv_aload_n hx hb d_Ck_begin_90 rfl (lv_at hl 2 rfl) ?_
        refine va_get (D := gD G) (ci := 0) (v := .int (bgF σ (cQ σ i) ((latT (cQ σ i 0).toNatClampNeg) + (if (b2i lm) = 0 then 0 else 5)) gm)) (C := R_Ck) (T := F_Ck) (N := 5) hx hb (wl_Ck hT) (fun _ h9 => h9) hown hK hP 5 rfl rfl 1 (by decide) (k_36 hT) (fun _ h9 => h9) rfl d_Ck_begin_91 ?_
        refine lv_iconst (v := 1) hx hb d_Ck_begin_94 (by decide) ?_
        refine lv_iadd hx hb d_Ck_begin_95 ?_
        refine lv_iload hx hb d_Ck_begin_96 (lv_at hl 1 rfl) ?_
        refine lv_iadd hx hb d_Ck_begin_98 ?_
        refine va_put (D := gD G) (ci := 0) (v := .int (((bgF σ (cQ σ i) ((latT (cQ σ i 0).toNatClampNeg) + (if (b2i lm) = 0 then 0 else 5)) gm) + 1) + (if (b2i lm) = 0 then 0 else 5))) (ty := .int) (C := R_Ck) (T := F_Ck) (N := 5) hx hb (wl_Ck hT) (fun _ h9 => h9) fy_Ck fy_Ck_ok fn_Ck hown hK hP hD hS 5 rfl rfl 3 (by decide) (k_39 hT) (fun _ h9 => h9) rfl (by decide +kernel) rfl rfl (Nat.le_of_ble_eq_true rfl) d_Ck_begin_99 (fun H locs hP hD hS => ?_)
        have hP : va_P (gD G) classes (cw G (sI (sI (sJ (sI (sI σ 3 (bgF σ (cQ σ i) ((latT (cQ σ i 0).toNatClampNeg) + (if (b2i lm) = 0 then 0 else 5)) gm)) 6 (b2i wj)) 1 (upd (cJ σ 1) (cQ σ i 5).toNatClampNeg ((bgF σ (cQ σ i) ((latT (cQ σ i 0).toNatClampNeg) + (if (b2i lm) = 0 then 0 else 5)) gm) + ((latT (cQ σ i 0).toNatClampNeg) + (if (b2i lm) = 0 then 0 else 5))))) 4 ((bgF σ (cQ σ i) ((latT (cQ σ i 0).toNatClampNeg) + (if (b2i lm) = 0 then 0 else 5)) gm) + 8)) 5 (((bgF σ (cQ σ i) ((latT (cQ σ i 0).toNatClampNeg) + (if (b2i lm) = 0 then 0 else 5)) gm) + 1) + (if (b2i lm) = 0 then 0 else 5)))) H := hP
        have hD : va_D (gA G) (cw G (sI (sI (sJ (sI (sI σ 3 (bgF σ (cQ σ i) ((latT (cQ σ i 0).toNatClampNeg) + (if (b2i lm) = 0 then 0 else 5)) gm)) 6 (b2i wj)) 1 (upd (cJ σ 1) (cQ σ i 5).toNatClampNeg ((bgF σ (cQ σ i) ((latT (cQ σ i 0).toNatClampNeg) + (if (b2i lm) = 0 then 0 else 5)) gm) + ((latT (cQ σ i 0).toNatClampNeg) + (if (b2i lm) = 0 then 0 else 5))))) 4 ((bgF σ (cQ σ i) ((latT (cQ σ i 0).toNatClampNeg) + (if (b2i lm) = 0 then 0 else 5)) gm) + 8)) 5 (((bgF σ (cQ σ i) ((latT (cQ σ i 0).toNatClampNeg) + (if (b2i lm) = 0 then 0 else 5)) gm) + 1) + (if (b2i lm) = 0 then 0 else 5)))) := g.d
        exact end_v (u := (sI (sI (sJ (sI (sI σ 3 (bgF σ (cQ σ i) ((latT (cQ σ i 0).toNatClampNeg) + (if (b2i lm) = 0 then 0 else 5)) gm)) 6 (b2i wj)) 1 (upd (cJ σ 1) (cQ σ i 5).toNatClampNeg ((bgF σ (cQ σ i) ((latT (cQ σ i 0).toNatClampNeg) + (if (b2i lm) = 0 then 0 else 5)) gm) + ((latT (cQ σ i 0).toNatClampNeg) + (if (b2i lm) = 0 then 0 else 5))))) 4 ((bgF σ (cQ σ i) ((latT (cQ σ i 0).toNatClampNeg) + (if (b2i lm) = 0 then 0 else 5)) gm) + 8)) 5 (((bgF σ (cQ σ i) ((latT (cQ σ i 0).toNatClampNeg) + (if (b2i lm) = 0 then 0 else 5)) gm) + 1) + (if (b2i lm) = 0 then 0 else 5)))) hx hb hr hlocks hS hP d_Ck_begin_102 (by first | (simp [beF, cI_sI, cJ_sI, cF_sI, cP_sI, cQ_sI, cI_sJ, cJ_sJ, cF_sJ, cP_sJ, cQ_sJ, cI_sF, cJ_sF, cF_sF, cP_sF, cQ_sF, cI_sP, cJ_sP, cF_sP, cP_sP, cQ_sP, ix, m4, c43, c68, c86]; done) | (revert c43 c68 c86; simp [beF, cI_sI, cJ_sI, cF_sI, cP_sI, cQ_sI, cI_sJ, cJ_sJ, cF_sJ, cP_sJ, cQ_sJ, cI_sF, cJ_sF, cF_sF, cP_sF, cQ_sF, cI_sP, cJ_sP, cF_sP, cP_sP, cQ_sP, ix, m4]))
end
section
/-! CONTRACTS: PipeComputer -/
theorem vp_lt {x : Int32} {n : Nat} (h : vp_in x n) : x.toNatClampNeg < n := by
  unfold vp_in at h
  omega
theorem vp48 {x : Int32} (h0 : ¬ x < 0) (h : x < 48) : vp_in x 48 := by
  rw [vp_in_iff]
  rw [Int32.lt_iff_toInt_lt] at h0 h
  rw [Int32.toInt_zero] at h0
  have : (48 : Int32).toInt = 48 := by decide
  omega
theorem ln1 {x : Int32} (h0 : ¬ x < 0) (h : x < 48) : vp_in ((x / 4 - x / 4 / 2 * 2) * 2) 4 := by
  obtain ⟨j, hj, rfl⟩ := vp_in_of (vp48 h0 h) (by decide)
  have : ∀ j, j < 48 → vp_in ((nI j / 4 - nI j / 4 / 2 * 2) * 2) 4 := by unfold vp_in; decide
  exact this j hj
theorem ln2 {x : Int32} (h0 : ¬ x < 0) (h : x < 48) : vp_in ((x / 4 - x / 4 / 2 * 2) * 2 + 1) 4 := by
  obtain ⟨j, hj, rfl⟩ := vp_in_of (vp48 h0 h) (by decide)
  have : ∀ j, j < 48 → vp_in ((nI j / 4 - nI j / 4 / 2 * 2) * 2 + 1) 4 := by unfold vp_in; decide
  exact this j hj
set_option maxRecDepth 100000 in
theorem at_IAE_87_in : ∀ w ∈ Bundle.ownAtoms0 R_Pc 87 "java/lang/IllegalArgumentException" ["java/lang/RuntimeException", "java/lang/Exception"], (w = .isRef (.static Bundle.tN "UNASSIGNED_STACK" Bundle.steD) ∨ w = .isRef (.static Bundle.tN "SUPPRESSED_SENTINEL" Bundle.listD) ∨ w = .laysStatic Bundle.tN "UNASSIGNED_STACK" Bundle.steD ∨ w = .laysStatic Bundle.tN "SUPPRESSED_SENTINEL" Bundle.listD) ∨ (w ∈ lw_tbl ∧ tb_ok w = true) := by decide +kernel
theorem at_IAE_87 {l : Launch} {G : GT} (g : GOK l G) {σ : CS} {s : State} {args : Array Value} {H : Heap} {locs : List Loc} (hc : Cw G σ s) (hS : va_S (gA G) s.heap H locs) : ∀ U : State, U.heap = H → s.WarmedH U.vm → ∀ w ∈ Bundle.ownAtoms0 R_Pc 87 "java/lang/IllegalArgumentException" ["java/lang/RuntimeException", "java/lang/Exception"], w.before args U = true := by
  intro U hU hW w hw
  have O := hc.1.to g.2.2.2.1 hS hU hW
  obtain ⟨h1, h2, h3, h4⟩ := g.2.2.2.2.2.2.2.2.2 U args O
  rcases at_IAE_87_in w hw with (rfl | rfl | rfl | rfl) | ⟨q1, q2⟩
  · exact h1
  · exact h2
  · exact h3
  · exact h4
  · exact (g.2.1.warm O.1).w q1 q2
set_option maxHeartbeats 4000000 in
set_option maxRecDepth 100000 in
theorem K_Pc_refuseOutside {l : Launch} {G : GT} (g : GOK l G) (σ : CS) (n gr : Int32) : cx_M l y_Pc_refuseOutside (.code y_Pc_refuseOutside b_Pc_refuseOutside 2 none) 6 89 (gA G) [.int n, .int gr] (Cw G σ) (Rv G (fun u => badR n gr = false ∧ u = σ)) (Tw G (fun E u => E = "java/lang/IllegalArgumentException" ∧ badR n gr = true ∧ u = σ)) := by
  refine cx_of (by decide +kernel) ?_
  intro p e s m below meth c s₁ B hml ht hc
  have hx := B.exec
  have hb := B.bytes
  have hr := B.returns
  have hown : s.vm.findClass R_Pc = some m.cls := findClass_of_methodNamed B.named
  have hlocks := B.notSynchronized
  have hT := g.tb hc
  have hK := g.k hc
  have hD := g.d (σ := σ)
  have hS : va_S (gA G) s.heap s.heap [] := va_S.rf
  have hP := hc.2.2
  have hl := lv_entry ([.int n, .int gr]) (n := 2) (Nat.le_of_ble_eq_true rfl)
  rw [lg_entry_eq]
  generalize (lg_sl ([.int n, .int gr]) ++ List.replicate (2 - (lg_sl ([.int n, .int gr])).length) Slot.unset).toArray = ls at hl ⊢
  have hl : lv_has ls 2 [(0, .int n), (1, .int gr)] := hl
  refine lv_iload_n hx hb d_Pc_refuseOutside_0 rfl (lv_at hl 0 rfl) ?_
  refine lv_if_lt (tgt := 9) hx hb d_Pc_refuseOutside_1 (by decide) (fun c1 => ?_) (fun c1 => ?_)
  · exact cx_throw (own := R_Pc) (cls := "java/lang/IllegalArgumentException") (names := ["java/lang/RuntimeException", "java/lang/Exception"]) (ik := 85) (ic := 87) hx hb g.1 hown (by decide +kernel) (by decide +kernel) (fun U hU hW => ⟨k_297 ((g.tb hc).warm hW), k_13 ((g.tb hc).warm hW), at_IAE_87 g hc hS U hU hW⟩) hS hc.2.1 (by rw [hml]; exact hl.1) d_Pc_refuseOutside_9 d_Pc_refuseOutside_12 d_Pc_refuseOutside_13 d_Pc_refuseOutside_16 ht hlocks (by decide) (Nat.le_of_ble_eq_true rfl) (by decide) (by decide) (fun t9 _ _ hk => Tw.i (u := σ) (⟨rfl, by simp [badR, c1], rfl⟩) (hP.keep hk))
  · refine lv_iload_n hx hb d_Pc_refuseOutside_4 rfl (lv_at hl 0 rfl) ?_
    refine lv_iload_n hx hb d_Pc_refuseOutside_5 rfl (lv_at hl 1 rfl) ?_
    refine lv_icmp_le (tgt := 17) hx hb d_Pc_refuseOutside_6 (by decide) (fun c6 => ?_) (fun c6 => ?_)
    · exact end_v (u := σ) hx hb hr hlocks hS hP d_Pc_refuseOutside_17 (⟨by simp [badR, c1, c6], rfl⟩)
    · exact cx_throw (own := R_Pc) (cls := "java/lang/IllegalArgumentException") (names := ["java/lang/RuntimeException", "java/lang/Exception"]) (ik := 85) (ic := 87) hx hb g.1 hown (by decide +kernel) (by decide +kernel) (fun U hU hW => ⟨k_297 ((g.tb hc).warm hW), k_13 ((g.tb hc).warm hW), at_IAE_87 g hc hS U hU hW⟩) hS hc.2.1 (by rw [hml]; exact hl.1) d_Pc_refuseOutside_9 d_Pc_refuseOutside_12 d_Pc_refuseOutside_13 d_Pc_refuseOutside_16 ht hlocks (by decide) (Nat.le_of_ble_eq_true rfl) (by decide) (by decide) (fun t9 _ _ hk => Tw.i (u := σ) (⟨rfl, by simp [badR, c1, c6], rfl⟩) (hP.keep hk))

set_option maxHeartbeats 4000000 in
set_option maxRecDepth 100000 in
theorem K_Pc_putWhole {l : Launch} {G : GT} (g : GOK l G) (σ : CS) (r v : Int32) (h : vp_in r 8) : cx_M l y_Pc_putWhole (.code y_Pc_putWhole b_Pc_putWhole 3 none) 0 0 (gA G) [.ref (gad G 0), .int r, .int v] (Cw G σ) (Rv G (fun u => u = pwF σ r v)) (Tn) := by
  refine cx_of (by decide +kernel) ?_
  intro p e s m below meth c s₁ B hml ht hc
  have hx := B.exec
  have hb := B.bytes
  have hr := B.returns
  have hown : s.vm.findClass R_Pc = some m.cls := findClass_of_methodNamed B.named
  have hlocks := B.notSynchronized
  have hT := g.tb hc
  have hK := g.k hc
  have hD := g.d (σ := σ)
  have hS : va_S (gA G) s.heap s.heap [] := va_S.rf
  have hP := hc.2.2
  have hl := lv_entry ([.ref (gad G 0), .int r, .int v]) (n := 3) (Nat.le_of_ble_eq_true rfl)
  rw [lg_entry_eq]
  generalize (lg_sl ([.ref (gad G 0), .int r, .int v]) ++ List.replicate (3 - (lg_sl ([.ref (gad G 0), .int r, .int v])).length) Slot.unset).toArray = ls at hl ⊢
  have hl : lv_has ls 3 [(0, .ref (gad G 0)), (1, .int r), (2, .int v)] := hl
  refine lv_iload_n hx hb d_Pc_putWhole_0 rfl (lv_at hl 1 rfl) ?_
  refine lv_if_eq (tgt := 11) hx hb d_Pc_putWhole_1 (by decide) (fun c1 => ?_) (fun c1 => ?_)
  · exact end_v (u := σ) hx hb hr hlocks hS hP d_Pc_putWhole_11 (by first | (simp [pwF, cI_sI, cJ_sI, cF_sI, cP_sI, cQ_sI, cI_sJ, cJ_sJ, cF_sJ, cP_sJ, cQ_sJ, cI_sF, cJ_sF, cF_sF, cP_sF, cQ_sF, cI_sP, cJ_sP, cF_sP, cP_sP, cQ_sP, ix, m4, c1]; done) | (revert c1; simp [pwF, cI_sI, cJ_sI, cF_sI, cP_sI, cQ_sI, cI_sJ, cJ_sJ, cF_sJ, cP_sJ, cQ_sJ, cI_sF, cJ_sF, cF_sF, cP_sF, cQ_sF, cI_sP, cJ_sP, cF_sP, cP_sP, cQ_sP, ix, m4]))
  · refine lv_aload_n hx hb d_Pc_putWhole_4 rfl (lv_at hl 0 rfl) ?_
    refine va_get (D := gD G) (ci := 6) (v := .ref (gad G 3)) (C := R_Pc) (T := F_Pc) (N := 12) hx hb (wl_Pc hT) (fun _ h9 => h9) hown hK hP 0 rfl rfl 2 (by decide) (k_181 hT) (fun _ h9 => h9) rfl d_Pc_putWhole_5 ?_
    refine lv_iload_n hx hb d_Pc_putWhole_8 rfl (lv_at hl 1 rfl) ?_
    refine lv_iload_n hx hb d_Pc_putWhole_9 rfl (lv_at hl 2 rfl) ?_
    refine va_iast (f := (cJ σ 0)) hx hb hK hP hD hS 3 0 rfl rfl (h) d_Pc_putWhole_10 (fun H locs hP hD hS => ?_)
    have hP : va_P (gD G) classes (cw G (sJ σ 0 (upd (cJ σ 0) r.toNatClampNeg v))) H := hP
    have hD : va_D (gA G) (cw G (sJ σ 0 (upd (cJ σ 0) r.toNatClampNeg v))) := g.d
    exact end_v (u := (sJ σ 0 (upd (cJ σ 0) r.toNatClampNeg v))) hx hb hr hlocks hS hP d_Pc_putWhole_11 (by first | (simp [pwF, cI_sI, cJ_sI, cF_sI, cP_sI, cQ_sI, cI_sJ, cJ_sJ, cF_sJ, cP_sJ, cQ_sJ, cI_sF, cJ_sF, cF_sF, cP_sF, cQ_sF, cI_sP, cJ_sP, cF_sP, cP_sP, cQ_sP, ix, m4, c1]; done) | (revert c1; simp [pwF, cI_sI, cJ_sI, cF_sI, cP_sI, cQ_sI, cI_sJ, cJ_sJ, cF_sJ, cP_sJ, cQ_sJ, cI_sF, cJ_sF, cF_sF, cP_sF, cQ_sF, cI_sP, cJ_sP, cF_sP, cP_sP, cQ_sP, ix, m4]))

set_option maxHeartbeats 4000000 in
set_option maxRecDepth 100000 in
theorem K_Pc_jumpIsDue {l : Launch} {G : GT} (g : GOK l G) (σ : CS) {i : Nat} (hi : i < 24) (h : okQ (cQ σ i)) : cx_M l y_Pc_jumpIsDue (.code y_Pc_jumpIsDue b_Pc_jumpIsDue 3 (some .boolean)) 0 0 (gA G) [.ref (gad G 0), .ref (gia G i)] (Cw G σ) (Ri G (fun r u => r = b2i (jdF σ (cQ σ i)) ∧ u = σ)) (Tn) := by
  refine cx_of (by decide +kernel) ?_
  intro p e s m below meth c s₁ B hml ht hc
  have hx := B.exec
  have hb := B.bytes
  have hr := B.returns
  have hown : s.vm.findClass R_Pc = some m.cls := findClass_of_methodNamed B.named
  have hlocks := B.notSynchronized
  have hT := g.tb hc
  have hK := g.k hc
  have hD := g.d (σ := σ)
  have hS : va_S (gA G) s.heap s.heap [] := va_S.rf
  have hP := hc.2.2
  have hl := lv_entry ([.ref (gad G 0), .ref (gia G i)]) (n := 3) (Nat.le_of_ble_eq_true rfl)
  rw [lg_entry_eq]
  generalize (lg_sl ([.ref (gad G 0), .ref (gia G i)]) ++ List.replicate (3 - (lg_sl ([.ref (gad G 0), .ref (gia G i)])).length) Slot.unset).toArray = ls at hl ⊢
  have hl : lv_has ls 3 [(0, .ref (gad G 0)), (1, .ref (gia G i))] := hl
  refine lv_aload_n hx hb d_Pc_jumpIsDue_0 rfl (lv_at hl 0 rfl) ?_
  refine va_get (D := gD G) (ci := 6) (v := .ref (gad G 3)) (C := R_Pc) (T := F_Pc) (N := 12) hx hb (wl_Pc hT) (fun _ h9 => h9) hown hK hP 0 rfl rfl 2 (by decide) (k_181 hT) (fun _ h9 => h9) rfl d_Pc_jumpIsDue_1 ?_
  refine lv_aload_n hx hb d_Pc_jumpIsDue_4 rfl (lv_at hl 1 rfl) ?_
  refine va_get (D := gD G) (ci := 3) (v := .int (cQ σ i 2)) (C := R_In) (T := F_In) (N := 8) hx hb (wl_In hT) (fun _ h9 => h9) hown hK hP (19 + i) (cw_in hi) rfl 2 (by decide) (k_151 hT) (fun _ h9 => h9) rfl d_Pc_jumpIsDue_5 ?_
  refine va_iald (f := (cJ σ 0)) hx hb hK hP 3 0 rfl rfl (h.2.2.1) d_Pc_jumpIsDue_8 ?_
  refine lv_aload_n hx hb d_Pc_jumpIsDue_9 rfl (lv_at hl 0 rfl) ?_
  refine va_get (D := gD G) (ci := 6) (v := .ref (gad G 3)) (C := R_Pc) (T := F_Pc) (N := 12) hx hb (wl_Pc hT) (fun _ h9 => h9) hown hK hP 0 rfl rfl 2 (by decide) (k_181 hT) (fun _ h9 => h9) rfl d_Pc_jumpIsDue_10 ?_
  refine lv_aload_n hx hb d_Pc_jumpIsDue_13 rfl (lv_at hl 1 rfl) ?_
  refine va_get (D := gD G) (ci := 3) (v := .int (cQ σ i 3)) (C := R_In) (T := F_In) (N := 8) hx hb (wl_In hT) (fun _ h9 => h9) hown hK hP (19 + i) (cw_in hi) rfl 3 (by decide) (k_153 hT) (fun _ h9 => h9) rfl d_Pc_jumpIsDue_14 ?_
  refine va_iald (f := (cJ σ 0)) hx hb hK hP 3 0 rfl rfl (h.2.2.2.1) d_Pc_jumpIsDue_17 ?_
  refine lv_icmp_ne (tgt := 25) hx hb d_Pc_jumpIsDue_18 (by decide) (fun c18 => ?_) (fun c18 => ?_)
  · refine lv_iconst (v := 0) hx hb d_Pc_jumpIsDue_25 (by decide) ?_
    refine lv_istore_n (lv' := [(2, .int 0), (0, .ref (gad G 0)), (1, .ref (gia G i))]) hx hb d_Pc_jumpIsDue_26 rfl hl (by decide) rfl (fun ls hl => ?_)
    refine lv_aload_n hx hb d_Pc_jumpIsDue_27 rfl (lv_at hl 2 rfl) ?_
    refine va_get (D := gD G) (ci := 3) (v := .int (cQ σ i 0)) (C := R_In) (T := F_In) (N := 8) hx hb (wl_In hT) (fun _ h9 => h9) hown hK hP (19 + i) (cw_in hi) rfl 0 (by decide) (k_147 hT) (fun _ h9 => h9) rfl d_Pc_jumpIsDue_28 ?_
    by_cases c31_17 : (cQ σ i 0) = 17
    · refine lv_lookup (off := 25) (tgt := 56) hx hb d_Pc_jumpIsDue_31 (by decide) (by rw [c31_17]; rfl) (by decide) ?_
      refine lv_iload_n hx hb d_Pc_jumpIsDue_56 rfl (lv_at hl 0 rfl) ?_
      exact end_z (u := σ) hx hb hr hlocks hS hP d_Pc_jumpIsDue_57 rfl (⟨by simp [jdF, b2i, ix, c18, c31_17], rfl⟩)
    by_cases c31_18 : (cQ σ i 0) = 18
    · refine lv_lookup (off := 27) (tgt := 58) hx hb d_Pc_jumpIsDue_31 (by decide) (by rw [c31_18]; rfl) (by decide) ?_
      refine lv_iload_n hx hb d_Pc_jumpIsDue_58 rfl (lv_at hl 0 rfl) ?_
      refine lv_if_ne (tgt := 66) hx hb d_Pc_jumpIsDue_59 (by decide) (fun c59 => ?_) (fun c59 => ?_)
      · exact absurd rfl c59
      · refine lv_iconst (v := 1) hx hb d_Pc_jumpIsDue_62 (by decide) ?_
        refine lv_goto (tgt := 67) hx hb d_Pc_jumpIsDue_63 (by decide) ?_
        exact end_z (u := σ) hx hb hr hlocks hS hP d_Pc_jumpIsDue_67 rfl (⟨by simp [jdF, b2i, ix, c18, c31_17, c31_18], rfl⟩)
    refine lv_lookup (off := 37) (tgt := 68) hx hb d_Pc_jumpIsDue_31 (by decide) ((lv_osw c31_17 (by decide)).trans ((lv_osw c31_18 (by decide)).trans rfl)) (by decide) ?_
    refine lv_iconst (v := 1) hx hb d_Pc_jumpIsDue_68 (by decide) ?_
    exact end_z (u := σ) hx hb hr hlocks hS hP d_Pc_jumpIsDue_69 rfl (⟨by simp [jdF, b2i, ix, c18, c31_17, c31_18], rfl⟩)
  · refine lv_iconst (v := 1) hx hb d_Pc_jumpIsDue_21 (by decide) ?_
    refine lv_goto (tgt := 26) hx hb d_Pc_jumpIsDue_22 (by decide) ?_
    refine lv_istore_n (lv' := [(2, .int 1), (0, .ref (gad G 0)), (1, .ref (gia G i))]) hx hb d_Pc_jumpIsDue_26 rfl hl (by decide) rfl (fun ls hl => ?_)
    refine lv_aload_n hx hb d_Pc_jumpIsDue_27 rfl (lv_at hl 2 rfl) ?_
    refine va_get (D := gD G) (ci := 3) (v := .int (cQ σ i 0)) (C := R_In) (T := F_In) (N := 8) hx hb (wl_In hT) (fun _ h9 => h9) hown hK hP (19 + i) (cw_in hi) rfl 0 (by decide) (k_147 hT) (fun _ h9 => h9) rfl d_Pc_jumpIsDue_28 ?_
    by_cases c31_17 : (cQ σ i 0) = 17
    · refine lv_lookup (off := 25) (tgt := 56) hx hb d_Pc_jumpIsDue_31 (by decide) (by rw [c31_17]; rfl) (by decide) ?_
      refine lv_iload_n hx hb d_Pc_jumpIsDue_56 rfl (lv_at hl 0 rfl) ?_
      exact end_z (u := σ) hx hb hr hlocks hS hP d_Pc_jumpIsDue_57 rfl (⟨by simp [jdF, b2i, ix, c18, c31_17], rfl⟩)
    by_cases c31_18 : (cQ σ i 0) = 18
    · refine lv_lookup (off := 27) (tgt := 58) hx hb d_Pc_jumpIsDue_31 (by decide) (by rw [c31_18]; rfl) (by decide) ?_
      refine lv_iload_n hx hb d_Pc_jumpIsDue_58 rfl (lv_at hl 0 rfl) ?_
      refine lv_if_ne (tgt := 66) hx hb d_Pc_jumpIsDue_59 (by decide) (fun c59 => ?_) (fun c59 => ?_)
      · refine lv_iconst (v := 0) hx hb d_Pc_jumpIsDue_66 (by decide) ?_
        exact end_z (u := σ) hx hb hr hlocks hS hP d_Pc_jumpIsDue_67 rfl (⟨by simp [jdF, b2i, ix, c18, c31_17, c31_18], rfl⟩)
      · exact absurd c59 (by decide)
    refine lv_lookup (off := 37) (tgt := 68) hx hb d_Pc_jumpIsDue_31 (by decide) ((lv_osw c31_17 (by decide)).trans ((lv_osw c31_18 (by decide)).trans rfl)) (by decide) ?_
    refine lv_iconst (v := 1) hx hb d_Pc_jumpIsDue_68 (by decide) ?_
    exact end_z (u := σ) hx hb hr hlocks hS hP d_Pc_jumpIsDue_69 rfl (⟨by simp [jdF, b2i, ix, c18, c31_17, c31_18], rfl⟩)

set_option maxHeartbeats 4000000 in
set_option maxRecDepth 100000 in
theorem K_Pc_computedWhole {l : Launch} {G : GT} (g : GOK l G) (σ : CS) {i : Nat} (hi : i < 24) (h : okQ (cQ σ i)) : cx_M l y_Pc_computedWhole (.code y_Pc_computedWhole b_Pc_computedWhole 4 (some .int)) 0 0 (gA G) [.ref (gad G 0), .ref (gia G i)] (Cw G σ) (Ri G (fun r u => r = cwF σ (cQ σ i) ∧ u = σ)) (Tn) := by
  refine cx_of (by decide +kernel) ?_
  intro p e s m below meth c s₁ B hml ht hc
  have hx := B.exec
  have hb := B.bytes
  have hr := B.returns
  have hown : s.vm.findClass R_Pc = some m.cls := findClass_of_methodNamed B.named
  have hlocks := B.notSynchronized
  have hT := g.tb hc
  have hK := g.k hc
  have hD := g.d (σ := σ)
  have hS : va_S (gA G) s.heap s.heap [] := va_S.rf
  have hP := hc.2.2
  have hl := lv_entry ([.ref (gad G 0), .ref (gia G i)]) (n := 4) (Nat.le_of_ble_eq_true rfl)
  rw [lg_entry_eq]
  generalize (lg_sl ([.ref (gad G 0), .ref (gia G i)]) ++ List.replicate (4 - (lg_sl ([.ref (gad G 0), .ref (gia G i)])).length) Slot.unset).toArray = ls at hl ⊢
  have hl : lv_has ls 4 [(0, .ref (gad G 0)), (1, .ref (gia G i))] := hl
  refine lv_aload_n hx hb d_Pc_computedWhole_0 rfl (lv_at hl 0 rfl) ?_
  refine va_get (D := gD G) (ci := 6) (v := .ref (gad G 3)) (C := R_Pc) (T := F_Pc) (N := 12) hx hb (wl_Pc hT) (fun _ h9 => h9) hown hK hP 0 rfl rfl 2 (by decide) (k_181 hT) (fun _ h9 => h9) rfl d_Pc_computedWhole_1 ?_
  refine lv_aload_n hx hb d_Pc_computedWhole_4 rfl (lv_at hl 1 rfl) ?_
  refine va_get (D := gD G) (ci := 3) (v := .int (cQ σ i 2)) (C := R_In) (T := F_In) (N := 8) hx hb (wl_In hT) (fun _ h9 => h9) hown hK hP (19 + i) (cw_in hi) rfl 2 (by decide) (k_151 hT) (fun _ h9 => h9) rfl d_Pc_computedWhole_5 ?_
  refine va_iald (f := (cJ σ 0)) hx hb hK hP 3 0 rfl rfl (h.2.2.1) d_Pc_computedWhole_8 ?_
  refine lv_istore_n (lv' := [(2, .int ((cJ σ 0) (cQ σ i 2).toNatClampNeg)), (0, .ref (gad G 0)), (1, .ref (gia G i))]) hx hb d_Pc_computedWhole_9 rfl hl (by decide) rfl (fun ls hl => ?_)
  refine lv_aload_n hx hb d_Pc_computedWhole_10 rfl (lv_at hl 1 rfl) ?_
  refine va_get (D := gD G) (ci := 6) (v := .ref (gad G 3)) (C := R_Pc) (T := F_Pc) (N := 12) hx hb (wl_Pc hT) (fun _ h9 => h9) hown hK hP 0 rfl rfl 2 (by decide) (k_181 hT) (fun _ h9 => h9) rfl d_Pc_computedWhole_11 ?_
  refine lv_aload_n hx hb d_Pc_computedWhole_14 rfl (lv_at hl 2 rfl) ?_
  refine va_get (D := gD G) (ci := 3) (v := .int (cQ σ i 3)) (C := R_In) (T := F_In) (N := 8) hx hb (wl_In hT) (fun _ h9 => h9) hown hK hP (19 + i) (cw_in hi) rfl 3 (by decide) (k_153 hT) (fun _ h9 => h9) rfl d_Pc_computedWhole_15 ?_
  refine va_iald (f := (cJ σ 0)) hx hb hK hP 3 0 rfl rfl (h.2.2.2.1) d_Pc_computedWhole_18 ?_
  refine lv_istore_n (lv' := [(3, .int ((cJ σ 0) (cQ σ i 3).toNatClampNeg)), (2, .int ((cJ σ 0) (cQ σ i 2).toNatClampNeg)), (0, .ref (gad G 0)), (1, .ref (gia G i))]) hx hb d_Pc_computedWhole_19 rfl hl (by decide) rfl (fun ls hl => ?_)
  refine lv_aload_n hx hb d_Pc_computedWhole_20 rfl (lv_at hl 3 rfl) ?_
  refine va_get (D := gD G) (ci := 3) (v := .int (cQ σ i 0)) (C := R_In) (T := F_In) (N := 8) hx hb (wl_In hT) (fun _ h9 => h9) hown hK hP (19 + i) (cw_in hi) rfl 0 (by decide) (k_147 hT) (fun _ h9 => h9) rfl d_Pc_computedWhole_21 ?_
  by_cases c24_1 : (cQ σ i 0) = 1
  · refine lv_tableIn (tgt := 56) hx hb d_Pc_computedWhole_24 (by rw [c24_1]; decide) (by rw [c24_1]; decide) (by rw [c24_1]; rfl) (by decide) ?_
    refine lv_iload_n hx hb d_Pc_computedWhole_56 rfl (lv_at hl 1 rfl) ?_
    refine lv_aload_n hx hb d_Pc_computedWhole_57 rfl (lv_at hl 3 rfl) ?_
    refine va_get (D := gD G) (ci := 3) (v := .int (cQ σ i 4)) (C := R_In) (T := F_In) (N := 8) hx hb (wl_In hT) (fun _ h9 => h9) hown hK hP (19 + i) (cw_in hi) rfl 4 (by decide) (k_155 hT) (fun _ h9 => h9) rfl d_Pc_computedWhole_58 ?_
    refine lv_iadd hx hb d_Pc_computedWhole_61 ?_
    exact end_i (u := σ) hx hb hr hlocks hS hP d_Pc_computedWhole_62 (⟨by simp [cwF, ix, c24_1], rfl⟩)
  by_cases c24_2 : (cQ σ i 0) = 2
  · refine lv_tableIn (tgt := 63) hx hb d_Pc_computedWhole_24 (by rw [c24_2]; decide) (by rw [c24_2]; decide) (by rw [c24_2]; rfl) (by decide) ?_
    refine lv_iload_n hx hb d_Pc_computedWhole_63 rfl (lv_at hl 1 rfl) ?_
    refine lv_iload_n hx hb d_Pc_computedWhole_64 rfl (lv_at hl 0 rfl) ?_
    refine lv_iadd hx hb d_Pc_computedWhole_65 ?_
    exact end_i (u := σ) hx hb hr hlocks hS hP d_Pc_computedWhole_66 (⟨by simp [cwF, ix, c24_1, c24_2], rfl⟩)
  by_cases c24_3 : (cQ σ i 0) = 3
  · refine lv_tableIn (tgt := 67) hx hb d_Pc_computedWhole_24 (by rw [c24_3]; decide) (by rw [c24_3]; decide) (by rw [c24_3]; rfl) (by decide) ?_
    refine lv_iload_n hx hb d_Pc_computedWhole_67 rfl (lv_at hl 1 rfl) ?_
    refine lv_iload_n hx hb d_Pc_computedWhole_68 rfl (lv_at hl 0 rfl) ?_
    refine lv_isub hx hb d_Pc_computedWhole_69 ?_
    exact end_i (u := σ) hx hb hr hlocks hS hP d_Pc_computedWhole_70 (⟨by simp [cwF, ix, c24_1, c24_2, c24_3], rfl⟩)
  by_cases c24_4 : (cQ σ i 0) = 4
  · refine lv_tableIn (tgt := 71) hx hb d_Pc_computedWhole_24 (by rw [c24_4]; decide) (by rw [c24_4]; decide) (by rw [c24_4]; rfl) (by decide) ?_
    refine lv_iload_n hx hb d_Pc_computedWhole_71 rfl (lv_at hl 1 rfl) ?_
    refine lv_iload_n hx hb d_Pc_computedWhole_72 rfl (lv_at hl 0 rfl) ?_
    refine lv_imul hx hb d_Pc_computedWhole_73 ?_
    exact end_i (u := σ) hx hb hr hlocks hS hP d_Pc_computedWhole_74 (⟨by simp [cwF, ix, c24_1, c24_2, c24_3, c24_4], rfl⟩)
  refine lv_tableOut (tgt := 75) hx hb d_Pc_computedWhole_24 (tsw_out (n := 4) (l := [1, 2, 3, 4]) (by decide) (by decide) (by simp [c24_1, c24_2, c24_3, c24_4])) (by decide) ?_
  refine lv_iload_n hx hb d_Pc_computedWhole_75 rfl (lv_at hl 1 rfl) ?_
  refine lv_iload_n hx hb d_Pc_computedWhole_76 rfl (lv_at hl 0 rfl) ?_
  refine lv_icmp_ge (tgt := 84) hx hb d_Pc_computedWhole_77 (by decide) (fun c77 => ?_) (fun c77 => ?_)
  · refine lv_iconst (v := 0) hx hb d_Pc_computedWhole_84 (by decide) ?_
    exact end_i (u := σ) hx hb hr hlocks hS hP d_Pc_computedWhole_85 (⟨by simp [cwF, ix, c24_1, c24_2, c24_3, c24_4, c77], rfl⟩)
  · refine lv_iconst (v := 1) hx hb d_Pc_computedWhole_80 (by decide) ?_
    refine lv_goto (tgt := 85) hx hb d_Pc_computedWhole_81 (by decide) ?_
    exact end_i (u := σ) hx hb hr hlocks hS hP d_Pc_computedWhole_85 (⟨by simp [cwF, ix, c24_1, c24_2, c24_3, c24_4, c77], rfl⟩)

set_option maxRecDepth 100000 in
theorem at_AE_201_in : ∀ w ∈ Bundle.ownAtoms0 R_Pc 201 "java/lang/ArithmeticException" ["java/lang/RuntimeException", "java/lang/Exception"], (w = .isRef (.static Bundle.tN "UNASSIGNED_STACK" Bundle.steD) ∨ w = .isRef (.static Bundle.tN "SUPPRESSED_SENTINEL" Bundle.listD) ∨ w = .laysStatic Bundle.tN "UNASSIGNED_STACK" Bundle.steD ∨ w = .laysStatic Bundle.tN "SUPPRESSED_SENTINEL" Bundle.listD) ∨ (w ∈ lw_tbl ∧ tb_ok w = true) := by decide +kernel
theorem at_AE_201 {l : Launch} {G : GT} (g : GOK l G) {σ : CS} {s : State} {args : Array Value} {H : Heap} {locs : List Loc} (hc : Cw G σ s) (hS : va_S (gA G) s.heap H locs) : ∀ U : State, U.heap = H → s.WarmedH U.vm → ∀ w ∈ Bundle.ownAtoms0 R_Pc 201 "java/lang/ArithmeticException" ["java/lang/RuntimeException", "java/lang/Exception"], w.before args U = true := by
  intro U hU hW w hw
  have O := hc.1.to g.2.2.2.1 hS hU hW
  obtain ⟨h1, h2, h3, h4⟩ := g.2.2.2.2.2.2.2.2.2 U args O
  rcases at_AE_201_in w hw with (rfl | rfl | rfl | rfl) | ⟨q1, q2⟩
  · exact h1
  · exact h2
  · exact h3
  · exact h4
  · exact (g.2.1.warm O.1).w q1 q2
set_option maxHeartbeats 4000000 in
set_option maxRecDepth 100000 in
theorem K_Pc_quotient {l : Launch} {G : GT} (g : GOK l G) (σ : CS) (x y : UInt64) (hxf : fp_fin x) (hyf : fp_fin y) : cx_M l y_Pc_quotient (.code y_Pc_quotient b_Pc_quotient 5 (some .double)) 6 89 (gA G) [.ref (gad G 0), .double x, .double y] (Cw G σ) (Rd G (fun r u => (¬ Op.cmpValue (FP.dcmp y FP.dconst0) .l = 0 ∧ r = FP.ddiv x y) ∧ u = σ)) (Tw G (fun E u => E = "java/lang/ArithmeticException" ∧ Op.cmpValue (FP.dcmp y FP.dconst0) .l = 0 ∧ u = sI σ 1 1)) := by
  refine cx_of (by decide +kernel) ?_
  intro p e s m below meth c s₁ B hml ht hc
  have hx := B.exec
  have hb := B.bytes
  have hr := B.returns
  have hown : s.vm.findClass R_Pc = some m.cls := findClass_of_methodNamed B.named
  have hlocks := B.notSynchronized
  have hT := g.tb hc
  have hK := g.k hc
  have hD := g.d (σ := σ)
  have hS : va_S (gA G) s.heap s.heap [] := va_S.rf
  have hP := hc.2.2
  have hl := lv_entry ([.ref (gad G 0), .double x, .double y]) (n := 5) (Nat.le_of_ble_eq_true rfl)
  rw [lg_entry_eq]
  generalize (lg_sl ([.ref (gad G 0), .double x, .double y]) ++ List.replicate (5 - (lg_sl ([.ref (gad G 0), .double x, .double y])).length) Slot.unset).toArray = ls at hl ⊢
  have hl : lv_has ls 5 [(0, .ref (gad G 0)), (1, .double x), (3, .double y)] := hl
  refine lv_dload_n hx hb d_Pc_quotient_0 rfl (lv_at hl 2 rfl) ?_
  refine lv_dconst0 hx hb d_Pc_quotient_1 ?_
  refine lv_dcmp hx hb d_Pc_quotient_2 ?_
  refine lv_if_ne (tgt := 19) hx hb d_Pc_quotient_3 (by decide) (fun c3 => ?_) (fun c3 => ?_)
  · refine lv_dload_n hx hb d_Pc_quotient_19 rfl (lv_at hl 1 rfl) ?_
    refine lv_dload_n hx hb d_Pc_quotient_20 rfl (lv_at hl 2 rfl) ?_
    refine lv_ddiv hx hb d_Pc_quotient_21 (fp_div hxf hyf (fun z => c3 (by rw [z]; rfl))) ?_
    exact end_d (u := σ) hx hb hr hlocks hS hP d_Pc_quotient_22 (⟨⟨c3, rfl⟩, rfl⟩)
  · refine lv_aload_n hx hb d_Pc_quotient_6 rfl (lv_at hl 0 rfl) ?_
    refine lv_iconst (v := 1) hx hb d_Pc_quotient_7 (by decide) ?_
    refine va_put (D := gD G) (ci := 6) (v := .int 1) (ty := .boolean) (C := R_Pc) (T := F_Pc) (N := 12) hx hb (wl_Pc hT) (fun _ h9 => h9) fy_Pc fy_Pc_ok fn_Pc hown hK hP hD hS 0 rfl rfl 10 (by decide) (k_189 hT) (fun _ h9 => h9) rfl (by decide +kernel) rfl rfl (Nat.le_of_ble_eq_true rfl) d_Pc_quotient_8 (fun H locs hP hD hS => ?_)
    have hP : va_P (gD G) classes (cw G (sI σ 1 1)) H := hP
    have hD : va_D (gA G) (cw G (sI σ 1 1)) := g.d
    exact cx_throw (own := R_Pc) (cls := "java/lang/ArithmeticException") (names := ["java/lang/RuntimeException", "java/lang/Exception"]) (ik := 199) (ic := 201) hx hb g.1 hown (by decide +kernel) (by decide +kernel) (fun U hU hW => ⟨k_499 ((g.tb hc).warm hW), k_17 ((g.tb hc).warm hW), at_AE_201 g hc hS U hU hW⟩) hS hc.2.1 (by rw [hml]; exact hl.1) d_Pc_quotient_11 d_Pc_quotient_14 d_Pc_quotient_15 d_Pc_quotient_18 ht hlocks (by decide) (Nat.le_of_ble_eq_true rfl) (by decide) (by decide) (fun t9 _ _ hk => Tw.i (u := (sI σ 1 1)) (⟨rfl, c3, rfl⟩) (hP.keep hk))

set_option maxHeartbeats 4000000 in
set_option maxRecDepth 100000 in
theorem K_Pc_outcomeOf {l : Launch} {G : GT} (g : GOK l G) (σ : CS) (o : Int32) (x y : UInt64) (hxf : fp_fin x) (hyf : fp_fin y) : cx_M l y_Pc_outcomeOf (.code y_Pc_outcomeOf b_Pc_outcomeOf 6 (some .double)) 7 113 (gA G) [.ref (gad G 0), .int o, .double x, .double y] (Cw G σ) (Rd G (fun r u => (dzF o y = false ∧ r = ocF o x y) ∧ u = σ)) (Tw G (fun E u => E = "java/lang/ArithmeticException" ∧ dzF o y = true ∧ u = sI σ 1 1)) := by
  refine cx_of (by decide +kernel) ?_
  intro p e s m below meth c s₁ B hml ht hc
  have hx := B.exec
  have hb := B.bytes
  have hr := B.returns
  have hown : s.vm.findClass R_Pc = some m.cls := findClass_of_methodNamed B.named
  have hlocks := B.notSynchronized
  have hT := g.tb hc
  have hK := g.k hc
  have hD := g.d (σ := σ)
  have hS : va_S (gA G) s.heap s.heap [] := va_S.rf
  have hP := hc.2.2
  have hl := lv_entry ([.ref (gad G 0), .int o, .double x, .double y]) (n := 6) (Nat.le_of_ble_eq_true rfl)
  rw [lg_entry_eq]
  generalize (lg_sl ([.ref (gad G 0), .int o, .double x, .double y]) ++ List.replicate (6 - (lg_sl ([.ref (gad G 0), .int o, .double x, .double y])).length) Slot.unset).toArray = ls at hl ⊢
  have hl : lv_has ls 6 [(0, .ref (gad G 0)), (1, .int o), (2, .double x), (4, .double y)] := hl
  refine lv_iload_n hx hb d_Pc_outcomeOf_0 rfl (lv_at hl 1 rfl) ?_
  by_cases c1_10 : o = 10
  · refine lv_tableIn (tgt := 28) hx hb d_Pc_outcomeOf_1 (by rw [c1_10]; decide) (by rw [c1_10]; decide) (by rw [c1_10]; rfl) (by decide) ?_
    refine lv_dload_n hx hb d_Pc_outcomeOf_28 rfl (lv_at hl 2 rfl) ?_
    refine lv_dload hx hb d_Pc_outcomeOf_29 (lv_at hl 3 rfl) ?_
    refine lv_dadd hx hb d_Pc_outcomeOf_31 (fp_add hxf hyf) ?_
    exact end_d (u := σ) hx hb hr hlocks hS hP d_Pc_outcomeOf_32 (⟨⟨by simp [dzF, c1_10], by simp [ocF, c1_10]⟩, rfl⟩)
  by_cases c1_11 : o = 11
  · refine lv_tableIn (tgt := 33) hx hb d_Pc_outcomeOf_1 (by rw [c1_11]; decide) (by rw [c1_11]; decide) (by rw [c1_11]; rfl) (by decide) ?_
    refine lv_dload_n hx hb d_Pc_outcomeOf_33 rfl (lv_at hl 2 rfl) ?_
    refine lv_dload hx hb d_Pc_outcomeOf_34 (lv_at hl 3 rfl) ?_
    refine lv_dsub hx hb d_Pc_outcomeOf_36 (fp_sub hxf hyf) ?_
    exact end_d (u := σ) hx hb hr hlocks hS hP d_Pc_outcomeOf_37 (⟨⟨by simp [dzF, c1_10, c1_11], by simp [ocF, c1_10, c1_11]⟩, rfl⟩)
  by_cases c1_12 : o = 12
  · refine lv_tableIn (tgt := 38) hx hb d_Pc_outcomeOf_1 (by rw [c1_12]; decide) (by rw [c1_12]; decide) (by rw [c1_12]; rfl) (by decide) ?_
    refine lv_dload_n hx hb d_Pc_outcomeOf_38 rfl (lv_at hl 2 rfl) ?_
    refine lv_dload hx hb d_Pc_outcomeOf_39 (lv_at hl 3 rfl) ?_
    refine lv_dmul hx hb d_Pc_outcomeOf_41 (fp_mul hxf hyf) ?_
    exact end_d (u := σ) hx hb hr hlocks hS hP d_Pc_outcomeOf_42 (⟨⟨by simp [dzF, c1_10, c1_11, c1_12], by simp [ocF, c1_10, c1_11, c1_12]⟩, rfl⟩)
  refine lv_tableOut (tgt := 43) hx hb d_Pc_outcomeOf_1 (tsw_out (n := 3) (l := [10, 11, 12]) (by decide) (by decide) (by simp [c1_10, c1_11, c1_12])) (by decide) ?_
  refine lv_aload_n hx hb d_Pc_outcomeOf_43 rfl (lv_at hl 0 rfl) ?_
  refine lv_dload_n hx hb d_Pc_outcomeOf_44 rfl (lv_at hl 2 rfl) ?_
  refine lv_dload hx hb d_Pc_outcomeOf_45 (lv_at hl 3 rfl) ?_
  refine cx_V (n := 2) (C := R_Pc) (As := [.double x, .double y]) (rest := []) ⟨hx, hb, hml, hown, fun _ h9 => nomatch h9⟩ (K_Pc_quotient g σ x y hxf hyf) (k_495 hT) (k_497 hT) (ks_15 hT) (k_498 hT) (k_1 hT) rfl (by decide +kernel) (va_recv hK hP (ci := 6) (q0 := 0) rfl rfl) (hc.at g hS hP) ⟨by decide, by decide⟩ ⟨by decide, by decide⟩ hl.1 (Nat.le_of_ble_eq_true rfl) d_Pc_outcomeOf_47 (fun _ h9 => h9) hS (fun E ce q t H1 locs ht9 hTx hz hk hS hce hcv hcl => ?_) (fun v t H locs ht9 hRt hz hk hS => ?_)
  · obtain ⟨u, hq, hP⟩ := hTx; rw [ht9] at hP; exact cx_out ht hlocks hce hcv hcl hS (fun t9 h9 _ => Tw.i (u := u) (⟨hq.1, by simp [dzF, hq.2.1, c1_10, c1_11, c1_12], hq.2.2⟩) (by rw [h9]; exact hP)) (by decide) (by decide)
  · obtain ⟨r, u, rfl, ⟨⟨hdz, er⟩, eu⟩, hP⟩ := hRt
    subst er
    rw [eu, ht9] at hP
    have hD : va_D (gA G) (cw G σ) := g.d
    refine W.eq (g2 := F0 m 50 ls [.double (FP.ddiv x y)]) rfl ?_
    exact end_d (u := σ) hx hb hr hlocks hS hP d_Pc_outcomeOf_50 (⟨⟨by simp [dzF, c1_10, c1_11, c1_12, hdz], by simp [ocF, c1_10, c1_11, c1_12]⟩, rfl⟩)

set_option maxHeartbeats 4000000 in
set_option maxRecDepth 100000 in
theorem K_Pc_computedFraction {l : Launch} {G : GT} (g : GOK l G) (σ : CS) (o : Int32) (x y : UInt64) (hxf : fp_fin x) (hyf : fp_fin y) : cx_M l y_Pc_computedFraction (.code y_Pc_computedFraction b_Pc_computedFraction 8 (some .double)) 8 138 (gA G) [.ref (gad G 0), .int o, .double x, .double y] (Cw G σ) (Rd G (fun r u => (cfT o x y = false ∧ r = ocF o x y) ∧ u = σ)) (Tw G (fun E u => E = "java/lang/ArithmeticException" ∧ cfT o x y = true ∧ u = sI σ 1 1)) := by
  refine cx_of (by decide +kernel) ?_
  intro p e s m below meth c s₁ B hml ht hc
  have hx := B.exec
  have hb := B.bytes
  have hr := B.returns
  have hown : s.vm.findClass R_Pc = some m.cls := findClass_of_methodNamed B.named
  have hlocks := B.notSynchronized
  have hT := g.tb hc
  have hK := g.k hc
  have hD := g.d (σ := σ)
  have hS : va_S (gA G) s.heap s.heap [] := va_S.rf
  have hP := hc.2.2
  have hl := lv_entry ([.ref (gad G 0), .int o, .double x, .double y]) (n := 8) (Nat.le_of_ble_eq_true rfl)
  rw [lg_entry_eq]
  generalize (lg_sl ([.ref (gad G 0), .int o, .double x, .double y]) ++ List.replicate (8 - (lg_sl ([.ref (gad G 0), .int o, .double x, .double y])).length) Slot.unset).toArray = ls at hl ⊢
  have hl : lv_has ls 8 [(0, .ref (gad G 0)), (1, .int o), (2, .double x), (4, .double y)] := hl
  refine lv_aload_n hx hb d_Pc_computedFraction_0 rfl (lv_at hl 0 rfl) ?_
  refine lv_iload_n hx hb d_Pc_computedFraction_1 rfl (lv_at hl 1 rfl) ?_
  refine lv_dload_n hx hb d_Pc_computedFraction_2 rfl (lv_at hl 2 rfl) ?_
  refine lv_dload hx hb d_Pc_computedFraction_3 (lv_at hl 3 rfl) ?_
  refine cx_V (n := 3) (C := R_Pc) (As := [.int o, .double x, .double y]) (rest := []) ⟨hx, hb, hml, hown, fun _ h9 => nomatch h9⟩ (K_Pc_outcomeOf g σ o x y hxf hyf) (k_491 hT) (k_493 hT) (ks_14 hT) (k_494 hT) (k_1 hT) rfl (by decide +kernel) (va_recv hK hP (ci := 6) (q0 := 0) rfl rfl) (hc.at g hS hP) ⟨by decide, by decide⟩ ⟨by decide, by decide⟩ hl.1 (Nat.le_of_ble_eq_true rfl) d_Pc_computedFraction_5 (fun _ h9 => h9) hS (fun E ce q t H1 locs ht9 hTx hz hk hS hce hcv hcl => ?_) (fun v t H locs ht9 hRt hz hk hS => ?_)
  · obtain ⟨u, hq, hP⟩ := hTx; rw [ht9] at hP; exact cx_out ht hlocks hce hcv hcl hS (fun t9 h9 _ => Tw.i (u := u) (⟨hq.1, by simp [cfT, hq.2.1], hq.2.2⟩) (by rw [h9]; exact hP)) (by decide) (by decide)
  · obtain ⟨r, u, rfl, ⟨⟨hdz, er⟩, eu⟩, hP⟩ := hRt
    subst er
    rw [eu, ht9] at hP
    have hD : va_D (gA G) (cw G σ) := g.d
    refine W.eq (g2 := F0 m 8 ls [.double (ocF o x y)]) rfl ?_
    refine lv_dstore (lv' := [(6, .double (ocF o x y)), (0, .ref (gad G 0)), (1, .int o), (2, .double x), (4, .double y)]) hx hb d_Pc_computedFraction_8 hl (by decide) rfl (fun ls hl => ?_)
    refine lv_dload hx hb d_Pc_computedFraction_10 (lv_at hl 0 rfl) ?_
    refine lv_ldc2d (v := 4741671816366391296) hx hb hown (k_514 hT) d_Pc_computedFraction_12 ?_
    refine lv_dcmp hx hb d_Pc_computedFraction_15 ?_
    refine lv_if_gt (tgt := 28) hx hb d_Pc_computedFraction_16 (by decide) (fun c16 => ?_) (fun c16 => ?_)
    · refine lv_aload_n hx hb d_Pc_computedFraction_28 rfl (lv_at hl 1 rfl) ?_
      refine lv_iconst (v := 1) hx hb d_Pc_computedFraction_29 (by decide) ?_
      refine va_put (D := gD G) (ci := 6) (v := .int 1) (ty := .boolean) (C := R_Pc) (T := F_Pc) (N := 12) hx hb (wl_Pc hT) (fun _ h9 => h9) fy_Pc fy_Pc_ok fn_Pc hown hK hP hD hS 0 rfl rfl 10 (by decide) (k_189 hT) (fun _ h9 => h9) rfl (by decide +kernel) rfl rfl (Nat.le_of_ble_eq_true rfl) d_Pc_computedFraction_30 (fun H locs hP hD hS => ?_)
      have hP : va_P (gD G) classes (cw G (sI σ 1 1)) H := hP
      have hD : va_D (gA G) (cw G (sI σ 1 1)) := g.d
      exact cx_throw (own := R_Pc) (cls := "java/lang/ArithmeticException") (names := ["java/lang/RuntimeException", "java/lang/Exception"]) (ik := 199) (ic := 201) hx hb g.1 hown (by decide +kernel) (by decide +kernel) (fun U hU hW => ⟨k_499 ((g.tb hc).warm hW), k_17 ((g.tb hc).warm hW), at_AE_201 g hc hS U hU hW⟩) hS hc.2.1 (by rw [hml]; exact hl.1) d_Pc_computedFraction_33 d_Pc_computedFraction_36 d_Pc_computedFraction_37 d_Pc_computedFraction_40 ht hlocks (by decide) (Nat.le_of_ble_eq_true rfl) (by decide) (by decide) (fun t9 _ _ hk => Tw.i (u := (sI σ 1 1)) (⟨rfl, by simp [cfT, ovF, lim9, lim9m, hdz, c16], rfl⟩) (hP.keep hk))
    · refine lv_dload hx hb d_Pc_computedFraction_19 (lv_at hl 0 rfl) ?_
      refine lv_ldc2d (v := 13965043853221167104) hx hb hown (k_515 hT) d_Pc_computedFraction_21 ?_
      refine lv_dcmp hx hb d_Pc_computedFraction_24 ?_
      refine lv_if_ge (tgt := 41) hx hb d_Pc_computedFraction_25 (by decide) (fun c25 => ?_) (fun c25 => ?_)
      · refine lv_dload hx hb d_Pc_computedFraction_41 (lv_at hl 0 rfl) ?_
        exact end_d (u := σ) hx hb hr hlocks hS hP d_Pc_computedFraction_43 (⟨⟨by simp [cfT, ovF, lim9, lim9m, hdz, c16, c25], rfl⟩, rfl⟩)
      · refine lv_aload_n hx hb d_Pc_computedFraction_28 rfl (lv_at hl 1 rfl) ?_
        refine lv_iconst (v := 1) hx hb d_Pc_computedFraction_29 (by decide) ?_
        refine va_put (D := gD G) (ci := 6) (v := .int 1) (ty := .boolean) (C := R_Pc) (T := F_Pc) (N := 12) hx hb (wl_Pc hT) (fun _ h9 => h9) fy_Pc fy_Pc_ok fn_Pc hown hK hP hD hS 0 rfl rfl 10 (by decide) (k_189 hT) (fun _ h9 => h9) rfl (by decide +kernel) rfl rfl (Nat.le_of_ble_eq_true rfl) d_Pc_computedFraction_30 (fun H locs hP hD hS => ?_)
        have hP : va_P (gD G) classes (cw G (sI σ 1 1)) H := hP
        have hD : va_D (gA G) (cw G (sI σ 1 1)) := g.d
        exact cx_throw (own := R_Pc) (cls := "java/lang/ArithmeticException") (names := ["java/lang/RuntimeException", "java/lang/Exception"]) (ik := 199) (ic := 201) hx hb g.1 hown (by decide +kernel) (by decide +kernel) (fun U hU hW => ⟨k_499 ((g.tb hc).warm hW), k_17 ((g.tb hc).warm hW), at_AE_201 g hc hS U hU hW⟩) hS hc.2.1 (by rw [hml]; exact hl.1) d_Pc_computedFraction_33 d_Pc_computedFraction_36 d_Pc_computedFraction_37 d_Pc_computedFraction_40 ht hlocks (by decide) (Nat.le_of_ble_eq_true rfl) (by decide) (by decide) (fun t9 _ _ hk => Tw.i (u := (sI σ 1 1)) (⟨rfl, by simp [cfT, ovF, lim9, lim9m, hdz, c16, c25], rfl⟩) (hP.keep hk))

set_option maxHeartbeats 4000000 in
set_option maxRecDepth 100000 in
theorem K_Pc_compute {l : Launch} {G : GT} (g : GOK l G) (σ : CS) {i : Nat} (hi : i < 24) (h : okQ (cQ σ i)) (hf : ∀ j, j < 4 → fp_fin (cF σ 1 j)) : cx_M l y_Pc_compute (.code y_Pc_compute b_Pc_compute 6 none) 9 165 (gA G) [.ref (gad G 0), .ref (gia G i)] (Cw G σ) (Rv G (fun u => cpT σ (cQ σ i) = false ∧ u = cpF σ (cQ σ i))) (Tw G (fun E u => E = "java/lang/ArithmeticException" ∧ cpT σ (cQ σ i) = true ∧ u = sI σ 1 1)) := by
  refine cx_of (by decide +kernel) ?_
  intro p e s m below meth c s₁ B hml ht hc
  have hx := B.exec
  have hb := B.bytes
  have hr := B.returns
  have hown : s.vm.findClass R_Pc = some m.cls := findClass_of_methodNamed B.named
  have hlocks := B.notSynchronized
  have hT := g.tb hc
  have hK := g.k hc
  have hD := g.d (σ := σ)
  have hS : va_S (gA G) s.heap s.heap [] := va_S.rf
  have hP := hc.2.2
  have hl := lv_entry ([.ref (gad G 0), .ref (gia G i)]) (n := 6) (Nat.le_of_ble_eq_true rfl)
  rw [lg_entry_eq]
  generalize (lg_sl ([.ref (gad G 0), .ref (gia G i)]) ++ List.replicate (6 - (lg_sl ([.ref (gad G 0), .ref (gia G i)])).length) Slot.unset).toArray = ls at hl ⊢
  have hl : lv_has ls 6 [(0, .ref (gad G 0)), (1, .ref (gia G i))] := hl
  refine lv_aload_n hx hb d_Pc_compute_0 rfl (lv_at hl 1 rfl) ?_
  refine va_get (D := gD G) (ci := 3) (v := .int (cQ σ i 0)) (C := R_In) (T := F_In) (N := 8) hx hb (wl_In hT) (fun _ h9 => h9) hown hK hP (19 + i) (cw_in hi) rfl 0 (by decide) (k_147 hT) (fun _ h9 => h9) rfl d_Pc_compute_1 ?_
  refine lv_iconst (v := 5) hx hb d_Pc_compute_4 (by decide) ?_
  refine lv_icmp_gt (tgt := 22) hx hb d_Pc_compute_5 (by decide) (fun c5 => ?_) (fun c5 => ?_)
  · refine lv_aload_n hx hb d_Pc_compute_22 rfl (lv_at hl 0 rfl) ?_
    refine va_get (D := gD G) (ci := 6) (v := .ref (gad G 4)) (C := R_Pc) (T := F_Pc) (N := 12) hx hb (wl_Pc hT) (fun _ h9 => h9) hown hK hP 0 rfl rfl 3 (by decide) (k_182 hT) (fun _ h9 => h9) rfl d_Pc_compute_23 ?_
    refine lv_aload_n hx hb d_Pc_compute_26 rfl (lv_at hl 1 rfl) ?_
    refine va_get (D := gD G) (ci := 3) (v := .int (cQ σ i 2)) (C := R_In) (T := F_In) (N := 8) hx hb (wl_In hT) (fun _ h9 => h9) hown hK hP (19 + i) (cw_in hi) rfl 2 (by decide) (k_151 hT) (fun _ h9 => h9) rfl d_Pc_compute_27 ?_
    refine lv_iconst (v := 4) hx hb d_Pc_compute_30 (by decide) ?_
    refine lv_irem hx hb d_Pc_compute_31 (by decide) ?_
    refine va_dald (f := (cF σ 1)) hx hb hK hP 4 1 rfl rfl (m4_in h.2.2.1) d_Pc_compute_32 ?_
    refine lv_dstore_n (lv' := [(2, .double ((cF σ 1) ((cQ σ i 2) - (cQ σ i 2) / 4 * 4).toNatClampNeg)), (0, .ref (gad G 0)), (1, .ref (gia G i))]) hx hb d_Pc_compute_33 rfl hl (by decide) rfl (fun ls hl => ?_)
    refine lv_aload_n hx hb d_Pc_compute_34 rfl (lv_at hl 1 rfl) ?_
    refine va_get (D := gD G) (ci := 6) (v := .ref (gad G 4)) (C := R_Pc) (T := F_Pc) (N := 12) hx hb (wl_Pc hT) (fun _ h9 => h9) hown hK hP 0 rfl rfl 3 (by decide) (k_182 hT) (fun _ h9 => h9) rfl d_Pc_compute_35 ?_
    refine lv_aload_n hx hb d_Pc_compute_38 rfl (lv_at hl 2 rfl) ?_
    refine va_get (D := gD G) (ci := 3) (v := .int (cQ σ i 3)) (C := R_In) (T := F_In) (N := 8) hx hb (wl_In hT) (fun _ h9 => h9) hown hK hP (19 + i) (cw_in hi) rfl 3 (by decide) (k_153 hT) (fun _ h9 => h9) rfl d_Pc_compute_39 ?_
    refine lv_iconst (v := 4) hx hb d_Pc_compute_42 (by decide) ?_
    refine lv_irem hx hb d_Pc_compute_43 (by decide) ?_
    refine va_dald (f := (cF σ 1)) hx hb hK hP 4 1 rfl rfl (m4_in h.2.2.2.1) d_Pc_compute_44 ?_
    refine lv_dstore (lv' := [(4, .double ((cF σ 1) ((cQ σ i 3) - (cQ σ i 3) / 4 * 4).toNatClampNeg)), (2, .double ((cF σ 1) ((cQ σ i 2) - (cQ σ i 2) / 4 * 4).toNatClampNeg)), (0, .ref (gad G 0)), (1, .ref (gia G i))]) hx hb d_Pc_compute_45 hl (by decide) rfl (fun ls hl => ?_)
    refine lv_aload_n hx hb d_Pc_compute_47 rfl (lv_at hl 3 rfl) ?_
    refine va_get (D := gD G) (ci := 3) (v := .int (cQ σ i 0)) (C := R_In) (T := F_In) (N := 8) hx hb (wl_In hT) (fun _ h9 => h9) hown hK hP (19 + i) (cw_in hi) rfl 0 (by decide) (k_147 hT) (fun _ h9 => h9) rfl d_Pc_compute_48 ?_
    by_cases c51_14 : (cQ σ i 0) = 14
    · refine lv_tableIn (tgt := 76) hx hb d_Pc_compute_51 (by rw [c51_14]; decide) (by rw [c51_14]; decide) (by rw [c51_14]; rfl) (by decide) ?_
      refine lv_aload_n hx hb d_Pc_compute_76 rfl (lv_at hl 2 rfl) ?_
      refine lv_aload_n hx hb d_Pc_compute_77 rfl (lv_at hl 3 rfl) ?_
      refine va_get (D := gD G) (ci := 3) (v := .int (cQ σ i 1)) (C := R_In) (T := F_In) (N := 8) hx hb (wl_In hT) (fun _ h9 => h9) hown hK hP (19 + i) (cw_in hi) rfl 1 (by decide) (k_149 hT) (fun _ h9 => h9) rfl d_Pc_compute_78 ?_
      refine lv_dload_n hx hb d_Pc_compute_81 rfl (lv_at hl 1 rfl) ?_
      refine lv_dload hx hb d_Pc_compute_82 (lv_at hl 0 rfl) ?_
      refine lv_dcmp hx hb d_Pc_compute_84 ?_
      refine lv_if_ge (tgt := 92) hx hb d_Pc_compute_85 (by decide) (fun c85 => ?_) (fun c85 => ?_)
      · refine lv_iconst (v := 0) hx hb d_Pc_compute_92 (by decide) ?_
        refine cx_V (n := 2) (C := R_Pc) (As := [.int (cQ σ i 1), .int 0]) (rest := []) ⟨hx, hb, hml, hown, fun _ h9 => nomatch h9⟩ (K_Pc_putWhole g σ (cQ σ i 1) 0 h.2.1) (k_458 hT) (k_460 hT) (ks_9 hT) (k_461 hT) (k_1 hT) rfl (by decide +kernel) (va_recv hK hP (ci := 6) (q0 := 0) rfl rfl) (hc.at g hS hP) ⟨by decide, by decide⟩ ⟨by decide, by decide⟩ hl.1 (Nat.le_of_ble_eq_true rfl) d_Pc_compute_93 (fun _ h9 => h9) hS (fun _ _ _ _ _ _ _ h9 => h9.elim) (fun v t H locs ht9 hRt hz hk hS => ?_)
        obtain ⟨u, rfl, eu, hP⟩ := hRt
        rw [eu, ht9] at hP
        have hD : va_D (gA G) (cw G (pwF σ (cQ σ i 1) 0)) := g.d
        refine W.eq (g2 := F0 m 96 ls []) rfl ?_
        refine lv_goto (tgt := 158) hx hb d_Pc_compute_96 (by decide) ?_
        exact end_v (u := (pwF σ (cQ σ i 1) 0)) hx hb hr hlocks hS hP d_Pc_compute_158 (⟨by simp [cpT, ix, c5, c51_14, c85], by simp [cpF, ix, c5, c51_14, c85]⟩)
      · refine lv_iconst (v := 1) hx hb d_Pc_compute_88 (by decide) ?_
        refine lv_goto (tgt := 93) hx hb d_Pc_compute_89 (by decide) ?_
        refine cx_V (n := 2) (C := R_Pc) (As := [.int (cQ σ i 1), .int 1]) (rest := []) ⟨hx, hb, hml, hown, fun _ h9 => nomatch h9⟩ (K_Pc_putWhole g σ (cQ σ i 1) 1 h.2.1) (k_458 hT) (k_460 hT) (ks_9 hT) (k_461 hT) (k_1 hT) rfl (by decide +kernel) (va_recv hK hP (ci := 6) (q0 := 0) rfl rfl) (hc.at g hS hP) ⟨by decide, by decide⟩ ⟨by decide, by decide⟩ hl.1 (Nat.le_of_ble_eq_true rfl) d_Pc_compute_93 (fun _ h9 => h9) hS (fun _ _ _ _ _ _ _ h9 => h9.elim) (fun v t H locs ht9 hRt hz hk hS => ?_)
        obtain ⟨u, rfl, eu, hP⟩ := hRt
        rw [eu, ht9] at hP
        have hD : va_D (gA G) (cw G (pwF σ (cQ σ i 1) 1)) := g.d
        refine W.eq (g2 := F0 m 96 ls []) rfl ?_
        refine lv_goto (tgt := 158) hx hb d_Pc_compute_96 (by decide) ?_
        exact end_v (u := (pwF σ (cQ σ i 1) 1)) hx hb hr hlocks hS hP d_Pc_compute_158 (⟨by simp [cpT, ix, c5, c51_14, c85], by simp [cpF, ix, c5, c51_14, c85]⟩)
    by_cases c51_15 : (cQ σ i 0) = 15
    · refine lv_tableIn (tgt := 99) hx hb d_Pc_compute_51 (by rw [c51_15]; decide) (by rw [c51_15]; decide) (by rw [c51_15]; rfl) (by decide) ?_
      refine lv_aload_n hx hb d_Pc_compute_99 rfl (lv_at hl 2 rfl) ?_
      refine va_get (D := gD G) (ci := 6) (v := .ref (gad G 4)) (C := R_Pc) (T := F_Pc) (N := 12) hx hb (wl_Pc hT) (fun _ h9 => h9) hown hK hP 0 rfl rfl 3 (by decide) (k_182 hT) (fun _ h9 => h9) rfl d_Pc_compute_100 ?_
      refine lv_aload_n hx hb d_Pc_compute_103 rfl (lv_at hl 3 rfl) ?_
      refine va_get (D := gD G) (ci := 3) (v := .int (cQ σ i 1)) (C := R_In) (T := F_In) (N := 8) hx hb (wl_In hT) (fun _ h9 => h9) hown hK hP (19 + i) (cw_in hi) rfl 1 (by decide) (k_149 hT) (fun _ h9 => h9) rfl d_Pc_compute_104 ?_
      refine lv_iconst (v := 4) hx hb d_Pc_compute_107 (by decide) ?_
      refine lv_irem hx hb d_Pc_compute_108 (by decide) ?_
      refine lv_aload_n hx hb d_Pc_compute_109 rfl (lv_at hl 2 rfl) ?_
      refine va_get (D := gD G) (ci := 6) (v := .ref (gad G 3)) (C := R_Pc) (T := F_Pc) (N := 12) hx hb (wl_Pc hT) (fun _ h9 => h9) hown hK hP 0 rfl rfl 2 (by decide) (k_181 hT) (fun _ h9 => h9) rfl d_Pc_compute_110 ?_
      refine lv_aload_n hx hb d_Pc_compute_113 rfl (lv_at hl 3 rfl) ?_
      refine va_get (D := gD G) (ci := 3) (v := .int (cQ σ i 2)) (C := R_In) (T := F_In) (N := 8) hx hb (wl_In hT) (fun _ h9 => h9) hown hK hP (19 + i) (cw_in hi) rfl 2 (by decide) (k_151 hT) (fun _ h9 => h9) rfl d_Pc_compute_114 ?_
      refine va_iald (f := (cJ σ 0)) hx hb hK hP 3 0 rfl rfl (h.2.2.1) d_Pc_compute_117 ?_
      refine lv_i2d hx hb d_Pc_compute_118 ?_
      refine va_dast (f := (cF σ 1)) hx hb hK hP hD hS 4 1 rfl rfl (m4_in h.2.1) d_Pc_compute_119 (fun H locs hP hD hS => ?_)
      have hP : va_P (gD G) classes (cw G (sF σ 1 (vf_upd (cF σ 1) ((cQ σ i 1) - (cQ σ i 1) / 4 * 4).toNatClampNeg (FP.i2d ((cJ σ 0) (cQ σ i 2).toNatClampNeg))))) H := hP
      have hD : va_D (gA G) (cw G (sF σ 1 (vf_upd (cF σ 1) ((cQ σ i 1) - (cQ σ i 1) / 4 * 4).toNatClampNeg (FP.i2d ((cJ σ 0) (cQ σ i 2).toNatClampNeg))))) := g.d
      refine lv_goto (tgt := 158) hx hb d_Pc_compute_120 (by decide) ?_
      exact end_v (u := (sF σ 1 (vf_upd (cF σ 1) ((cQ σ i 1) - (cQ σ i 1) / 4 * 4).toNatClampNeg (FP.i2d ((cJ σ 0) (cQ σ i 2).toNatClampNeg))))) hx hb hr hlocks hS hP d_Pc_compute_158 (⟨by simp [cpT, ix, c5, c51_14, c51_15], by simp [cpF, ix, c5, c51_14, c51_15]⟩)
    by_cases c51_16 : (cQ σ i 0) = 16
    · refine lv_tableIn (tgt := 123) hx hb d_Pc_compute_51 (by rw [c51_16]; decide) (by rw [c51_16]; decide) (by rw [c51_16]; rfl) (by decide) ?_
      refine lv_aload_n hx hb d_Pc_compute_123 rfl (lv_at hl 2 rfl) ?_
      refine lv_aload_n hx hb d_Pc_compute_124 rfl (lv_at hl 3 rfl) ?_
      refine va_get (D := gD G) (ci := 3) (v := .int (cQ σ i 1)) (C := R_In) (T := F_In) (N := 8) hx hb (wl_In hT) (fun _ h9 => h9) hown hK hP (19 + i) (cw_in hi) rfl 1 (by decide) (k_149 hT) (fun _ h9 => h9) rfl d_Pc_compute_125 ?_
      refine lv_dload_n hx hb d_Pc_compute_128 rfl (lv_at hl 1 rfl) ?_
      refine lv_d2i hx hb d_Pc_compute_129 ?_
      refine cx_V (n := 2) (C := R_Pc) (As := [.int (cQ σ i 1), .int (FP.d2i ((cF σ 1) ((cQ σ i 2) - (cQ σ i 2) / 4 * 4).toNatClampNeg))]) (rest := []) ⟨hx, hb, hml, hown, fun _ h9 => nomatch h9⟩ (K_Pc_putWhole g σ (cQ σ i 1) (FP.d2i ((cF σ 1) ((cQ σ i 2) - (cQ σ i 2) / 4 * 4).toNatClampNeg)) h.2.1) (k_458 hT) (k_460 hT) (ks_9 hT) (k_461 hT) (k_1 hT) rfl (by decide +kernel) (va_recv hK hP (ci := 6) (q0 := 0) rfl rfl) (hc.at g hS hP) ⟨by decide, by decide⟩ ⟨by decide, by decide⟩ hl.1 (Nat.le_of_ble_eq_true rfl) d_Pc_compute_130 (fun _ h9 => h9) hS (fun _ _ _ _ _ _ _ h9 => h9.elim) (fun v t H locs ht9 hRt hz hk hS => ?_)
      obtain ⟨u, rfl, eu, hP⟩ := hRt
      rw [eu, ht9] at hP
      have hD : va_D (gA G) (cw G (pwF σ (cQ σ i 1) (FP.d2i ((cF σ 1) ((cQ σ i 2) - (cQ σ i 2) / 4 * 4).toNatClampNeg)))) := g.d
      refine W.eq (g2 := F0 m 133 ls []) rfl ?_
      refine lv_goto (tgt := 158) hx hb d_Pc_compute_133 (by decide) ?_
      exact end_v (u := (pwF σ (cQ σ i 1) (FP.d2i ((cF σ 1) ((cQ σ i 2) - (cQ σ i 2) / 4 * 4).toNatClampNeg)))) hx hb hr hlocks hS hP d_Pc_compute_158 (⟨by simp [cpT, ix, c5, c51_14, c51_15, c51_16], by simp [cpF, ix, c5, c51_14, c51_15, c51_16]⟩)
    refine lv_tableOut (tgt := 136) hx hb d_Pc_compute_51 (tsw_out (n := 3) (l := [14, 15, 16]) (by decide) (by decide) (by simp [c51_14, c51_15, c51_16])) (by decide) ?_
    refine lv_aload_n hx hb d_Pc_compute_136 rfl (lv_at hl 2 rfl) ?_
    refine va_get (D := gD G) (ci := 6) (v := .ref (gad G 4)) (C := R_Pc) (T := F_Pc) (N := 12) hx hb (wl_Pc hT) (fun _ h9 => h9) hown hK hP 0 rfl rfl 3 (by decide) (k_182 hT) (fun _ h9 => h9) rfl d_Pc_compute_137 ?_
    refine lv_aload_n hx hb d_Pc_compute_140 rfl (lv_at hl 3 rfl) ?_
    refine va_get (D := gD G) (ci := 3) (v := .int (cQ σ i 1)) (C := R_In) (T := F_In) (N := 8) hx hb (wl_In hT) (fun _ h9 => h9) hown hK hP (19 + i) (cw_in hi) rfl 1 (by decide) (k_149 hT) (fun _ h9 => h9) rfl d_Pc_compute_141 ?_
    refine lv_iconst (v := 4) hx hb d_Pc_compute_144 (by decide) ?_
    refine lv_irem hx hb d_Pc_compute_145 (by decide) ?_
    refine lv_aload_n hx hb d_Pc_compute_146 rfl (lv_at hl 2 rfl) ?_
    refine lv_aload_n hx hb d_Pc_compute_147 rfl (lv_at hl 3 rfl) ?_
    refine va_get (D := gD G) (ci := 3) (v := .int (cQ σ i 0)) (C := R_In) (T := F_In) (N := 8) hx hb (wl_In hT) (fun _ h9 => h9) hown hK hP (19 + i) (cw_in hi) rfl 0 (by decide) (k_147 hT) (fun _ h9 => h9) rfl d_Pc_compute_148 ?_
    refine lv_dload_n hx hb d_Pc_compute_151 rfl (lv_at hl 1 rfl) ?_
    refine lv_dload hx hb d_Pc_compute_152 (lv_at hl 0 rfl) ?_
    refine cx_V (n := 3) (C := R_Pc) (As := [.int (cQ σ i 0), .double ((cF σ 1) ((cQ σ i 2) - (cQ σ i 2) / 4 * 4).toNatClampNeg), .double ((cF σ 1) ((cQ σ i 3) - (cQ σ i 3) / 4 * 4).toNatClampNeg)]) (rest := [.int ((cQ σ i 1) - (cQ σ i 1) / 4 * 4), .ref (gad G 4)]) ⟨hx, hb, hml, hown, fun _ h9 => nomatch h9⟩ (K_Pc_computedFraction g σ (cQ σ i 0) ((cF σ 1) ((cQ σ i 2) - (cQ σ i 2) / 4 * 4).toNatClampNeg) ((cF σ 1) ((cQ σ i 3) - (cQ σ i 3) / 4 * 4).toNatClampNeg) (hf _ (vp_lt (m4_in h.2.2.1))) (hf _ (vp_lt (m4_in h.2.2.2.1)))) (k_487 hT) (k_489 hT) (ks_13 hT) (k_490 hT) (k_1 hT) rfl (by decide +kernel) (va_recv hK hP (ci := 6) (q0 := 0) rfl rfl) (hc.at g hS hP) ⟨by decide, by decide⟩ ⟨by decide, by decide⟩ hl.1 (Nat.le_of_ble_eq_true rfl) d_Pc_compute_154 (fun _ h9 => h9) hS (fun E ce q t H1 locs ht9 hTx hz hk hS hce hcv hcl => ?_) (fun v t H locs ht9 hRt hz hk hS => ?_)
    · obtain ⟨u, hq, hP⟩ := hTx; rw [ht9] at hP; exact cx_out ht hlocks hce hcv hcl hS (fun t9 h9 _ => Tw.i (u := u) (⟨hq.1, by simp [cpT, c5, c51_14, c51_15, c51_16]; exact hq.2.1, hq.2.2⟩) (by rw [h9]; exact hP)) (by decide) (by decide)
    · obtain ⟨r, u, rfl, ⟨⟨hcf, er⟩, eu⟩, hP⟩ := hRt
      subst er
      rw [eu, ht9] at hP
      have hD : va_D (gA G) (cw G σ) := g.d
      refine W.eq (g2 := F0 m 157 ls [.double (ocF (cQ σ i 0) ((cF σ 1) ((cQ σ i 2) - (cQ σ i 2) / 4 * 4).toNatClampNeg) ((cF σ 1) ((cQ σ i 3) - (cQ σ i 3) / 4 * 4).toNatClampNeg)), .int ((cQ σ i 1) - (cQ σ i 1) / 4 * 4), .ref (gad G 4)]) rfl ?_
      refine va_dast (f := (cF σ 1)) hx hb hK hP hD hS 4 1 rfl rfl (m4_in h.2.1) d_Pc_compute_157 (fun H locs hP hD hS => ?_)
      have hP : va_P (gD G) classes (cw G (sF σ 1 (vf_upd (cF σ 1) ((cQ σ i 1) - (cQ σ i 1) / 4 * 4).toNatClampNeg (ocF (cQ σ i 0) ((cF σ 1) ((cQ σ i 2) - (cQ σ i 2) / 4 * 4).toNatClampNeg) ((cF σ 1) ((cQ σ i 3) - (cQ σ i 3) / 4 * 4).toNatClampNeg))))) H := hP
      have hD : va_D (gA G) (cw G (sF σ 1 (vf_upd (cF σ 1) ((cQ σ i 1) - (cQ σ i 1) / 4 * 4).toNatClampNeg (ocF (cQ σ i 0) ((cF σ 1) ((cQ σ i 2) - (cQ σ i 2) / 4 * 4).toNatClampNeg) ((cF σ 1) ((cQ σ i 3) - (cQ σ i 3) / 4 * 4).toNatClampNeg))))) := g.d
      exact end_v (u := (sF σ 1 (vf_upd (cF σ 1) ((cQ σ i 1) - (cQ σ i 1) / 4 * 4).toNatClampNeg (ocF (cQ σ i 0) ((cF σ 1) ((cQ σ i 2) - (cQ σ i 2) / 4 * 4).toNatClampNeg) ((cF σ 1) ((cQ σ i 3) - (cQ σ i 3) / 4 * 4).toNatClampNeg))))) hx hb hr hlocks hS hP d_Pc_compute_158 (⟨by simp [cpT, ix, c5, c51_14, c51_15, c51_16, hcf], by simp [cpF, ix, c5, c51_14, c51_15, c51_16]⟩)
  · refine lv_aload_n hx hb d_Pc_compute_8 rfl (lv_at hl 0 rfl) ?_
    refine lv_aload_n hx hb d_Pc_compute_9 rfl (lv_at hl 1 rfl) ?_
    refine va_get (D := gD G) (ci := 3) (v := .int (cQ σ i 1)) (C := R_In) (T := F_In) (N := 8) hx hb (wl_In hT) (fun _ h9 => h9) hown hK hP (19 + i) (cw_in hi) rfl 1 (by decide) (k_149 hT) (fun _ h9 => h9) rfl d_Pc_compute_10 ?_
    refine lv_aload_n hx hb d_Pc_compute_13 rfl (lv_at hl 0 rfl) ?_
    refine lv_aload_n hx hb d_Pc_compute_14 rfl (lv_at hl 1 rfl) ?_
    refine cx_V (n := 1) (C := R_Pc) (As := [.ref (gia G i)]) (rest := [.int (cQ σ i 1), .ref (gad G 0)]) ⟨hx, hb, hml, hown, fun _ h9 => nomatch h9⟩ (K_Pc_computedWhole g σ hi h) (k_483 hT) (k_485 hT) (ks_12 hT) (k_486 hT) (k_1 hT) rfl (by decide +kernel) (va_recv hK hP (ci := 6) (q0 := 0) rfl rfl) (hc.at g hS hP) ⟨by decide, by decide⟩ ⟨by decide, by decide⟩ hl.1 (Nat.le_of_ble_eq_true rfl) d_Pc_compute_15 (fun _ h9 => h9) hS (fun _ _ _ _ _ _ _ h9 => h9.elim) (fun v t H locs ht9 hRt hz hk hS => ?_)
    obtain ⟨r, u, rfl, ⟨er, eu⟩, hP⟩ := hRt
    subst er
    rw [eu, ht9] at hP
    have hD : va_D (gA G) (cw G σ) := g.d
    refine W.eq (g2 := F0 m 18 ls [.int (cwF σ (cQ σ i)), .int (cQ σ i 1), .ref (gad G 0)]) rfl ?_
    refine cx_V (n := 2) (C := R_Pc) (As := [.int (cQ σ i 1), .int (cwF σ (cQ σ i))]) (rest := []) ⟨hx, hb, hml, hown, fun _ h9 => nomatch h9⟩ (K_Pc_putWhole g σ (cQ σ i 1) (cwF σ (cQ σ i)) h.2.1) (k_458 hT) (k_460 hT) (ks_9 hT) (k_461 hT) (k_1 hT) rfl (by decide +kernel) (va_recv hK hP (ci := 6) (q0 := 0) rfl rfl) (hc.at g hS hP) ⟨by decide, by decide⟩ ⟨by decide, by decide⟩ hl.1 (Nat.le_of_ble_eq_true rfl) d_Pc_compute_18 (fun _ h9 => h9) hS (fun _ _ _ _ _ _ _ h9 => h9.elim) (fun v t H locs ht9 hRt hz hk hS => ?_)
    obtain ⟨u, rfl, eu, hP⟩ := hRt
    rw [eu, ht9] at hP
    have hD : va_D (gA G) (cw G (pwF σ (cQ σ i 1) (cwF σ (cQ σ i)))) := g.d
    refine W.eq (g2 := F0 m 21 ls []) rfl ?_
    exact end_v (u := (pwF σ (cQ σ i 1) (cwF σ (cQ σ i)))) hx hb hr hlocks hS hP d_Pc_compute_21 (⟨by simp [cpT, ix, c5], by simp [cpF, ix, c5]⟩)

set_option maxRecDepth 100000 in
theorem at_IOB_179_in : ∀ w ∈ Bundle.ownAtoms0 R_Pc 179 "java/lang/IndexOutOfBoundsException" ["java/lang/RuntimeException", "java/lang/Exception"], (w = .isRef (.static Bundle.tN "UNASSIGNED_STACK" Bundle.steD) ∨ w = .isRef (.static Bundle.tN "SUPPRESSED_SENTINEL" Bundle.listD) ∨ w = .laysStatic Bundle.tN "UNASSIGNED_STACK" Bundle.steD ∨ w = .laysStatic Bundle.tN "SUPPRESSED_SENTINEL" Bundle.listD) ∨ (w ∈ lw_tbl ∧ tb_ok w = true) := by decide +kernel
theorem at_IOB_179 {l : Launch} {G : GT} (g : GOK l G) {σ : CS} {s : State} {args : Array Value} {H : Heap} {locs : List Loc} (hc : Cw G σ s) (hS : va_S (gA G) s.heap H locs) : ∀ U : State, U.heap = H → s.WarmedH U.vm → ∀ w ∈ Bundle.ownAtoms0 R_Pc 179 "java/lang/IndexOutOfBoundsException" ["java/lang/RuntimeException", "java/lang/Exception"], w.before args U = true := by
  intro U hU hW w hw
  have O := hc.1.to g.2.2.2.1 hS hU hW
  obtain ⟨h1, h2, h3, h4⟩ := g.2.2.2.2.2.2.2.2.2 U args O
  rcases at_IOB_179_in w hw with (rfl | rfl | rfl | rfl) | ⟨q1, q2⟩
  · exact h1
  · exact h2
  · exact h3
  · exact h4
  · exact (g.2.1.warm O.1).w q1 q2
set_option maxHeartbeats 4000000 in
set_option maxRecDepth 100000 in
theorem K_Pc_moveCell {l : Launch} {G : GT} (g : GOK l G) (σ : CS) {i : Nat} (hi : i < 24) (h : okQ (cQ σ i)) : cx_M l y_Pc_moveCell (.code y_Pc_moveCell b_Pc_moveCell 3 (some .boolean)) 6 89 (gA G) [.ref (gad G 0), .ref (gia G i)] (Cw G σ) (Ri G (fun r u => (badA (adF σ (cQ σ i)) = false ∧ r = b2i (dmF (mvF σ (cQ σ i) (adF σ (cQ σ i))) (adF σ (cQ σ i) / 4)).1) ∧ u = (dmF (mvF σ (cQ σ i) (adF σ (cQ σ i))) (adF σ (cQ σ i) / 4)).2)) (Tw G (fun E u => E = "java/lang/IndexOutOfBoundsException" ∧ badA (adF σ (cQ σ i)) = true ∧ u = sI σ 1 1)) := by
  refine cx_of (by decide +kernel) ?_
  intro p e s m below meth c s₁ B hml ht hc
  have hx := B.exec
  have hb := B.bytes
  have hr := B.returns
  have hown : s.vm.findClass R_Pc = some m.cls := findClass_of_methodNamed B.named
  have hlocks := B.notSynchronized
  have hT := g.tb hc
  have hK := g.k hc
  have hD := g.d (σ := σ)
  have hS : va_S (gA G) s.heap s.heap [] := va_S.rf
  have hP := hc.2.2
  have hl := lv_entry ([.ref (gad G 0), .ref (gia G i)]) (n := 3) (Nat.le_of_ble_eq_true rfl)
  rw [lg_entry_eq]
  generalize (lg_sl ([.ref (gad G 0), .ref (gia G i)]) ++ List.replicate (3 - (lg_sl ([.ref (gad G 0), .ref (gia G i)])).length) Slot.unset).toArray = ls at hl ⊢
  have hl : lv_has ls 3 [(0, .ref (gad G 0)), (1, .ref (gia G i))] := hl
  refine lv_aload_n hx hb d_Pc_moveCell_0 rfl (lv_at hl 0 rfl) ?_
  refine va_get (D := gD G) (ci := 6) (v := .ref (gad G 3)) (C := R_Pc) (T := F_Pc) (N := 12) hx hb (wl_Pc hT) (fun _ h9 => h9) hown hK hP 0 rfl rfl 2 (by decide) (k_181 hT) (fun _ h9 => h9) rfl d_Pc_moveCell_1 ?_
  refine lv_aload_n hx hb d_Pc_moveCell_4 rfl (lv_at hl 1 rfl) ?_
  refine va_get (D := gD G) (ci := 3) (v := .int (cQ σ i 2)) (C := R_In) (T := F_In) (N := 8) hx hb (wl_In hT) (fun _ h9 => h9) hown hK hP (19 + i) (cw_in hi) rfl 2 (by decide) (k_151 hT) (fun _ h9 => h9) rfl d_Pc_moveCell_5 ?_
  refine va_iald (f := (cJ σ 0)) hx hb hK hP 3 0 rfl rfl (h.2.2.1) d_Pc_moveCell_8 ?_
  refine lv_aload_n hx hb d_Pc_moveCell_9 rfl (lv_at hl 1 rfl) ?_
  refine va_get (D := gD G) (ci := 3) (v := .int (cQ σ i 4)) (C := R_In) (T := F_In) (N := 8) hx hb (wl_In hT) (fun _ h9 => h9) hown hK hP (19 + i) (cw_in hi) rfl 4 (by decide) (k_155 hT) (fun _ h9 => h9) rfl d_Pc_moveCell_10 ?_
  refine lv_iadd hx hb d_Pc_moveCell_13 ?_
  refine lv_istore_n (lv' := [(2, .int (((cJ σ 0) (cQ σ i 2).toNatClampNeg) + (cQ σ i 4))), (0, .ref (gad G 0)), (1, .ref (gia G i))]) hx hb d_Pc_moveCell_14 rfl hl (by decide) rfl (fun ls hl => ?_)
  refine lv_iload_n hx hb d_Pc_moveCell_15 rfl (lv_at hl 0 rfl) ?_
  refine lv_if_lt (tgt := 25) hx hb d_Pc_moveCell_16 (by decide) (fun c16 => ?_) (fun c16 => ?_)
  · refine lv_aload_n hx hb d_Pc_moveCell_25 rfl (lv_at hl 1 rfl) ?_
    refine lv_iconst (v := 1) hx hb d_Pc_moveCell_26 (by decide) ?_
    refine va_put (D := gD G) (ci := 6) (v := .int 1) (ty := .boolean) (C := R_Pc) (T := F_Pc) (N := 12) hx hb (wl_Pc hT) (fun _ h9 => h9) fy_Pc fy_Pc_ok fn_Pc hown hK hP hD hS 0 rfl rfl 10 (by decide) (k_189 hT) (fun _ h9 => h9) rfl (by decide +kernel) rfl rfl (Nat.le_of_ble_eq_true rfl) d_Pc_moveCell_27 (fun H locs hP hD hS => ?_)
    have hP : va_P (gD G) classes (cw G (sI σ 1 1)) H := hP
    have hD : va_D (gA G) (cw G (sI σ 1 1)) := g.d
    exact cx_throw (own := R_Pc) (cls := "java/lang/IndexOutOfBoundsException") (names := ["java/lang/RuntimeException", "java/lang/Exception"]) (ik := 177) (ic := 179) hx hb g.1 hown (by decide +kernel) (by decide +kernel) (fun U hU hW => ⟨k_443 ((g.tb hc).warm hW), k_15 ((g.tb hc).warm hW), at_IOB_179 g hc hS U hU hW⟩) hS hc.2.1 (by rw [hml]; exact hl.1) d_Pc_moveCell_30 d_Pc_moveCell_33 d_Pc_moveCell_34 d_Pc_moveCell_37 ht hlocks (by decide) (Nat.le_of_ble_eq_true rfl) (by decide) (by decide) (fun t9 _ _ hk => Tw.i (u := (sI σ 1 1)) (⟨rfl, by simp [badA, adF, ix, c16], rfl⟩) (hP.keep hk))
  · refine lv_iload_n hx hb d_Pc_moveCell_19 rfl (lv_at hl 0 rfl) ?_
    refine lv_bipush (v := 48) hx hb d_Pc_moveCell_20 (by decide) ?_
    refine lv_icmp_lt (tgt := 38) hx hb d_Pc_moveCell_22 (by decide) (fun c22 => ?_) (fun c22 => ?_)
    · refine lv_aload_n hx hb d_Pc_moveCell_38 rfl (lv_at hl 2 rfl) ?_
      refine va_get (D := gD G) (ci := 3) (v := .int (cQ σ i 0)) (C := R_In) (T := F_In) (N := 8) hx hb (wl_In hT) (fun _ h9 => h9) hown hK hP (19 + i) (cw_in hi) rfl 0 (by decide) (k_147 hT) (fun _ h9 => h9) rfl d_Pc_moveCell_39 ?_
      by_cases c42_6 : (cQ σ i 0) = 6
      · refine lv_tableIn (tgt := 68) hx hb d_Pc_moveCell_42 (by rw [c42_6]; decide) (by rw [c42_6]; decide) (by rw [c42_6]; rfl) (by decide) ?_
        refine lv_aload_n hx hb d_Pc_moveCell_68 rfl (lv_at hl 1 rfl) ?_
        refine lv_aload_n hx hb d_Pc_moveCell_69 rfl (lv_at hl 2 rfl) ?_
        refine va_get (D := gD G) (ci := 3) (v := .int (cQ σ i 1)) (C := R_In) (T := F_In) (N := 8) hx hb (wl_In hT) (fun _ h9 => h9) hown hK hP (19 + i) (cw_in hi) rfl 1 (by decide) (k_149 hT) (fun _ h9 => h9) rfl d_Pc_moveCell_70 ?_
        refine lv_aload_n hx hb d_Pc_moveCell_73 rfl (lv_at hl 1 rfl) ?_
        refine va_get (D := gD G) (ci := 6) (v := .ref (gad G 2)) (C := R_Pc) (T := F_Pc) (N := 12) hx hb (wl_Pc hT) (fun _ h9 => h9) hown hK hP 0 rfl rfl 1 (by decide) (k_180 hT) (fun _ h9 => h9) rfl d_Pc_moveCell_74 ?_
        refine lv_iload_n hx hb d_Pc_moveCell_77 rfl (lv_at hl 0 rfl) ?_
        refine va_dald (f := (cF σ 0)) hx hb hK hP 2 1 rfl rfl (vp48 c16 c22) d_Pc_moveCell_78 ?_
        refine lv_d2i hx hb d_Pc_moveCell_79 ?_
        refine cx_V (n := 2) (C := R_Pc) (As := [.int (cQ σ i 1), .int (FP.d2i ((cF σ 0) (((cJ σ 0) (cQ σ i 2).toNatClampNeg) + (cQ σ i 4)).toNatClampNeg))]) (rest := []) ⟨hx, hb, hml, hown, fun _ h9 => nomatch h9⟩ (K_Pc_putWhole g σ (cQ σ i 1) (FP.d2i ((cF σ 0) (((cJ σ 0) (cQ σ i 2).toNatClampNeg) + (cQ σ i 4)).toNatClampNeg)) h.2.1) (k_458 hT) (k_460 hT) (ks_9 hT) (k_461 hT) (k_1 hT) rfl (by decide +kernel) (va_recv hK hP (ci := 6) (q0 := 0) rfl rfl) (hc.at g hS hP) ⟨by decide, by decide⟩ ⟨by decide, by decide⟩ hl.1 (Nat.le_of_ble_eq_true rfl) d_Pc_moveCell_80 (fun _ h9 => h9) hS (fun _ _ _ _ _ _ _ h9 => h9.elim) (fun v t H locs ht9 hRt hz hk hS => ?_)
        obtain ⟨u, rfl, eu, hP⟩ := hRt
        rw [eu, ht9] at hP
        have hD : va_D (gA G) (cw G (pwF σ (cQ σ i 1) (FP.d2i ((cF σ 0) (((cJ σ 0) (cQ σ i 2).toNatClampNeg) + (cQ σ i 4)).toNatClampNeg)))) := g.d
        refine W.eq (g2 := F0 m 83 ls []) rfl ?_
        refine lv_goto (tgt := 142) hx hb d_Pc_moveCell_83 (by decide) ?_
        refine lv_aload_n hx hb d_Pc_moveCell_142 rfl (lv_at hl 1 rfl) ?_
        refine va_get (D := gD G) (ci := 6) (v := .ref (gad G 9)) (C := R_Pc) (T := F_Pc) (N := 12) hx hb (wl_Pc hT) (fun _ h9 => h9) hown hK hP 0 rfl rfl 6 (by decide) (k_185 hT) (fun _ h9 => h9) rfl d_Pc_moveCell_143 ?_
        refine lv_iload_n hx hb d_Pc_moveCell_146 rfl (lv_at hl 0 rfl) ?_
        refine lv_iconst (v := 4) hx hb d_Pc_moveCell_147 (by decide) ?_
        refine lv_idiv hx hb d_Pc_moveCell_148 (by decide) ?_
        refine cx_V (n := 1) (C := R_Dc) (As := [.int ((((cJ σ 0) (cQ σ i 2).toNatClampNeg) + (cQ σ i 4)) / 4)]) (rest := []) ⟨hx, hb, hml, hown, fun _ h9 => nomatch h9⟩ (K_Dc_misses g (pwF σ (cQ σ i 1) (FP.d2i ((cF σ 0) (((cJ σ 0) (cQ σ i 2).toNatClampNeg) + (cQ σ i 4)).toNatClampNeg))) ((((cJ σ 0) (cQ σ i 2).toNatClampNeg) + (cQ σ i 4)) / 4) (ln1 c16 c22) (ln2 c16 c22)) (k_462 hT) (k_463 hT) (k_464 hT) (k_465 hT) (k_5 hT) rfl (by decide +kernel) (va_recv hK hP (ci := 2) (q0 := 9) rfl rfl) (hc.at g hS hP) ⟨by decide, by decide⟩ ⟨by decide, by decide⟩ hl.1 (Nat.le_of_ble_eq_true rfl) d_Pc_moveCell_149 (fun _ h9 => h9) hS (fun _ _ _ _ _ _ _ h9 => h9.elim) (fun v t H locs ht9 hRt hz hk hS => ?_)
        obtain ⟨r, u, rfl, ⟨er, eu⟩, hP⟩ := hRt
        subst er
        rw [eu, ht9] at hP
        have hD : va_D (gA G) (cw G ((dmF (pwF σ (cQ σ i 1) (FP.d2i ((cF σ 0) (((cJ σ 0) (cQ σ i 2).toNatClampNeg) + (cQ σ i 4)).toNatClampNeg))) ((((cJ σ 0) (cQ σ i 2).toNatClampNeg) + (cQ σ i 4)) / 4)).2)) := g.d
        refine W.eq (g2 := F0 m 152 ls [.int (b2i (dmF (pwF σ (cQ σ i 1) (FP.d2i ((cF σ 0) (((cJ σ 0) (cQ σ i 2).toNatClampNeg) + (cQ σ i 4)).toNatClampNeg))) ((((cJ σ 0) (cQ σ i 2).toNatClampNeg) + (cQ σ i 4)) / 4)).1)]) rfl ?_
        exact end_z (u := ((dmF (pwF σ (cQ σ i 1) (FP.d2i ((cF σ 0) (((cJ σ 0) (cQ σ i 2).toNatClampNeg) + (cQ σ i 4)).toNatClampNeg))) ((((cJ σ 0) (cQ σ i 2).toNatClampNeg) + (cQ σ i 4)) / 4)).2)) hx hb hr hlocks hS hP d_Pc_moveCell_152 (nb_b _) (⟨⟨by simp [badA, adF, ix, c16, c22], by simp [mvF, adF, ix, c42_6]⟩, by simp [mvF, adF, ix, c42_6]⟩)
      by_cases c42_7 : (cQ σ i 0) = 7
      · refine lv_tableIn (tgt := 86) hx hb d_Pc_moveCell_42 (by rw [c42_7]; decide) (by rw [c42_7]; decide) (by rw [c42_7]; rfl) (by decide) ?_
        refine lv_aload_n hx hb d_Pc_moveCell_86 rfl (lv_at hl 1 rfl) ?_
        refine va_get (D := gD G) (ci := 6) (v := .ref (gad G 2)) (C := R_Pc) (T := F_Pc) (N := 12) hx hb (wl_Pc hT) (fun _ h9 => h9) hown hK hP 0 rfl rfl 1 (by decide) (k_180 hT) (fun _ h9 => h9) rfl d_Pc_moveCell_87 ?_
        refine lv_iload_n hx hb d_Pc_moveCell_90 rfl (lv_at hl 0 rfl) ?_
        refine lv_aload_n hx hb d_Pc_moveCell_91 rfl (lv_at hl 1 rfl) ?_
        refine va_get (D := gD G) (ci := 6) (v := .ref (gad G 3)) (C := R_Pc) (T := F_Pc) (N := 12) hx hb (wl_Pc hT) (fun _ h9 => h9) hown hK hP 0 rfl rfl 2 (by decide) (k_181 hT) (fun _ h9 => h9) rfl d_Pc_moveCell_92 ?_
        refine lv_aload_n hx hb d_Pc_moveCell_95 rfl (lv_at hl 2 rfl) ?_
        refine va_get (D := gD G) (ci := 3) (v := .int (cQ σ i 3)) (C := R_In) (T := F_In) (N := 8) hx hb (wl_In hT) (fun _ h9 => h9) hown hK hP (19 + i) (cw_in hi) rfl 3 (by decide) (k_153 hT) (fun _ h9 => h9) rfl d_Pc_moveCell_96 ?_
        refine va_iald (f := (cJ σ 0)) hx hb hK hP 3 0 rfl rfl (h.2.2.2.1) d_Pc_moveCell_99 ?_
        refine lv_i2d hx hb d_Pc_moveCell_100 ?_
        refine va_dast (f := (cF σ 0)) hx hb hK hP hD hS 2 1 rfl rfl (vp48 c16 c22) d_Pc_moveCell_101 (fun H locs hP hD hS => ?_)
        have hP : va_P (gD G) classes (cw G (sF σ 0 (vf_upd (cF σ 0) (((cJ σ 0) (cQ σ i 2).toNatClampNeg) + (cQ σ i 4)).toNatClampNeg (FP.i2d ((cJ σ 0) (cQ σ i 3).toNatClampNeg))))) H := hP
        have hD : va_D (gA G) (cw G (sF σ 0 (vf_upd (cF σ 0) (((cJ σ 0) (cQ σ i 2).toNatClampNeg) + (cQ σ i 4)).toNatClampNeg (FP.i2d ((cJ σ 0) (cQ σ i 3).toNatClampNeg))))) := g.d
        refine lv_goto (tgt := 142) hx hb d_Pc_moveCell_102 (by decide) ?_
        refine lv_aload_n hx hb d_Pc_moveCell_142 rfl (lv_at hl 1 rfl) ?_
        refine va_get (D := gD G) (ci := 6) (v := .ref (gad G 9)) (C := R_Pc) (T := F_Pc) (N := 12) hx hb (wl_Pc hT) (fun _ h9 => h9) hown hK hP 0 rfl rfl 6 (by decide) (k_185 hT) (fun _ h9 => h9) rfl d_Pc_moveCell_143 ?_
        refine lv_iload_n hx hb d_Pc_moveCell_146 rfl (lv_at hl 0 rfl) ?_
        refine lv_iconst (v := 4) hx hb d_Pc_moveCell_147 (by decide) ?_
        refine lv_idiv hx hb d_Pc_moveCell_148 (by decide) ?_
        refine cx_V (n := 1) (C := R_Dc) (As := [.int ((((cJ σ 0) (cQ σ i 2).toNatClampNeg) + (cQ σ i 4)) / 4)]) (rest := []) ⟨hx, hb, hml, hown, fun _ h9 => nomatch h9⟩ (K_Dc_misses g (sF σ 0 (vf_upd (cF σ 0) (((cJ σ 0) (cQ σ i 2).toNatClampNeg) + (cQ σ i 4)).toNatClampNeg (FP.i2d ((cJ σ 0) (cQ σ i 3).toNatClampNeg)))) ((((cJ σ 0) (cQ σ i 2).toNatClampNeg) + (cQ σ i 4)) / 4) (ln1 c16 c22) (ln2 c16 c22)) (k_462 hT) (k_463 hT) (k_464 hT) (k_465 hT) (k_5 hT) rfl (by decide +kernel) (va_recv hK hP (ci := 2) (q0 := 9) rfl rfl) (hc.at g hS hP) ⟨by decide, by decide⟩ ⟨by decide, by decide⟩ hl.1 (Nat.le_of_ble_eq_true rfl) d_Pc_moveCell_149 (fun _ h9 => h9) hS (fun _ _ _ _ _ _ _ h9 => h9.elim) (fun v t H locs ht9 hRt hz hk hS => ?_)
        obtain ⟨r, u, rfl, ⟨er, eu⟩, hP⟩ := hRt
        subst er
        rw [eu, ht9] at hP
        have hD : va_D (gA G) (cw G ((dmF (sF σ 0 (vf_upd (cF σ 0) (((cJ σ 0) (cQ σ i 2).toNatClampNeg) + (cQ σ i 4)).toNatClampNeg (FP.i2d ((cJ σ 0) (cQ σ i 3).toNatClampNeg)))) ((((cJ σ 0) (cQ σ i 2).toNatClampNeg) + (cQ σ i 4)) / 4)).2)) := g.d
        refine W.eq (g2 := F0 m 152 ls [.int (b2i (dmF (sF σ 0 (vf_upd (cF σ 0) (((cJ σ 0) (cQ σ i 2).toNatClampNeg) + (cQ σ i 4)).toNatClampNeg (FP.i2d ((cJ σ 0) (cQ σ i 3).toNatClampNeg)))) ((((cJ σ 0) (cQ σ i 2).toNatClampNeg) + (cQ σ i 4)) / 4)).1)]) rfl ?_
        exact end_z (u := ((dmF (sF σ 0 (vf_upd (cF σ 0) (((cJ σ 0) (cQ σ i 2).toNatClampNeg) + (cQ σ i 4)).toNatClampNeg (FP.i2d ((cJ σ 0) (cQ σ i 3).toNatClampNeg)))) ((((cJ σ 0) (cQ σ i 2).toNatClampNeg) + (cQ σ i 4)) / 4)).2)) hx hb hr hlocks hS hP d_Pc_moveCell_152 (nb_b _) (⟨⟨by simp [badA, adF, ix, c16, c22], by simp [mvF, adF, ix, c42_6, c42_7]⟩, by simp [mvF, adF, ix, c42_6, c42_7]⟩)
      by_cases c42_8 : (cQ σ i 0) = 8
      · refine lv_tableIn (tgt := 105) hx hb d_Pc_moveCell_42 (by rw [c42_8]; decide) (by rw [c42_8]; decide) (by rw [c42_8]; rfl) (by decide) ?_
        refine lv_aload_n hx hb d_Pc_moveCell_105 rfl (lv_at hl 1 rfl) ?_
        refine va_get (D := gD G) (ci := 6) (v := .ref (gad G 4)) (C := R_Pc) (T := F_Pc) (N := 12) hx hb (wl_Pc hT) (fun _ h9 => h9) hown hK hP 0 rfl rfl 3 (by decide) (k_182 hT) (fun _ h9 => h9) rfl d_Pc_moveCell_106 ?_
        refine lv_aload_n hx hb d_Pc_moveCell_109 rfl (lv_at hl 2 rfl) ?_
        refine va_get (D := gD G) (ci := 3) (v := .int (cQ σ i 1)) (C := R_In) (T := F_In) (N := 8) hx hb (wl_In hT) (fun _ h9 => h9) hown hK hP (19 + i) (cw_in hi) rfl 1 (by decide) (k_149 hT) (fun _ h9 => h9) rfl d_Pc_moveCell_110 ?_
        refine lv_iconst (v := 4) hx hb d_Pc_moveCell_113 (by decide) ?_
        refine lv_irem hx hb d_Pc_moveCell_114 (by decide) ?_
        refine lv_aload_n hx hb d_Pc_moveCell_115 rfl (lv_at hl 1 rfl) ?_
        refine va_get (D := gD G) (ci := 6) (v := .ref (gad G 2)) (C := R_Pc) (T := F_Pc) (N := 12) hx hb (wl_Pc hT) (fun _ h9 => h9) hown hK hP 0 rfl rfl 1 (by decide) (k_180 hT) (fun _ h9 => h9) rfl d_Pc_moveCell_116 ?_
        refine lv_iload_n hx hb d_Pc_moveCell_119 rfl (lv_at hl 0 rfl) ?_
        refine va_dald (f := (cF σ 0)) hx hb hK hP 2 1 rfl rfl (vp48 c16 c22) d_Pc_moveCell_120 ?_
        refine va_dast (f := (cF σ 1)) hx hb hK hP hD hS 4 1 rfl rfl (m4_in h.2.1) d_Pc_moveCell_121 (fun H locs hP hD hS => ?_)
        have hP : va_P (gD G) classes (cw G (sF σ 1 (vf_upd (cF σ 1) ((cQ σ i 1) - (cQ σ i 1) / 4 * 4).toNatClampNeg ((cF σ 0) (((cJ σ 0) (cQ σ i 2).toNatClampNeg) + (cQ σ i 4)).toNatClampNeg)))) H := hP
        have hD : va_D (gA G) (cw G (sF σ 1 (vf_upd (cF σ 1) ((cQ σ i 1) - (cQ σ i 1) / 4 * 4).toNatClampNeg ((cF σ 0) (((cJ σ 0) (cQ σ i 2).toNatClampNeg) + (cQ σ i 4)).toNatClampNeg)))) := g.d
        refine lv_goto (tgt := 142) hx hb d_Pc_moveCell_122 (by decide) ?_
        refine lv_aload_n hx hb d_Pc_moveCell_142 rfl (lv_at hl 1 rfl) ?_
        refine va_get (D := gD G) (ci := 6) (v := .ref (gad G 9)) (C := R_Pc) (T := F_Pc) (N := 12) hx hb (wl_Pc hT) (fun _ h9 => h9) hown hK hP 0 rfl rfl 6 (by decide) (k_185 hT) (fun _ h9 => h9) rfl d_Pc_moveCell_143 ?_
        refine lv_iload_n hx hb d_Pc_moveCell_146 rfl (lv_at hl 0 rfl) ?_
        refine lv_iconst (v := 4) hx hb d_Pc_moveCell_147 (by decide) ?_
        refine lv_idiv hx hb d_Pc_moveCell_148 (by decide) ?_
        refine cx_V (n := 1) (C := R_Dc) (As := [.int ((((cJ σ 0) (cQ σ i 2).toNatClampNeg) + (cQ σ i 4)) / 4)]) (rest := []) ⟨hx, hb, hml, hown, fun _ h9 => nomatch h9⟩ (K_Dc_misses g (sF σ 1 (vf_upd (cF σ 1) ((cQ σ i 1) - (cQ σ i 1) / 4 * 4).toNatClampNeg ((cF σ 0) (((cJ σ 0) (cQ σ i 2).toNatClampNeg) + (cQ σ i 4)).toNatClampNeg))) ((((cJ σ 0) (cQ σ i 2).toNatClampNeg) + (cQ σ i 4)) / 4) (ln1 c16 c22) (ln2 c16 c22)) (k_462 hT) (k_463 hT) (k_464 hT) (k_465 hT) (k_5 hT) rfl (by decide +kernel) (va_recv hK hP (ci := 2) (q0 := 9) rfl rfl) (hc.at g hS hP) ⟨by decide, by decide⟩ ⟨by decide, by decide⟩ hl.1 (Nat.le_of_ble_eq_true rfl) d_Pc_moveCell_149 (fun _ h9 => h9) hS (fun _ _ _ _ _ _ _ h9 => h9.elim) (fun v t H locs ht9 hRt hz hk hS => ?_)
        obtain ⟨r, u, rfl, ⟨er, eu⟩, hP⟩ := hRt
        subst er
        rw [eu, ht9] at hP
        have hD : va_D (gA G) (cw G ((dmF (sF σ 1 (vf_upd (cF σ 1) ((cQ σ i 1) - (cQ σ i 1) / 4 * 4).toNatClampNeg ((cF σ 0) (((cJ σ 0) (cQ σ i 2).toNatClampNeg) + (cQ σ i 4)).toNatClampNeg))) ((((cJ σ 0) (cQ σ i 2).toNatClampNeg) + (cQ σ i 4)) / 4)).2)) := g.d
        refine W.eq (g2 := F0 m 152 ls [.int (b2i (dmF (sF σ 1 (vf_upd (cF σ 1) ((cQ σ i 1) - (cQ σ i 1) / 4 * 4).toNatClampNeg ((cF σ 0) (((cJ σ 0) (cQ σ i 2).toNatClampNeg) + (cQ σ i 4)).toNatClampNeg))) ((((cJ σ 0) (cQ σ i 2).toNatClampNeg) + (cQ σ i 4)) / 4)).1)]) rfl ?_
        exact end_z (u := ((dmF (sF σ 1 (vf_upd (cF σ 1) ((cQ σ i 1) - (cQ σ i 1) / 4 * 4).toNatClampNeg ((cF σ 0) (((cJ σ 0) (cQ σ i 2).toNatClampNeg) + (cQ σ i 4)).toNatClampNeg))) ((((cJ σ 0) (cQ σ i 2).toNatClampNeg) + (cQ σ i 4)) / 4)).2)) hx hb hr hlocks hS hP d_Pc_moveCell_152 (nb_b _) (⟨⟨by simp [badA, adF, ix, c16, c22], by simp [mvF, adF, ix, c42_6, c42_7, c42_8]⟩, by simp [mvF, adF, ix, c42_6, c42_7, c42_8]⟩)
      refine lv_tableOut (tgt := 125) hx hb d_Pc_moveCell_42 (tsw_out (n := 3) (l := [6, 7, 8]) (by decide) (by decide) (by simp [c42_6, c42_7, c42_8])) (by decide) ?_
      refine lv_aload_n hx hb d_Pc_moveCell_125 rfl (lv_at hl 1 rfl) ?_
      refine va_get (D := gD G) (ci := 6) (v := .ref (gad G 2)) (C := R_Pc) (T := F_Pc) (N := 12) hx hb (wl_Pc hT) (fun _ h9 => h9) hown hK hP 0 rfl rfl 1 (by decide) (k_180 hT) (fun _ h9 => h9) rfl d_Pc_moveCell_126 ?_
      refine lv_iload_n hx hb d_Pc_moveCell_129 rfl (lv_at hl 0 rfl) ?_
      refine lv_aload_n hx hb d_Pc_moveCell_130 rfl (lv_at hl 1 rfl) ?_
      refine va_get (D := gD G) (ci := 6) (v := .ref (gad G 4)) (C := R_Pc) (T := F_Pc) (N := 12) hx hb (wl_Pc hT) (fun _ h9 => h9) hown hK hP 0 rfl rfl 3 (by decide) (k_182 hT) (fun _ h9 => h9) rfl d_Pc_moveCell_131 ?_
      refine lv_aload_n hx hb d_Pc_moveCell_134 rfl (lv_at hl 2 rfl) ?_
      refine va_get (D := gD G) (ci := 3) (v := .int (cQ σ i 3)) (C := R_In) (T := F_In) (N := 8) hx hb (wl_In hT) (fun _ h9 => h9) hown hK hP (19 + i) (cw_in hi) rfl 3 (by decide) (k_153 hT) (fun _ h9 => h9) rfl d_Pc_moveCell_135 ?_
      refine lv_iconst (v := 4) hx hb d_Pc_moveCell_138 (by decide) ?_
      refine lv_irem hx hb d_Pc_moveCell_139 (by decide) ?_
      refine va_dald (f := (cF σ 1)) hx hb hK hP 4 1 rfl rfl (m4_in h.2.2.2.1) d_Pc_moveCell_140 ?_
      refine va_dast (f := (cF σ 0)) hx hb hK hP hD hS 2 1 rfl rfl (vp48 c16 c22) d_Pc_moveCell_141 (fun H locs hP hD hS => ?_)
      have hP : va_P (gD G) classes (cw G (sF σ 0 (vf_upd (cF σ 0) (((cJ σ 0) (cQ σ i 2).toNatClampNeg) + (cQ σ i 4)).toNatClampNeg ((cF σ 1) ((cQ σ i 3) - (cQ σ i 3) / 4 * 4).toNatClampNeg)))) H := hP
      have hD : va_D (gA G) (cw G (sF σ 0 (vf_upd (cF σ 0) (((cJ σ 0) (cQ σ i 2).toNatClampNeg) + (cQ σ i 4)).toNatClampNeg ((cF σ 1) ((cQ σ i 3) - (cQ σ i 3) / 4 * 4).toNatClampNeg)))) := g.d
      refine lv_aload_n hx hb d_Pc_moveCell_142 rfl (lv_at hl 1 rfl) ?_
      refine va_get (D := gD G) (ci := 6) (v := .ref (gad G 9)) (C := R_Pc) (T := F_Pc) (N := 12) hx hb (wl_Pc hT) (fun _ h9 => h9) hown hK hP 0 rfl rfl 6 (by decide) (k_185 hT) (fun _ h9 => h9) rfl d_Pc_moveCell_143 ?_
      refine lv_iload_n hx hb d_Pc_moveCell_146 rfl (lv_at hl 0 rfl) ?_
      refine lv_iconst (v := 4) hx hb d_Pc_moveCell_147 (by decide) ?_
      refine lv_idiv hx hb d_Pc_moveCell_148 (by decide) ?_
      refine cx_V (n := 1) (C := R_Dc) (As := [.int ((((cJ σ 0) (cQ σ i 2).toNatClampNeg) + (cQ σ i 4)) / 4)]) (rest := []) ⟨hx, hb, hml, hown, fun _ h9 => nomatch h9⟩ (K_Dc_misses g (sF σ 0 (vf_upd (cF σ 0) (((cJ σ 0) (cQ σ i 2).toNatClampNeg) + (cQ σ i 4)).toNatClampNeg ((cF σ 1) ((cQ σ i 3) - (cQ σ i 3) / 4 * 4).toNatClampNeg))) ((((cJ σ 0) (cQ σ i 2).toNatClampNeg) + (cQ σ i 4)) / 4) (ln1 c16 c22) (ln2 c16 c22)) (k_462 hT) (k_463 hT) (k_464 hT) (k_465 hT) (k_5 hT) rfl (by decide +kernel) (va_recv hK hP (ci := 2) (q0 := 9) rfl rfl) (hc.at g hS hP) ⟨by decide, by decide⟩ ⟨by decide, by decide⟩ hl.1 (Nat.le_of_ble_eq_true rfl) d_Pc_moveCell_149 (fun _ h9 => h9) hS (fun _ _ _ _ _ _ _ h9 => h9.elim) (fun v t H locs ht9 hRt hz hk hS => ?_)
      obtain ⟨r, u, rfl, ⟨er, eu⟩, hP⟩ := hRt
      subst er
      rw [eu, ht9] at hP
      have hD : va_D (gA G) (cw G ((dmF (sF σ 0 (vf_upd (cF σ 0) (((cJ σ 0) (cQ σ i 2).toNatClampNeg) + (cQ σ i 4)).toNatClampNeg ((cF σ 1) ((cQ σ i 3) - (cQ σ i 3) / 4 * 4).toNatClampNeg))) ((((cJ σ 0) (cQ σ i 2).toNatClampNeg) + (cQ σ i 4)) / 4)).2)) := g.d
      refine W.eq (g2 := F0 m 152 ls [.int (b2i (dmF (sF σ 0 (vf_upd (cF σ 0) (((cJ σ 0) (cQ σ i 2).toNatClampNeg) + (cQ σ i 4)).toNatClampNeg ((cF σ 1) ((cQ σ i 3) - (cQ σ i 3) / 4 * 4).toNatClampNeg))) ((((cJ σ 0) (cQ σ i 2).toNatClampNeg) + (cQ σ i 4)) / 4)).1)]) rfl ?_
      exact end_z (u := ((dmF (sF σ 0 (vf_upd (cF σ 0) (((cJ σ 0) (cQ σ i 2).toNatClampNeg) + (cQ σ i 4)).toNatClampNeg ((cF σ 1) ((cQ σ i 3) - (cQ σ i 3) / 4 * 4).toNatClampNeg))) ((((cJ σ 0) (cQ σ i 2).toNatClampNeg) + (cQ σ i 4)) / 4)).2)) hx hb hr hlocks hS hP d_Pc_moveCell_152 (nb_b _) (⟨⟨by simp [badA, adF, ix, c16, c22], by simp [mvF, adF, ix, c42_6, c42_7, c42_8]⟩, by simp [mvF, adF, ix, c42_6, c42_7, c42_8]⟩)
    · refine lv_aload_n hx hb d_Pc_moveCell_25 rfl (lv_at hl 1 rfl) ?_
      refine lv_iconst (v := 1) hx hb d_Pc_moveCell_26 (by decide) ?_
      refine va_put (D := gD G) (ci := 6) (v := .int 1) (ty := .boolean) (C := R_Pc) (T := F_Pc) (N := 12) hx hb (wl_Pc hT) (fun _ h9 => h9) fy_Pc fy_Pc_ok fn_Pc hown hK hP hD hS 0 rfl rfl 10 (by decide) (k_189 hT) (fun _ h9 => h9) rfl (by decide +kernel) rfl rfl (Nat.le_of_ble_eq_true rfl) d_Pc_moveCell_27 (fun H locs hP hD hS => ?_)
      have hP : va_P (gD G) classes (cw G (sI σ 1 1)) H := hP
      have hD : va_D (gA G) (cw G (sI σ 1 1)) := g.d
      exact cx_throw (own := R_Pc) (cls := "java/lang/IndexOutOfBoundsException") (names := ["java/lang/RuntimeException", "java/lang/Exception"]) (ik := 177) (ic := 179) hx hb g.1 hown (by decide +kernel) (by decide +kernel) (fun U hU hW => ⟨k_443 ((g.tb hc).warm hW), k_15 ((g.tb hc).warm hW), at_IOB_179 g hc hS U hU hW⟩) hS hc.2.1 (by rw [hml]; exact hl.1) d_Pc_moveCell_30 d_Pc_moveCell_33 d_Pc_moveCell_34 d_Pc_moveCell_37 ht hlocks (by decide) (Nat.le_of_ble_eq_true rfl) (by decide) (by decide) (fun t9 _ _ hk => Tw.i (u := (sI σ 1 1)) (⟨rfl, by simp [badA, adF, ix, c16, c22], rfl⟩) (hP.keep hk))
end
section
/-! CONTRACTS: doOne -/
theorem at8 {x : Int32} (h : vp_in x 24) : vp_in (x - x / 8 * 8) 8 := by
  obtain ⟨j, hj, rfl⟩ := vp_in_of h (by decide)
  have : ∀ j, j < 24 → vp_in (nI j - nI j / 8 * 8) 8 := by unfold vp_in; decide
  exact this j hj
theorem at42 {x : Int32} (h : vp_in x 24) : vp_in (x / 4 - x / 4 / 2 * 2) 2 := by
  obtain ⟨j, hj, rfl⟩ := vp_in_of h (by decide)
  have : ∀ j, j < 24 → vp_in (nI j / 4 - nI j / 4 / 2 * 2) 2 := by unfold vp_in; decide
  exact this j hj
theorem cmF_I0 (σ : CS) (g : Int32) : cI (cmF σ g).2 0 = cI σ 0 := by unfold cmF; split <;> rfl
set_option maxHeartbeats 4000000 in
set_option maxRecDepth 100000 in
theorem K_Pc_doOne {l : Launch} {G : GT} (g : GOK l G) (σ : CS) (w : Wf σ) : cx_M l y_Pc_doOne (.code y_Pc_doOne b_Pc_doOne 6 none) 10 190 (gA G) [.ref (gad G 0)] (Cw G σ) (Rv G (fun u => (doF σ).1 = 0 ∧ u = (doF σ).2)) (Tw G (fun E u => ((E = "java/lang/IndexOutOfBoundsException" ∧ (doF σ).1 = 3) ∨ (E = "java/lang/ArithmeticException" ∧ (doF σ).1 = 4)) ∧ u = (doF σ).2)) := by
  refine cx_of (by decide +kernel) ?_
  intro p e s m below meth c s₁ B hml ht hc
  have hx := B.exec
  have hb := B.bytes
  have hr := B.returns
  have hown : s.vm.findClass R_Pc = some m.cls := findClass_of_methodNamed B.named
  have hlocks := B.notSynchronized
  have hT := g.tb hc
  have hK := g.k hc
  have hD := g.d (σ := σ)
  have hS : va_S (gA G) s.heap s.heap [] := va_S.rf
  have hP := hc.2.2
  have hl := lv_entry ([.ref (gad G 0)]) (n := 6) (Nat.le_of_ble_eq_true rfl)
  rw [lg_entry_eq]
  generalize (lg_sl ([.ref (gad G 0)]) ++ List.replicate (6 - (lg_sl ([.ref (gad G 0)])).length) Slot.unset).toArray = ls at hl ⊢
  have hl : lv_has ls 6 [(0, .ref (gad G 0))] := hl
  refine lv_aload_n hx hb d_Pc_doOne_0 rfl (lv_at hl 0 rfl) ?_
  refine va_get (D := gD G) (ci := 6) (v := .ref (gad G 1)) (C := R_Pc) (T := F_Pc) (N := 12) hx hb (wl_Pc hT) (fun _ h9 => h9) hown hK hP 0 rfl rfl 0 (by decide) (k_179 hT) (fun _ h9 => h9) rfl d_Pc_doOne_1 ?_
  refine lv_aload_n hx hb d_Pc_doOne_4 rfl (lv_at hl 0 rfl) ?_
  refine va_get (D := gD G) (ci := 6) (v := .int (cI σ 0)) (C := R_Pc) (T := F_Pc) (N := 12) hx hb (wl_Pc hT) (fun _ h9 => h9) hown hK hP 0 rfl rfl 9 (by decide) (k_188 hT) (fun _ h9 => h9) rfl d_Pc_doOne_5 ?_
  refine ald_r (v := gia G ((cP σ 0) (cI σ 0).toNatClampNeg)) hx hb hK hP 1 3 rfl rfl (w.1) (if_pos (w.2.1 _ (vp_lt w.1))) d_Pc_doOne_8 ?_
  refine lv_astore_n (lv' := [(1, .ref (gia G ((cP σ 0) (cI σ 0).toNatClampNeg))), (0, .ref (gad G 0))]) hx hb d_Pc_doOne_9 rfl hl (by decide) rfl (fun ls hl => ?_)
  refine lv_aload_n hx hb d_Pc_doOne_10 rfl (lv_at hl 1 rfl) ?_
  refine va_get (D := gD G) (ci := 6) (v := .ref (gad G 7)) (C := R_Pc) (T := F_Pc) (N := 12) hx hb (wl_Pc hT) (fun _ h9 => h9) hown hK hP 0 rfl rfl 5 (by decide) (k_184 hT) (fun _ h9 => h9) rfl d_Pc_doOne_11 ?_
  refine lv_aload_n hx hb d_Pc_doOne_14 rfl (lv_at hl 1 rfl) ?_
  refine va_get (D := gD G) (ci := 6) (v := .int (cI σ 0)) (C := R_Pc) (T := F_Pc) (N := 12) hx hb (wl_Pc hT) (fun _ h9 => h9) hown hK hP 0 rfl rfl 9 (by decide) (k_188 hT) (fun _ h9 => h9) rfl d_Pc_doOne_15 ?_
  refine lv_iconst (v := 4) hx hb d_Pc_doOne_18 (by decide) ?_
  refine lv_idiv hx hb d_Pc_doOne_19 (by decide) ?_
  refine cx_V (n := 1) (C := R_Cc) (As := [.int ((cI σ 0) / 4)]) (rest := []) ⟨hx, hb, hml, hown, fun _ h9 => nomatch h9⟩ (K_Cc_misses g σ ((cI σ 0) / 4) (at42 w.1)) (k_431 hT) (k_432 hT) (k_433 hT) (k_434 hT) (k_3 hT) rfl (by decide +kernel) (va_recv hK hP (ci := 1) (q0 := 7) rfl rfl) (hc.at g hS hP) ⟨by decide, by decide⟩ ⟨by decide, by decide⟩ hl.1 (Nat.le_of_ble_eq_true rfl) d_Pc_doOne_20 (fun _ h9 => h9) hS (fun _ _ _ _ _ _ _ h9 => h9.elim) (fun v t H locs ht9 hRt hz hk hS => ?_)
  obtain ⟨r, u, rfl, ⟨er, eu⟩, hP⟩ := hRt
  subst er
  rw [eu, ht9] at hP
  have hD : va_D (gA G) (cw G ((cmF σ ((cI σ 0) / 4)).2)) := g.d
  refine W.eq (g2 := F0 m 23 ls [.int (b2i (cmF σ ((cI σ 0) / 4)).1)]) rfl ?_
  refine lv_istore_n (lv' := [(2, .int (b2i (cmF σ ((cI σ 0) / 4)).1)), (1, .ref (gia G ((cP σ 0) (cI σ 0).toNatClampNeg))), (0, .ref (gad G 0))]) hx hb d_Pc_doOne_23 rfl hl (by decide) rfl (fun ls hl => ?_)
  refine lv_iconst (v := 0) hx hb d_Pc_doOne_24 (by decide) ?_
  refine lv_istore_n (lv' := [(3, .int 0), (2, .int (b2i (cmF σ ((cI σ 0) / 4)).1)), (1, .ref (gia G ((cP σ 0) (cI σ 0).toNatClampNeg))), (0, .ref (gad G 0))]) hx hb d_Pc_doOne_25 rfl hl (by decide) rfl (fun ls hl => ?_)
  refine lv_iconst (v := 0) hx hb d_Pc_doOne_26 (by decide) ?_
  refine lv_istore (lv' := [(4, .int 0), (3, .int 0), (2, .int (b2i (cmF σ ((cI σ 0) / 4)).1)), (1, .ref (gia G ((cP σ 0) (cI σ 0).toNatClampNeg))), (0, .ref (gad G 0))]) hx hb d_Pc_doOne_27 hl (by decide) rfl (fun ls hl => ?_)
  refine lv_iconst (v := 0) hx hb d_Pc_doOne_29 (by decide) ?_
  refine lv_istore (lv' := [(5, .int 0), (4, .int 0), (3, .int 0), (2, .int (b2i (cmF σ ((cI σ 0) / 4)).1)), (1, .ref (gia G ((cP σ 0) (cI σ 0).toNatClampNeg))), (0, .ref (gad G 0))]) hx hb d_Pc_doOne_30 hl (by decide) rfl (fun ls hl => ?_)
  have hok : okQ (cQ ((cmF σ ((cI σ 0) / 4)).2) (cP σ 0 (cI σ 0).toNatClampNeg)) := by rw [cmF_Q]; exact w.2.2.1 _ (w.2.1 _ (vp_lt w.1))
  refine lv_aload_n hx hb d_Pc_doOne_32 rfl (lv_at hl 4 rfl) ?_
  refine cx_V (n := 0) (C := R_In) (As := []) (rest := []) ⟨hx, hb, hml, hown, fun _ h9 => nomatch h9⟩ (K_In_goesToMemory g ((cmF σ ((cI σ 0) / 4)).2) (w.2.1 _ (vp_lt w.1))) (k_435 hT) (k_436 hT) (k_437 hT) (k_438 hT) (k_8 hT) rfl (by decide +kernel) (va_recv hK hP (ci := 3) (q0 := 19 + ((cP σ 0) (cI σ 0).toNatClampNeg)) rfl (cw_in (w.2.1 _ (vp_lt w.1)))) (hc.at g hS hP) ⟨by decide, by decide⟩ ⟨by decide, by decide⟩ hl.1 (Nat.le_of_ble_eq_true rfl) d_Pc_doOne_33 (fun _ h9 => h9) hS (fun _ _ _ _ _ _ _ h9 => h9.elim) (fun v t H locs ht9 hRt hz hk hS => ?_)
  obtain ⟨r, u, rfl, ⟨er, eu⟩, hP⟩ := hRt
  subst er
  rw [eu, ht9] at hP
  have hD : va_D (gA G) (cw G ((cmF σ ((cI σ 0) / 4)).2)) := g.d
  refine W.eq (g2 := F0 m 36 ls [.int (b2i (memQ (cQ ((cmF σ ((cI σ 0) / 4)).2) ((cP σ 0) (cI σ 0).toNatClampNeg))))]) rfl ?_
  refine lv_if_eq (tgt := 48) hx hb d_Pc_doOne_36 (by decide) (fun c36 => ?_) (fun c36 => ?_)
  · have c36 := b2i0 c36
    refine lv_aload_n hx hb d_Pc_doOne_48 rfl (lv_at hl 4 rfl) ?_
    refine cx_V (n := 0) (C := R_In) (As := []) (rest := []) ⟨hx, hb, hml, hown, fun _ h9 => nomatch h9⟩ (K_In_hasTarget g ((cmF σ ((cI σ 0) / 4)).2) (w.2.1 _ (vp_lt w.1))) (k_466 hT) (k_233 hT) (k_234 hT) (k_235 hT) (k_8 hT) rfl (by decide +kernel) (va_recv hK hP (ci := 3) (q0 := 19 + ((cP σ 0) (cI σ 0).toNatClampNeg)) rfl (cw_in (w.2.1 _ (vp_lt w.1)))) (hc.at g hS hP) ⟨by decide, by decide⟩ ⟨by decide, by decide⟩ hl.1 (Nat.le_of_ble_eq_true rfl) d_Pc_doOne_49 (fun _ h9 => h9) hS (fun _ _ _ _ _ _ _ h9 => h9.elim) (fun v t H locs ht9 hRt hz hk hS => ?_)
    obtain ⟨r, u, rfl, ⟨er, eu⟩, hP⟩ := hRt
    subst er
    rw [eu, ht9] at hP
    have hD : va_D (gA G) (cw G ((cmF σ ((cI σ 0) / 4)).2)) := g.d
    refine W.eq (g2 := F0 m 52 ls [.int (b2i (tgtQ (cQ ((cmF σ ((cI σ 0) / 4)).2) ((cP σ 0) (cI σ 0).toNatClampNeg))))]) rfl ?_
    refine lv_if_eq (tgt := 97) hx hb d_Pc_doOne_52 (by decide) (fun c52 => ?_) (fun c52 => ?_)
    · have c52 := b2i0 c52
      refine lv_aload_n hx hb d_Pc_doOne_97 rfl (lv_at hl 4 rfl) ?_
      refine va_get (D := gD G) (ci := 3) (v := .int (cQ ((cmF σ ((cI σ 0) / 4)).2) ((cP σ 0) (cI σ 0).toNatClampNeg) 0)) (C := R_In) (T := F_In) (N := 8) hx hb (wl_In hT) (fun _ h9 => h9) hown hK hP (19 + ((cP σ 0) (cI σ 0).toNatClampNeg)) (cw_in (w.2.1 _ (vp_lt w.1))) rfl 0 (by decide) (k_147 hT) (fun _ h9 => h9) rfl d_Pc_doOne_98 ?_
      refine lv_if_ne (tgt := 112) hx hb d_Pc_doOne_101 (by decide) (fun c101 => ?_) (fun c101 => ?_)
      · refine lv_aload_n hx hb d_Pc_doOne_112 rfl (lv_at hl 5 rfl) ?_
        refine lv_aload_n hx hb d_Pc_doOne_113 rfl (lv_at hl 4 rfl) ?_
        refine cx_V (n := 1) (C := R_Pc) (As := [.ref (gia G ((cP σ 0) (cI σ 0).toNatClampNeg))]) (rest := []) ⟨hx, hb, hml, hown, fun _ h9 => nomatch h9⟩ (K_Pc_compute g ((cmF σ ((cI σ 0) / 4)).2) (w.2.1 _ (vp_lt w.1)) hok (by rw [cmF_F]; exact w.2.2.2.2)) (k_479 hT) (k_481 hT) (ks_11 hT) (k_482 hT) (k_1 hT) rfl (by decide +kernel) (va_recv hK hP (ci := 6) (q0 := 0) rfl rfl) (hc.at g hS hP) ⟨by decide, by decide⟩ ⟨by decide, by decide⟩ hl.1 (Nat.le_of_ble_eq_true rfl) d_Pc_doOne_114 (fun _ h9 => h9) hS (fun E ce q t H1 locs ht9 hTx hz hk hS hce hcv hcl => ?_) (fun v t H locs ht9 hRt hz hk hS => ?_)
        · obtain ⟨u, hq, hP⟩ := hTx; rw [ht9] at hP; exact cx_out ht hlocks hce hcv hcl hS (fun t9 h9 _ => Tw.i (u := u) (⟨Or.inr ⟨hq.1, by simp [doF, doT, doQ, ix, hq.2.1, c36, c52, c101]⟩, by rw [hq.2.2]; simp [doF, doG, doQ, ix, hq.2.1, c36, c52, c101]⟩) (by rw [h9]; exact hP)) (by decide) (by decide)
        · obtain ⟨u, rfl, ⟨hcp114, eu⟩, hP⟩ := hRt
          rw [eu, ht9] at hP
          have hD : va_D (gA G) (cw G (cpF ((cmF σ ((cI σ 0) / 4)).2) (cQ ((cmF σ ((cI σ 0) / 4)).2) ((cP σ 0) (cI σ 0).toNatClampNeg)))) := g.d
          refine W.eq (g2 := F0 m 117 ls []) rfl ?_
          have eq9 : cQ (cpF ((cmF σ ((cI σ 0) / 4)).2) (cQ ((cmF σ ((cI σ 0) / 4)).2) ((cP σ 0) (cI σ 0).toNatClampNeg))) = cQ ((cmF σ ((cI σ 0) / 4)).2) := by first | rfl | simp only [dmF_Q, mvF_Q, gwF_Q, cpF_Q, cQ_sI]
          refine lv_aload_n hx hb d_Pc_doOne_117 rfl (lv_at hl 5 rfl) ?_
          refine va_get (D := gD G) (ci := 6) (v := .ref (gad G 5)) (C := R_Pc) (T := F_Pc) (N := 12) hx hb (wl_Pc hT) (fun _ h9 => h9) hown hK hP 0 rfl rfl 4 (by decide) (k_183 hT) (fun _ h9 => h9) rfl d_Pc_doOne_118 ?_
          refine lv_aload_n hx hb d_Pc_doOne_121 rfl (lv_at hl 4 rfl) ?_
          refine lv_iload_n hx hb d_Pc_doOne_122 rfl (lv_at hl 3 rfl) ?_
          refine lv_iload_n hx hb d_Pc_doOne_123 rfl (lv_at hl 2 rfl) ?_
          refine lv_iload hx hb d_Pc_doOne_124 (lv_at hl 0 rfl) ?_
          refine cx_V (n := 4) (C := R_Ck) (As := [.ref (gia G ((cP σ 0) (cI σ 0).toNatClampNeg)), .int (b2i (cmF σ ((cI σ 0) / 4)).1), .int 0, .int 0]) (rest := []) ⟨hx, hb, hml, hown, fun _ h9 => nomatch h9⟩ (K_Ck_begin g (cpF ((cmF σ ((cI σ 0) / 4)).2) (cQ ((cmF σ ((cI σ 0) / 4)).2) ((cP σ 0) (cI σ 0).toNatClampNeg))) (w.2.1 _ (vp_lt w.1)) (by rw [eq9]; exact hok) ((cmF σ ((cI σ 0) / 4)).1) false false) (k_516 hT) (k_517 hT) (k_518 hT) (k_519 hT) (k_2 hT) rfl (by decide +kernel) (va_recv hK hP (ci := 0) (q0 := 5) rfl rfl) (hc.at g hS hP) ⟨by decide, by decide⟩ ⟨by decide, by decide⟩ hl.1 (Nat.le_of_ble_eq_true rfl) d_Pc_doOne_126 (fun _ h9 => h9) hS (fun _ _ _ _ _ _ _ h9 => h9.elim) (fun v t H locs ht9 hRt hz hk hS => ?_)
          obtain ⟨u, rfl, eu, hP⟩ := hRt
          rw [eu, ht9] at hP
          rw [eq9] at hP
          have hD : va_D (gA G) (cw G (beF (cpF ((cmF σ ((cI σ 0) / 4)).2) (cQ ((cmF σ ((cI σ 0) / 4)).2) ((cP σ 0) (cI σ 0).toNatClampNeg))) (cQ ((cmF σ ((cI σ 0) / 4)).2) ((cP σ 0) (cI σ 0).toNatClampNeg)) ((cmF σ ((cI σ 0) / 4)).1) false false)) := g.d
          refine W.eq (g2 := F0 m 129 ls []) rfl ?_
          refine lv_aload_n hx hb d_Pc_doOne_129 rfl (lv_at hl 5 rfl) ?_
          refine lv_dup hx hb d_Pc_doOne_130 rfl ?_
          refine va_get (D := gD G) (ci := 6) (v := .int (cI (beF (cpF ((cmF σ ((cI σ 0) / 4)).2) (cQ ((cmF σ ((cI σ 0) / 4)).2) ((cP σ 0) (cI σ 0).toNatClampNeg))) (cQ ((cmF σ ((cI σ 0) / 4)).2) ((cP σ 0) (cI σ 0).toNatClampNeg)) ((cmF σ ((cI σ 0) / 4)).1) false false) 2)) (C := R_Pc) (T := F_Pc) (N := 12) hx hb (wl_Pc hT) (fun _ h9 => h9) hown hK hP 0 rfl rfl 11 (by decide) (k_190 hT) (fun _ h9 => h9) rfl d_Pc_doOne_131 ?_
          refine lv_iconst (v := 1) hx hb d_Pc_doOne_134 (by decide) ?_
          refine lv_iadd hx hb d_Pc_doOne_135 ?_
          refine va_put (D := gD G) (ci := 6) (v := .int ((cI (beF (cpF ((cmF σ ((cI σ 0) / 4)).2) (cQ ((cmF σ ((cI σ 0) / 4)).2) ((cP σ 0) (cI σ 0).toNatClampNeg))) (cQ ((cmF σ ((cI σ 0) / 4)).2) ((cP σ 0) (cI σ 0).toNatClampNeg)) ((cmF σ ((cI σ 0) / 4)).1) false false) 2) + 1)) (ty := .int) (C := R_Pc) (T := F_Pc) (N := 12) hx hb (wl_Pc hT) (fun _ h9 => h9) fy_Pc fy_Pc_ok fn_Pc hown hK hP hD hS 0 rfl rfl 11 (by decide) (k_190 hT) (fun _ h9 => h9) rfl (by decide +kernel) rfl rfl (Nat.le_of_ble_eq_true rfl) d_Pc_doOne_136 (fun H locs hP hD hS => ?_)
          have hP : va_P (gD G) classes (cw G (sI (beF (cpF ((cmF σ ((cI σ 0) / 4)).2) (cQ ((cmF σ ((cI σ 0) / 4)).2) ((cP σ 0) (cI σ 0).toNatClampNeg))) (cQ ((cmF σ ((cI σ 0) / 4)).2) ((cP σ 0) (cI σ 0).toNatClampNeg)) ((cmF σ ((cI σ 0) / 4)).1) false false) 2 ((cI (beF (cpF ((cmF σ ((cI σ 0) / 4)).2) (cQ ((cmF σ ((cI σ 0) / 4)).2) ((cP σ 0) (cI σ 0).toNatClampNeg))) (cQ ((cmF σ ((cI σ 0) / 4)).2) ((cP σ 0) (cI σ 0).toNatClampNeg)) ((cmF σ ((cI σ 0) / 4)).1) false false) 2) + 1))) H := hP
          have hD : va_D (gA G) (cw G (sI (beF (cpF ((cmF σ ((cI σ 0) / 4)).2) (cQ ((cmF σ ((cI σ 0) / 4)).2) ((cP σ 0) (cI σ 0).toNatClampNeg))) (cQ ((cmF σ ((cI σ 0) / 4)).2) ((cP σ 0) (cI σ 0).toNatClampNeg)) ((cmF σ ((cI σ 0) / 4)).1) false false) 2 ((cI (beF (cpF ((cmF σ ((cI σ 0) / 4)).2) (cQ ((cmF σ ((cI σ 0) / 4)).2) ((cP σ 0) (cI σ 0).toNatClampNeg))) (cQ ((cmF σ ((cI σ 0) / 4)).2) ((cP σ 0) (cI σ 0).toNatClampNeg)) ((cmF σ ((cI σ 0) / 4)).1) false false) 2) + 1))) := g.d
          refine lv_aload_n hx hb d_Pc_doOne_139 rfl (lv_at hl 5 rfl) ?_
          refine va_get (D := gD G) (ci := 6) (v := .int (cI (beF (cpF ((cmF σ ((cI σ 0) / 4)).2) (cQ ((cmF σ ((cI σ 0) / 4)).2) ((cP σ 0) (cI σ 0).toNatClampNeg))) (cQ ((cmF σ ((cI σ 0) / 4)).2) ((cP σ 0) (cI σ 0).toNatClampNeg)) ((cmF σ ((cI σ 0) / 4)).1) false false) 1)) (C := R_Pc) (T := F_Pc) (N := 12) hx hb (wl_Pc hT) (fun _ h9 => h9) hown hK hP 0 rfl rfl 10 (by decide) (k_189 hT) (fun _ h9 => h9) rfl d_Pc_doOne_140 ?_
          refine lv_if_ne (tgt := 171) hx hb d_Pc_doOne_143 (by decide) (fun c143 => ?_) (fun c143 => ?_)
          · exact end_v (u := (sI (beF (cpF ((cmF σ ((cI σ 0) / 4)).2) (cQ ((cmF σ ((cI σ 0) / 4)).2) ((cP σ 0) (cI σ 0).toNatClampNeg))) (cQ ((cmF σ ((cI σ 0) / 4)).2) ((cP σ 0) (cI σ 0).toNatClampNeg)) ((cmF σ ((cI σ 0) / 4)).1) false false) 2 ((cI (beF (cpF ((cmF σ ((cI σ 0) / 4)).2) (cQ ((cmF σ ((cI σ 0) / 4)).2) ((cP σ 0) (cI σ 0).toNatClampNeg))) (cQ ((cmF σ ((cI σ 0) / 4)).2) ((cP σ 0) (cI σ 0).toNatClampNeg)) ((cmF σ ((cI σ 0) / 4)).1) false false) 2) + 1))) hx hb hr hlocks hS hP d_Pc_doOne_171 (⟨by simp [doF, doT, doG, doQ, dnF, ix, c36, c52, c101, c143, hcp114], by simp [doF, doT, doG, doQ, dnF, ix, c36, c52, c101, c143, hcp114]⟩)
          · refine lv_aload_n hx hb d_Pc_doOne_146 rfl (lv_at hl 5 rfl) ?_
            refine lv_iload hx hb d_Pc_doOne_147 (lv_at hl 1 rfl) ?_
            refine lv_if_eq (tgt := 159) hx hb d_Pc_doOne_149 (by decide) (fun c149 => ?_) (fun c149 => ?_)
            · refine lv_aload_n hx hb d_Pc_doOne_159 rfl (lv_at hl 5 rfl) ?_
              refine va_get (D := gD G) (ci := 6) (v := .int (cI (beF (cpF ((cmF σ ((cI σ 0) / 4)).2) (cQ ((cmF σ ((cI σ 0) / 4)).2) ((cP σ 0) (cI σ 0).toNatClampNeg))) (cQ ((cmF σ ((cI σ 0) / 4)).2) ((cP σ 0) (cI σ 0).toNatClampNeg)) ((cmF σ ((cI σ 0) / 4)).1) false false) 0)) (C := R_Pc) (T := F_Pc) (N := 12) hx hb (wl_Pc hT) (fun _ h9 => h9) hown hK hP 0 rfl rfl 9 (by decide) (k_188 hT) (fun _ h9 => h9) rfl d_Pc_doOne_160 ?_
              refine lv_iconst (v := 1) hx hb d_Pc_doOne_163 (by decide) ?_
              refine lv_iadd hx hb d_Pc_doOne_164 ?_
              refine lv_bipush (v := 24) hx hb d_Pc_doOne_165 (by decide) ?_
              refine lv_irem hx hb d_Pc_doOne_167 (by decide) ?_
              refine va_put (D := gD G) (ci := 6) (v := .int (((cI (beF (cpF ((cmF σ ((cI σ 0) / 4)).2) (cQ ((cmF σ ((cI σ 0) / 4)).2) ((cP σ 0) (cI σ 0).toNatClampNeg))) (cQ ((cmF σ ((cI σ 0) / 4)).2) ((cP σ 0) (cI σ 0).toNatClampNeg)) ((cmF σ ((cI σ 0) / 4)).1) false false) 0) + 1) - ((cI (beF (cpF ((cmF σ ((cI σ 0) / 4)).2) (cQ ((cmF σ ((cI σ 0) / 4)).2) ((cP σ 0) (cI σ 0).toNatClampNeg))) (cQ ((cmF σ ((cI σ 0) / 4)).2) ((cP σ 0) (cI σ 0).toNatClampNeg)) ((cmF σ ((cI σ 0) / 4)).1) false false) 0) + 1) / 24 * 24)) (ty := .int) (C := R_Pc) (T := F_Pc) (N := 12) hx hb (wl_Pc hT) (fun _ h9 => h9) fy_Pc fy_Pc_ok fn_Pc hown hK hP hD hS 0 rfl rfl 9 (by decide) (k_188 hT) (fun _ h9 => h9) rfl (by decide +kernel) rfl rfl (Nat.le_of_ble_eq_true rfl) d_Pc_doOne_168 (fun H locs hP hD hS => ?_)
              have hP : va_P (gD G) classes (cw G (sI (sI (beF (cpF ((cmF σ ((cI σ 0) / 4)).2) (cQ ((cmF σ ((cI σ 0) / 4)).2) ((cP σ 0) (cI σ 0).toNatClampNeg))) (cQ ((cmF σ ((cI σ 0) / 4)).2) ((cP σ 0) (cI σ 0).toNatClampNeg)) ((cmF σ ((cI σ 0) / 4)).1) false false) 2 ((cI (beF (cpF ((cmF σ ((cI σ 0) / 4)).2) (cQ ((cmF σ ((cI σ 0) / 4)).2) ((cP σ 0) (cI σ 0).toNatClampNeg))) (cQ ((cmF σ ((cI σ 0) / 4)).2) ((cP σ 0) (cI σ 0).toNatClampNeg)) ((cmF σ ((cI σ 0) / 4)).1) false false) 2) + 1)) 0 (((cI (beF (cpF ((cmF σ ((cI σ 0) / 4)).2) (cQ ((cmF σ ((cI σ 0) / 4)).2) ((cP σ 0) (cI σ 0).toNatClampNeg))) (cQ ((cmF σ ((cI σ 0) / 4)).2) ((cP σ 0) (cI σ 0).toNatClampNeg)) ((cmF σ ((cI σ 0) / 4)).1) false false) 0) + 1) - ((cI (beF (cpF ((cmF σ ((cI σ 0) / 4)).2) (cQ ((cmF σ ((cI σ 0) / 4)).2) ((cP σ 0) (cI σ 0).toNatClampNeg))) (cQ ((cmF σ ((cI σ 0) / 4)).2) ((cP σ 0) (cI σ 0).toNatClampNeg)) ((cmF σ ((cI σ 0) / 4)).1) false false) 0) + 1) / 24 * 24))) H := hP
              have hD : va_D (gA G) (cw G (sI (sI (beF (cpF ((cmF σ ((cI σ 0) / 4)).2) (cQ ((cmF σ ((cI σ 0) / 4)).2) ((cP σ 0) (cI σ 0).toNatClampNeg))) (cQ ((cmF σ ((cI σ 0) / 4)).2) ((cP σ 0) (cI σ 0).toNatClampNeg)) ((cmF σ ((cI σ 0) / 4)).1) false false) 2 ((cI (beF (cpF ((cmF σ ((cI σ 0) / 4)).2) (cQ ((cmF σ ((cI σ 0) / 4)).2) ((cP σ 0) (cI σ 0).toNatClampNeg))) (cQ ((cmF σ ((cI σ 0) / 4)).2) ((cP σ 0) (cI σ 0).toNatClampNeg)) ((cmF σ ((cI σ 0) / 4)).1) false false) 2) + 1)) 0 (((cI (beF (cpF ((cmF σ ((cI σ 0) / 4)).2) (cQ ((cmF σ ((cI σ 0) / 4)).2) ((cP σ 0) (cI σ 0).toNatClampNeg))) (cQ ((cmF σ ((cI σ 0) / 4)).2) ((cP σ 0) (cI σ 0).toNatClampNeg)) ((cmF σ ((cI σ 0) / 4)).1) false false) 0) + 1) - ((cI (beF (cpF ((cmF σ ((cI σ 0) / 4)).2) (cQ ((cmF σ ((cI σ 0) / 4)).2) ((cP σ 0) (cI σ 0).toNatClampNeg))) (cQ ((cmF σ ((cI σ 0) / 4)).2) ((cP σ 0) (cI σ 0).toNatClampNeg)) ((cmF σ ((cI σ 0) / 4)).1) false false) 0) + 1) / 24 * 24))) := g.d
              exact end_v (u := (sI (sI (beF (cpF ((cmF σ ((cI σ 0) / 4)).2) (cQ ((cmF σ ((cI σ 0) / 4)).2) ((cP σ 0) (cI σ 0).toNatClampNeg))) (cQ ((cmF σ ((cI σ 0) / 4)).2) ((cP σ 0) (cI σ 0).toNatClampNeg)) ((cmF σ ((cI σ 0) / 4)).1) false false) 2 ((cI (beF (cpF ((cmF σ ((cI σ 0) / 4)).2) (cQ ((cmF σ ((cI σ 0) / 4)).2) ((cP σ 0) (cI σ 0).toNatClampNeg))) (cQ ((cmF σ ((cI σ 0) / 4)).2) ((cP σ 0) (cI σ 0).toNatClampNeg)) ((cmF σ ((cI σ 0) / 4)).1) false false) 2) + 1)) 0 (((cI (beF (cpF ((cmF σ ((cI σ 0) / 4)).2) (cQ ((cmF σ ((cI σ 0) / 4)).2) ((cP σ 0) (cI σ 0).toNatClampNeg))) (cQ ((cmF σ ((cI σ 0) / 4)).2) ((cP σ 0) (cI σ 0).toNatClampNeg)) ((cmF σ ((cI σ 0) / 4)).1) false false) 0) + 1) - ((cI (beF (cpF ((cmF σ ((cI σ 0) / 4)).2) (cQ ((cmF σ ((cI σ 0) / 4)).2) ((cP σ 0) (cI σ 0).toNatClampNeg))) (cQ ((cmF σ ((cI σ 0) / 4)).2) ((cP σ 0) (cI σ 0).toNatClampNeg)) ((cmF σ ((cI σ 0) / 4)).1) false false) 0) + 1) / 24 * 24))) hx hb hr hlocks hS hP d_Pc_doOne_171 (⟨by simp [doF, doT, doG, doQ, dnF, ix, c36, c52, c101, c143, hcp114], by simp [doF, doT, doG, doQ, dnF, ix, c36, c52, c101, c143, hcp114]⟩)
            · exact absurd rfl c149
      · refine lv_aload_n hx hb d_Pc_doOne_104 rfl (lv_at hl 5 rfl) ?_
        refine lv_iconst (v := 1) hx hb d_Pc_doOne_105 (by decide) ?_
        refine va_put (D := gD G) (ci := 6) (v := .int 1) (ty := .boolean) (C := R_Pc) (T := F_Pc) (N := 12) hx hb (wl_Pc hT) (fun _ h9 => h9) fy_Pc fy_Pc_ok fn_Pc hown hK hP hD hS 0 rfl rfl 10 (by decide) (k_189 hT) (fun _ h9 => h9) rfl (by decide +kernel) rfl rfl (Nat.le_of_ble_eq_true rfl) d_Pc_doOne_106 (fun H locs hP hD hS => ?_)
        have hP : va_P (gD G) classes (cw G (sI ((cmF σ ((cI σ 0) / 4)).2) 1 1)) H := hP
        have hD : va_D (gA G) (cw G (sI ((cmF σ ((cI σ 0) / 4)).2) 1 1)) := g.d
        refine lv_goto (tgt := 117) hx hb d_Pc_doOne_109 (by decide) ?_
        have eq9 : cQ (sI ((cmF σ ((cI σ 0) / 4)).2) 1 1) = cQ ((cmF σ ((cI σ 0) / 4)).2) := by first | rfl | simp only [dmF_Q, mvF_Q, gwF_Q, cpF_Q, cQ_sI]
        refine lv_aload_n hx hb d_Pc_doOne_117 rfl (lv_at hl 5 rfl) ?_
        refine va_get (D := gD G) (ci := 6) (v := .ref (gad G 5)) (C := R_Pc) (T := F_Pc) (N := 12) hx hb (wl_Pc hT) (fun _ h9 => h9) hown hK hP 0 rfl rfl 4 (by decide) (k_183 hT) (fun _ h9 => h9) rfl d_Pc_doOne_118 ?_
        refine lv_aload_n hx hb d_Pc_doOne_121 rfl (lv_at hl 4 rfl) ?_
        refine lv_iload_n hx hb d_Pc_doOne_122 rfl (lv_at hl 3 rfl) ?_
        refine lv_iload_n hx hb d_Pc_doOne_123 rfl (lv_at hl 2 rfl) ?_
        refine lv_iload hx hb d_Pc_doOne_124 (lv_at hl 0 rfl) ?_
        refine cx_V (n := 4) (C := R_Ck) (As := [.ref (gia G ((cP σ 0) (cI σ 0).toNatClampNeg)), .int (b2i (cmF σ ((cI σ 0) / 4)).1), .int 0, .int 0]) (rest := []) ⟨hx, hb, hml, hown, fun _ h9 => nomatch h9⟩ (K_Ck_begin g (sI ((cmF σ ((cI σ 0) / 4)).2) 1 1) (w.2.1 _ (vp_lt w.1)) (by rw [eq9]; exact hok) ((cmF σ ((cI σ 0) / 4)).1) false false) (k_516 hT) (k_517 hT) (k_518 hT) (k_519 hT) (k_2 hT) rfl (by decide +kernel) (va_recv hK hP (ci := 0) (q0 := 5) rfl rfl) (hc.at g hS hP) ⟨by decide, by decide⟩ ⟨by decide, by decide⟩ hl.1 (Nat.le_of_ble_eq_true rfl) d_Pc_doOne_126 (fun _ h9 => h9) hS (fun _ _ _ _ _ _ _ h9 => h9.elim) (fun v t H locs ht9 hRt hz hk hS => ?_)
        obtain ⟨u, rfl, eu, hP⟩ := hRt
        rw [eu, ht9] at hP
        rw [eq9] at hP
        have hD : va_D (gA G) (cw G (beF (sI ((cmF σ ((cI σ 0) / 4)).2) 1 1) (cQ ((cmF σ ((cI σ 0) / 4)).2) ((cP σ 0) (cI σ 0).toNatClampNeg)) ((cmF σ ((cI σ 0) / 4)).1) false false)) := g.d
        refine W.eq (g2 := F0 m 129 ls []) rfl ?_
        refine lv_aload_n hx hb d_Pc_doOne_129 rfl (lv_at hl 5 rfl) ?_
        refine lv_dup hx hb d_Pc_doOne_130 rfl ?_
        refine va_get (D := gD G) (ci := 6) (v := .int (cI (beF (sI ((cmF σ ((cI σ 0) / 4)).2) 1 1) (cQ ((cmF σ ((cI σ 0) / 4)).2) ((cP σ 0) (cI σ 0).toNatClampNeg)) ((cmF σ ((cI σ 0) / 4)).1) false false) 2)) (C := R_Pc) (T := F_Pc) (N := 12) hx hb (wl_Pc hT) (fun _ h9 => h9) hown hK hP 0 rfl rfl 11 (by decide) (k_190 hT) (fun _ h9 => h9) rfl d_Pc_doOne_131 ?_
        refine lv_iconst (v := 1) hx hb d_Pc_doOne_134 (by decide) ?_
        refine lv_iadd hx hb d_Pc_doOne_135 ?_
        refine va_put (D := gD G) (ci := 6) (v := .int ((cI (beF (sI ((cmF σ ((cI σ 0) / 4)).2) 1 1) (cQ ((cmF σ ((cI σ 0) / 4)).2) ((cP σ 0) (cI σ 0).toNatClampNeg)) ((cmF σ ((cI σ 0) / 4)).1) false false) 2) + 1)) (ty := .int) (C := R_Pc) (T := F_Pc) (N := 12) hx hb (wl_Pc hT) (fun _ h9 => h9) fy_Pc fy_Pc_ok fn_Pc hown hK hP hD hS 0 rfl rfl 11 (by decide) (k_190 hT) (fun _ h9 => h9) rfl (by decide +kernel) rfl rfl (Nat.le_of_ble_eq_true rfl) d_Pc_doOne_136 (fun H locs hP hD hS => ?_)
        have hP : va_P (gD G) classes (cw G (sI (beF (sI ((cmF σ ((cI σ 0) / 4)).2) 1 1) (cQ ((cmF σ ((cI σ 0) / 4)).2) ((cP σ 0) (cI σ 0).toNatClampNeg)) ((cmF σ ((cI σ 0) / 4)).1) false false) 2 ((cI (beF (sI ((cmF σ ((cI σ 0) / 4)).2) 1 1) (cQ ((cmF σ ((cI σ 0) / 4)).2) ((cP σ 0) (cI σ 0).toNatClampNeg)) ((cmF σ ((cI σ 0) / 4)).1) false false) 2) + 1))) H := hP
        have hD : va_D (gA G) (cw G (sI (beF (sI ((cmF σ ((cI σ 0) / 4)).2) 1 1) (cQ ((cmF σ ((cI σ 0) / 4)).2) ((cP σ 0) (cI σ 0).toNatClampNeg)) ((cmF σ ((cI σ 0) / 4)).1) false false) 2 ((cI (beF (sI ((cmF σ ((cI σ 0) / 4)).2) 1 1) (cQ ((cmF σ ((cI σ 0) / 4)).2) ((cP σ 0) (cI σ 0).toNatClampNeg)) ((cmF σ ((cI σ 0) / 4)).1) false false) 2) + 1))) := g.d
        refine lv_aload_n hx hb d_Pc_doOne_139 rfl (lv_at hl 5 rfl) ?_
        refine va_get (D := gD G) (ci := 6) (v := .int (cI (beF (sI ((cmF σ ((cI σ 0) / 4)).2) 1 1) (cQ ((cmF σ ((cI σ 0) / 4)).2) ((cP σ 0) (cI σ 0).toNatClampNeg)) ((cmF σ ((cI σ 0) / 4)).1) false false) 1)) (C := R_Pc) (T := F_Pc) (N := 12) hx hb (wl_Pc hT) (fun _ h9 => h9) hown hK hP 0 rfl rfl 10 (by decide) (k_189 hT) (fun _ h9 => h9) rfl d_Pc_doOne_140 ?_
        refine lv_if_ne (tgt := 171) hx hb d_Pc_doOne_143 (by decide) (fun c143 => ?_) (fun c143 => ?_)
        · exact end_v (u := (sI (beF (sI ((cmF σ ((cI σ 0) / 4)).2) 1 1) (cQ ((cmF σ ((cI σ 0) / 4)).2) ((cP σ 0) (cI σ 0).toNatClampNeg)) ((cmF σ ((cI σ 0) / 4)).1) false false) 2 ((cI (beF (sI ((cmF σ ((cI σ 0) / 4)).2) 1 1) (cQ ((cmF σ ((cI σ 0) / 4)).2) ((cP σ 0) (cI σ 0).toNatClampNeg)) ((cmF σ ((cI σ 0) / 4)).1) false false) 2) + 1))) hx hb hr hlocks hS hP d_Pc_doOne_171 (⟨by simp [doF, doT, doG, doQ, dnF, ix, c36, c52, c101, c143], by simp [doF, doT, doG, doQ, dnF, ix, c36, c52, c101, c143]⟩)
        · refine lv_aload_n hx hb d_Pc_doOne_146 rfl (lv_at hl 5 rfl) ?_
          refine lv_iload hx hb d_Pc_doOne_147 (lv_at hl 1 rfl) ?_
          refine lv_if_eq (tgt := 159) hx hb d_Pc_doOne_149 (by decide) (fun c149 => ?_) (fun c149 => ?_)
          · refine lv_aload_n hx hb d_Pc_doOne_159 rfl (lv_at hl 5 rfl) ?_
            refine va_get (D := gD G) (ci := 6) (v := .int (cI (beF (sI ((cmF σ ((cI σ 0) / 4)).2) 1 1) (cQ ((cmF σ ((cI σ 0) / 4)).2) ((cP σ 0) (cI σ 0).toNatClampNeg)) ((cmF σ ((cI σ 0) / 4)).1) false false) 0)) (C := R_Pc) (T := F_Pc) (N := 12) hx hb (wl_Pc hT) (fun _ h9 => h9) hown hK hP 0 rfl rfl 9 (by decide) (k_188 hT) (fun _ h9 => h9) rfl d_Pc_doOne_160 ?_
            refine lv_iconst (v := 1) hx hb d_Pc_doOne_163 (by decide) ?_
            refine lv_iadd hx hb d_Pc_doOne_164 ?_
            refine lv_bipush (v := 24) hx hb d_Pc_doOne_165 (by decide) ?_
            refine lv_irem hx hb d_Pc_doOne_167 (by decide) ?_
            refine va_put (D := gD G) (ci := 6) (v := .int (((cI (beF (sI ((cmF σ ((cI σ 0) / 4)).2) 1 1) (cQ ((cmF σ ((cI σ 0) / 4)).2) ((cP σ 0) (cI σ 0).toNatClampNeg)) ((cmF σ ((cI σ 0) / 4)).1) false false) 0) + 1) - ((cI (beF (sI ((cmF σ ((cI σ 0) / 4)).2) 1 1) (cQ ((cmF σ ((cI σ 0) / 4)).2) ((cP σ 0) (cI σ 0).toNatClampNeg)) ((cmF σ ((cI σ 0) / 4)).1) false false) 0) + 1) / 24 * 24)) (ty := .int) (C := R_Pc) (T := F_Pc) (N := 12) hx hb (wl_Pc hT) (fun _ h9 => h9) fy_Pc fy_Pc_ok fn_Pc hown hK hP hD hS 0 rfl rfl 9 (by decide) (k_188 hT) (fun _ h9 => h9) rfl (by decide +kernel) rfl rfl (Nat.le_of_ble_eq_true rfl) d_Pc_doOne_168 (fun H locs hP hD hS => ?_)
            have hP : va_P (gD G) classes (cw G (sI (sI (beF (sI ((cmF σ ((cI σ 0) / 4)).2) 1 1) (cQ ((cmF σ ((cI σ 0) / 4)).2) ((cP σ 0) (cI σ 0).toNatClampNeg)) ((cmF σ ((cI σ 0) / 4)).1) false false) 2 ((cI (beF (sI ((cmF σ ((cI σ 0) / 4)).2) 1 1) (cQ ((cmF σ ((cI σ 0) / 4)).2) ((cP σ 0) (cI σ 0).toNatClampNeg)) ((cmF σ ((cI σ 0) / 4)).1) false false) 2) + 1)) 0 (((cI (beF (sI ((cmF σ ((cI σ 0) / 4)).2) 1 1) (cQ ((cmF σ ((cI σ 0) / 4)).2) ((cP σ 0) (cI σ 0).toNatClampNeg)) ((cmF σ ((cI σ 0) / 4)).1) false false) 0) + 1) - ((cI (beF (sI ((cmF σ ((cI σ 0) / 4)).2) 1 1) (cQ ((cmF σ ((cI σ 0) / 4)).2) ((cP σ 0) (cI σ 0).toNatClampNeg)) ((cmF σ ((cI σ 0) / 4)).1) false false) 0) + 1) / 24 * 24))) H := hP
            have hD : va_D (gA G) (cw G (sI (sI (beF (sI ((cmF σ ((cI σ 0) / 4)).2) 1 1) (cQ ((cmF σ ((cI σ 0) / 4)).2) ((cP σ 0) (cI σ 0).toNatClampNeg)) ((cmF σ ((cI σ 0) / 4)).1) false false) 2 ((cI (beF (sI ((cmF σ ((cI σ 0) / 4)).2) 1 1) (cQ ((cmF σ ((cI σ 0) / 4)).2) ((cP σ 0) (cI σ 0).toNatClampNeg)) ((cmF σ ((cI σ 0) / 4)).1) false false) 2) + 1)) 0 (((cI (beF (sI ((cmF σ ((cI σ 0) / 4)).2) 1 1) (cQ ((cmF σ ((cI σ 0) / 4)).2) ((cP σ 0) (cI σ 0).toNatClampNeg)) ((cmF σ ((cI σ 0) / 4)).1) false false) 0) + 1) - ((cI (beF (sI ((cmF σ ((cI σ 0) / 4)).2) 1 1) (cQ ((cmF σ ((cI σ 0) / 4)).2) ((cP σ 0) (cI σ 0).toNatClampNeg)) ((cmF σ ((cI σ 0) / 4)).1) false false) 0) + 1) / 24 * 24))) := g.d
            exact end_v (u := (sI (sI (beF (sI ((cmF σ ((cI σ 0) / 4)).2) 1 1) (cQ ((cmF σ ((cI σ 0) / 4)).2) ((cP σ 0) (cI σ 0).toNatClampNeg)) ((cmF σ ((cI σ 0) / 4)).1) false false) 2 ((cI (beF (sI ((cmF σ ((cI σ 0) / 4)).2) 1 1) (cQ ((cmF σ ((cI σ 0) / 4)).2) ((cP σ 0) (cI σ 0).toNatClampNeg)) ((cmF σ ((cI σ 0) / 4)).1) false false) 2) + 1)) 0 (((cI (beF (sI ((cmF σ ((cI σ 0) / 4)).2) 1 1) (cQ ((cmF σ ((cI σ 0) / 4)).2) ((cP σ 0) (cI σ 0).toNatClampNeg)) ((cmF σ ((cI σ 0) / 4)).1) false false) 0) + 1) - ((cI (beF (sI ((cmF σ ((cI σ 0) / 4)).2) 1 1) (cQ ((cmF σ ((cI σ 0) / 4)).2) ((cP σ 0) (cI σ 0).toNatClampNeg)) ((cmF σ ((cI σ 0) / 4)).1) false false) 0) + 1) / 24 * 24))) hx hb hr hlocks hS hP d_Pc_doOne_171 (⟨by simp [doF, doT, doG, doQ, dnF, ix, c36, c52, c101, c143], by simp [doF, doT, doG, doQ, dnF, ix, c36, c52, c101, c143]⟩)
          · exact absurd rfl c149
    · have c52 := b2i1 c52
      refine lv_aload_n hx hb d_Pc_doOne_55 rfl (lv_at hl 5 rfl) ?_
      refine lv_aload_n hx hb d_Pc_doOne_56 rfl (lv_at hl 4 rfl) ?_
      refine cx_V (n := 1) (C := R_Pc) (As := [.ref (gia G ((cP σ 0) (cI σ 0).toNatClampNeg))]) (rest := []) ⟨hx, hb, hml, hown, fun _ h9 => nomatch h9⟩ (K_Pc_jumpIsDue g ((cmF σ ((cI σ 0) / 4)).2) (w.2.1 _ (vp_lt w.1)) hok) (k_467 hT) (k_469 hT) (ks_10 hT) (k_470 hT) (k_1 hT) rfl (by decide +kernel) (va_recv hK hP (ci := 6) (q0 := 0) rfl rfl) (hc.at g hS hP) ⟨by decide, by decide⟩ ⟨by decide, by decide⟩ hl.1 (Nat.le_of_ble_eq_true rfl) d_Pc_doOne_57 (fun _ h9 => h9) hS (fun _ _ _ _ _ _ _ h9 => h9.elim) (fun v t H locs ht9 hRt hz hk hS => ?_)
      obtain ⟨r, u, rfl, ⟨er, eu⟩, hP⟩ := hRt
      subst er
      rw [eu, ht9] at hP
      have hD : va_D (gA G) (cw G ((cmF σ ((cI σ 0) / 4)).2)) := g.d
      refine W.eq (g2 := F0 m 60 ls [.int (b2i (jdF ((cmF σ ((cI σ 0) / 4)).2) (cQ ((cmF σ ((cI σ 0) / 4)).2) ((cP σ 0) (cI σ 0).toNatClampNeg))))]) rfl ?_
      refine lv_istore (lv' := [(4, .int (b2i (jdF ((cmF σ ((cI σ 0) / 4)).2) (cQ ((cmF σ ((cI σ 0) / 4)).2) ((cP σ 0) (cI σ 0).toNatClampNeg))))), (5, .int 0), (3, .int 0), (2, .int (b2i (cmF σ ((cI σ 0) / 4)).1)), (1, .ref (gia G ((cP σ 0) (cI σ 0).toNatClampNeg))), (0, .ref (gad G 0))]) hx hb d_Pc_doOne_60 hl (by decide) rfl (fun ls hl => ?_)
      refine lv_aload_n hx hb d_Pc_doOne_62 rfl (lv_at hl 4 rfl) ?_
      refine va_get (D := gD G) (ci := 3) (v := .int (cQ ((cmF σ ((cI σ 0) / 4)).2) ((cP σ 0) (cI σ 0).toNatClampNeg) 0)) (C := R_In) (T := F_In) (N := 8) hx hb (wl_In hT) (fun _ h9 => h9) hown hK hP (19 + ((cP σ 0) (cI σ 0).toNatClampNeg)) (cw_in (w.2.1 _ (vp_lt w.1))) rfl 0 (by decide) (k_147 hT) (fun _ h9 => h9) rfl d_Pc_doOne_63 ?_
      refine lv_bipush (v := 19) hx hb d_Pc_doOne_66 (by decide) ?_
      refine lv_icmp_eq (tgt := 91) hx hb d_Pc_doOne_68 (by decide) (fun c68 => ?_) (fun c68 => ?_)
      · refine lv_iconst (v := 0) hx hb d_Pc_doOne_91 (by decide) ?_
        refine lv_istore (lv' := [(5, .int 0), (4, .int (b2i (jdF ((cmF σ ((cI σ 0) / 4)).2) (cQ ((cmF σ ((cI σ 0) / 4)).2) ((cP σ 0) (cI σ 0).toNatClampNeg))))), (3, .int 0), (2, .int (b2i (cmF σ ((cI σ 0) / 4)).1)), (1, .ref (gia G ((cP σ 0) (cI σ 0).toNatClampNeg))), (0, .ref (gad G 0))]) hx hb d_Pc_doOne_92 hl (by decide) rfl (fun ls hl => ?_)
        refine lv_goto (tgt := 117) hx hb d_Pc_doOne_94 (by decide) ?_
        have eq9 : cQ ((cmF σ ((cI σ 0) / 4)).2) = cQ ((cmF σ ((cI σ 0) / 4)).2) := by first | rfl | simp only [dmF_Q, mvF_Q, gwF_Q, cpF_Q, cQ_sI]
        refine lv_aload_n hx hb d_Pc_doOne_117 rfl (lv_at hl 5 rfl) ?_
        refine va_get (D := gD G) (ci := 6) (v := .ref (gad G 5)) (C := R_Pc) (T := F_Pc) (N := 12) hx hb (wl_Pc hT) (fun _ h9 => h9) hown hK hP 0 rfl rfl 4 (by decide) (k_183 hT) (fun _ h9 => h9) rfl d_Pc_doOne_118 ?_
        refine lv_aload_n hx hb d_Pc_doOne_121 rfl (lv_at hl 4 rfl) ?_
        refine lv_iload_n hx hb d_Pc_doOne_122 rfl (lv_at hl 3 rfl) ?_
        refine lv_iload_n hx hb d_Pc_doOne_123 rfl (lv_at hl 2 rfl) ?_
        refine lv_iload hx hb d_Pc_doOne_124 (lv_at hl 0 rfl) ?_
        refine cx_V (n := 4) (C := R_Ck) (As := [.ref (gia G ((cP σ 0) (cI σ 0).toNatClampNeg)), .int (b2i (cmF σ ((cI σ 0) / 4)).1), .int 0, .int 0]) (rest := []) ⟨hx, hb, hml, hown, fun _ h9 => nomatch h9⟩ (K_Ck_begin g ((cmF σ ((cI σ 0) / 4)).2) (w.2.1 _ (vp_lt w.1)) (by rw [eq9]; exact hok) ((cmF σ ((cI σ 0) / 4)).1) false false) (k_516 hT) (k_517 hT) (k_518 hT) (k_519 hT) (k_2 hT) rfl (by decide +kernel) (va_recv hK hP (ci := 0) (q0 := 5) rfl rfl) (hc.at g hS hP) ⟨by decide, by decide⟩ ⟨by decide, by decide⟩ hl.1 (Nat.le_of_ble_eq_true rfl) d_Pc_doOne_126 (fun _ h9 => h9) hS (fun _ _ _ _ _ _ _ h9 => h9.elim) (fun v t H locs ht9 hRt hz hk hS => ?_)
        obtain ⟨u, rfl, eu, hP⟩ := hRt
        rw [eu, ht9] at hP
        rw [eq9] at hP
        have hD : va_D (gA G) (cw G (beF ((cmF σ ((cI σ 0) / 4)).2) (cQ ((cmF σ ((cI σ 0) / 4)).2) ((cP σ 0) (cI σ 0).toNatClampNeg)) ((cmF σ ((cI σ 0) / 4)).1) false false)) := g.d
        refine W.eq (g2 := F0 m 129 ls []) rfl ?_
        refine lv_aload_n hx hb d_Pc_doOne_129 rfl (lv_at hl 5 rfl) ?_
        refine lv_dup hx hb d_Pc_doOne_130 rfl ?_
        refine va_get (D := gD G) (ci := 6) (v := .int (cI (beF ((cmF σ ((cI σ 0) / 4)).2) (cQ ((cmF σ ((cI σ 0) / 4)).2) ((cP σ 0) (cI σ 0).toNatClampNeg)) ((cmF σ ((cI σ 0) / 4)).1) false false) 2)) (C := R_Pc) (T := F_Pc) (N := 12) hx hb (wl_Pc hT) (fun _ h9 => h9) hown hK hP 0 rfl rfl 11 (by decide) (k_190 hT) (fun _ h9 => h9) rfl d_Pc_doOne_131 ?_
        refine lv_iconst (v := 1) hx hb d_Pc_doOne_134 (by decide) ?_
        refine lv_iadd hx hb d_Pc_doOne_135 ?_
        refine va_put (D := gD G) (ci := 6) (v := .int ((cI (beF ((cmF σ ((cI σ 0) / 4)).2) (cQ ((cmF σ ((cI σ 0) / 4)).2) ((cP σ 0) (cI σ 0).toNatClampNeg)) ((cmF σ ((cI σ 0) / 4)).1) false false) 2) + 1)) (ty := .int) (C := R_Pc) (T := F_Pc) (N := 12) hx hb (wl_Pc hT) (fun _ h9 => h9) fy_Pc fy_Pc_ok fn_Pc hown hK hP hD hS 0 rfl rfl 11 (by decide) (k_190 hT) (fun _ h9 => h9) rfl (by decide +kernel) rfl rfl (Nat.le_of_ble_eq_true rfl) d_Pc_doOne_136 (fun H locs hP hD hS => ?_)
        have hP : va_P (gD G) classes (cw G (sI (beF ((cmF σ ((cI σ 0) / 4)).2) (cQ ((cmF σ ((cI σ 0) / 4)).2) ((cP σ 0) (cI σ 0).toNatClampNeg)) ((cmF σ ((cI σ 0) / 4)).1) false false) 2 ((cI (beF ((cmF σ ((cI σ 0) / 4)).2) (cQ ((cmF σ ((cI σ 0) / 4)).2) ((cP σ 0) (cI σ 0).toNatClampNeg)) ((cmF σ ((cI σ 0) / 4)).1) false false) 2) + 1))) H := hP
        have hD : va_D (gA G) (cw G (sI (beF ((cmF σ ((cI σ 0) / 4)).2) (cQ ((cmF σ ((cI σ 0) / 4)).2) ((cP σ 0) (cI σ 0).toNatClampNeg)) ((cmF σ ((cI σ 0) / 4)).1) false false) 2 ((cI (beF ((cmF σ ((cI σ 0) / 4)).2) (cQ ((cmF σ ((cI σ 0) / 4)).2) ((cP σ 0) (cI σ 0).toNatClampNeg)) ((cmF σ ((cI σ 0) / 4)).1) false false) 2) + 1))) := g.d
        refine lv_aload_n hx hb d_Pc_doOne_139 rfl (lv_at hl 5 rfl) ?_
        refine va_get (D := gD G) (ci := 6) (v := .int (cI (beF ((cmF σ ((cI σ 0) / 4)).2) (cQ ((cmF σ ((cI σ 0) / 4)).2) ((cP σ 0) (cI σ 0).toNatClampNeg)) ((cmF σ ((cI σ 0) / 4)).1) false false) 1)) (C := R_Pc) (T := F_Pc) (N := 12) hx hb (wl_Pc hT) (fun _ h9 => h9) hown hK hP 0 rfl rfl 10 (by decide) (k_189 hT) (fun _ h9 => h9) rfl d_Pc_doOne_140 ?_
        refine lv_if_ne (tgt := 171) hx hb d_Pc_doOne_143 (by decide) (fun c143 => ?_) (fun c143 => ?_)
        · exact end_v (u := (sI (beF ((cmF σ ((cI σ 0) / 4)).2) (cQ ((cmF σ ((cI σ 0) / 4)).2) ((cP σ 0) (cI σ 0).toNatClampNeg)) ((cmF σ ((cI σ 0) / 4)).1) false false) 2 ((cI (beF ((cmF σ ((cI σ 0) / 4)).2) (cQ ((cmF σ ((cI σ 0) / 4)).2) ((cP σ 0) (cI σ 0).toNatClampNeg)) ((cmF σ ((cI σ 0) / 4)).1) false false) 2) + 1))) hx hb hr hlocks hS hP d_Pc_doOne_171 (⟨by simp [doF, doT, doG, doQ, dnF, ix, c36, c52, c68, c143], by simp [doF, doT, doG, doQ, dnF, ix, c36, c52, c68, c143]⟩)
        · refine lv_aload_n hx hb d_Pc_doOne_146 rfl (lv_at hl 5 rfl) ?_
          refine lv_iload hx hb d_Pc_doOne_147 (lv_at hl 1 rfl) ?_
          refine lv_if_eq (tgt := 159) hx hb d_Pc_doOne_149 (by decide) (fun c149 => ?_) (fun c149 => ?_)
          · have c149 := b2i0 c149
            refine lv_aload_n hx hb d_Pc_doOne_159 rfl (lv_at hl 5 rfl) ?_
            refine va_get (D := gD G) (ci := 6) (v := .int (cI (beF ((cmF σ ((cI σ 0) / 4)).2) (cQ ((cmF σ ((cI σ 0) / 4)).2) ((cP σ 0) (cI σ 0).toNatClampNeg)) ((cmF σ ((cI σ 0) / 4)).1) false false) 0)) (C := R_Pc) (T := F_Pc) (N := 12) hx hb (wl_Pc hT) (fun _ h9 => h9) hown hK hP 0 rfl rfl 9 (by decide) (k_188 hT) (fun _ h9 => h9) rfl d_Pc_doOne_160 ?_
            refine lv_iconst (v := 1) hx hb d_Pc_doOne_163 (by decide) ?_
            refine lv_iadd hx hb d_Pc_doOne_164 ?_
            refine lv_bipush (v := 24) hx hb d_Pc_doOne_165 (by decide) ?_
            refine lv_irem hx hb d_Pc_doOne_167 (by decide) ?_
            refine va_put (D := gD G) (ci := 6) (v := .int (((cI (beF ((cmF σ ((cI σ 0) / 4)).2) (cQ ((cmF σ ((cI σ 0) / 4)).2) ((cP σ 0) (cI σ 0).toNatClampNeg)) ((cmF σ ((cI σ 0) / 4)).1) false false) 0) + 1) - ((cI (beF ((cmF σ ((cI σ 0) / 4)).2) (cQ ((cmF σ ((cI σ 0) / 4)).2) ((cP σ 0) (cI σ 0).toNatClampNeg)) ((cmF σ ((cI σ 0) / 4)).1) false false) 0) + 1) / 24 * 24)) (ty := .int) (C := R_Pc) (T := F_Pc) (N := 12) hx hb (wl_Pc hT) (fun _ h9 => h9) fy_Pc fy_Pc_ok fn_Pc hown hK hP hD hS 0 rfl rfl 9 (by decide) (k_188 hT) (fun _ h9 => h9) rfl (by decide +kernel) rfl rfl (Nat.le_of_ble_eq_true rfl) d_Pc_doOne_168 (fun H locs hP hD hS => ?_)
            have hP : va_P (gD G) classes (cw G (sI (sI (beF ((cmF σ ((cI σ 0) / 4)).2) (cQ ((cmF σ ((cI σ 0) / 4)).2) ((cP σ 0) (cI σ 0).toNatClampNeg)) ((cmF σ ((cI σ 0) / 4)).1) false false) 2 ((cI (beF ((cmF σ ((cI σ 0) / 4)).2) (cQ ((cmF σ ((cI σ 0) / 4)).2) ((cP σ 0) (cI σ 0).toNatClampNeg)) ((cmF σ ((cI σ 0) / 4)).1) false false) 2) + 1)) 0 (((cI (beF ((cmF σ ((cI σ 0) / 4)).2) (cQ ((cmF σ ((cI σ 0) / 4)).2) ((cP σ 0) (cI σ 0).toNatClampNeg)) ((cmF σ ((cI σ 0) / 4)).1) false false) 0) + 1) - ((cI (beF ((cmF σ ((cI σ 0) / 4)).2) (cQ ((cmF σ ((cI σ 0) / 4)).2) ((cP σ 0) (cI σ 0).toNatClampNeg)) ((cmF σ ((cI σ 0) / 4)).1) false false) 0) + 1) / 24 * 24))) H := hP
            have hD : va_D (gA G) (cw G (sI (sI (beF ((cmF σ ((cI σ 0) / 4)).2) (cQ ((cmF σ ((cI σ 0) / 4)).2) ((cP σ 0) (cI σ 0).toNatClampNeg)) ((cmF σ ((cI σ 0) / 4)).1) false false) 2 ((cI (beF ((cmF σ ((cI σ 0) / 4)).2) (cQ ((cmF σ ((cI σ 0) / 4)).2) ((cP σ 0) (cI σ 0).toNatClampNeg)) ((cmF σ ((cI σ 0) / 4)).1) false false) 2) + 1)) 0 (((cI (beF ((cmF σ ((cI σ 0) / 4)).2) (cQ ((cmF σ ((cI σ 0) / 4)).2) ((cP σ 0) (cI σ 0).toNatClampNeg)) ((cmF σ ((cI σ 0) / 4)).1) false false) 0) + 1) - ((cI (beF ((cmF σ ((cI σ 0) / 4)).2) (cQ ((cmF σ ((cI σ 0) / 4)).2) ((cP σ 0) (cI σ 0).toNatClampNeg)) ((cmF σ ((cI σ 0) / 4)).1) false false) 0) + 1) / 24 * 24))) := g.d
            exact end_v (u := (sI (sI (beF ((cmF σ ((cI σ 0) / 4)).2) (cQ ((cmF σ ((cI σ 0) / 4)).2) ((cP σ 0) (cI σ 0).toNatClampNeg)) ((cmF σ ((cI σ 0) / 4)).1) false false) 2 ((cI (beF ((cmF σ ((cI σ 0) / 4)).2) (cQ ((cmF σ ((cI σ 0) / 4)).2) ((cP σ 0) (cI σ 0).toNatClampNeg)) ((cmF σ ((cI σ 0) / 4)).1) false false) 2) + 1)) 0 (((cI (beF ((cmF σ ((cI σ 0) / 4)).2) (cQ ((cmF σ ((cI σ 0) / 4)).2) ((cP σ 0) (cI σ 0).toNatClampNeg)) ((cmF σ ((cI σ 0) / 4)).1) false false) 0) + 1) - ((cI (beF ((cmF σ ((cI σ 0) / 4)).2) (cQ ((cmF σ ((cI σ 0) / 4)).2) ((cP σ 0) (cI σ 0).toNatClampNeg)) ((cmF σ ((cI σ 0) / 4)).1) false false) 0) + 1) / 24 * 24))) hx hb hr hlocks hS hP d_Pc_doOne_171 (⟨by simp [doF, doT, doG, doQ, dnF, ix, c36, c52, c68, c143, c149], by simp [doF, doT, doG, doQ, dnF, ix, c36, c52, c68, c143, c149]⟩)
          · have c149 := b2i1 c149
            refine lv_aload_n hx hb d_Pc_doOne_152 rfl (lv_at hl 4 rfl) ?_
            refine cx_V (n := 0) (C := R_In) (As := []) (rest := [.ref (gad G 0)]) ⟨hx, hb, hml, hown, fun _ h9 => nomatch h9⟩ (K_In_target g (sI (beF ((cmF σ ((cI σ 0) / 4)).2) (cQ ((cmF σ ((cI σ 0) / 4)).2) ((cP σ 0) (cI σ 0).toNatClampNeg)) ((cmF σ ((cI σ 0) / 4)).1) false false) 2 ((cI (beF ((cmF σ ((cI σ 0) / 4)).2) (cQ ((cmF σ ((cI σ 0) / 4)).2) ((cP σ 0) (cI σ 0).toNatClampNeg)) ((cmF σ ((cI σ 0) / 4)).1) false false) 2) + 1)) (w.2.1 _ (vp_lt w.1))) (k_531 hT) (k_238 hT) (k_239 hT) (k_240 hT) (k_8 hT) rfl (by decide +kernel) (va_recv hK hP (ci := 3) (q0 := 19 + ((cP σ 0) (cI σ 0).toNatClampNeg)) rfl (cw_in (w.2.1 _ (vp_lt w.1)))) (hc.at g hS hP) ⟨by decide, by decide⟩ ⟨by decide, by decide⟩ hl.1 (Nat.le_of_ble_eq_true rfl) d_Pc_doOne_153 (fun _ h9 => h9) hS (fun _ _ _ _ _ _ _ h9 => h9.elim) (fun v t H locs ht9 hRt hz hk hS => ?_)
            obtain ⟨r, u, rfl, ⟨er, eu⟩, hP⟩ := hRt
            subst er
            rw [eu, ht9] at hP
            have e10 : cQ (sI (beF ((cmF σ ((cI σ 0) / 4)).2) (cQ ((cmF σ ((cI σ 0) / 4)).2) ((cP σ 0) (cI σ 0).toNatClampNeg)) ((cmF σ ((cI σ 0) / 4)).1) false false) 2 ((cI (beF ((cmF σ ((cI σ 0) / 4)).2) (cQ ((cmF σ ((cI σ 0) / 4)).2) ((cP σ 0) (cI σ 0).toNatClampNeg)) ((cmF σ ((cI σ 0) / 4)).1) false false) 2) + 1)) = cQ ((cmF σ ((cI σ 0) / 4)).2) := by first | rfl | simp only [cQ_sI, beF_Q, eq9]
            rw [e10]
            have hD : va_D (gA G) (cw G (sI (beF ((cmF σ ((cI σ 0) / 4)).2) (cQ ((cmF σ ((cI σ 0) / 4)).2) ((cP σ 0) (cI σ 0).toNatClampNeg)) ((cmF σ ((cI σ 0) / 4)).1) false false) 2 ((cI (beF ((cmF σ ((cI σ 0) / 4)).2) (cQ ((cmF σ ((cI σ 0) / 4)).2) ((cP σ 0) (cI σ 0).toNatClampNeg)) ((cmF σ ((cI σ 0) / 4)).1) false false) 2) + 1))) := g.d
            refine W.eq (g2 := F0 m 156 ls [.int (flm (cQ ((cmF σ ((cI σ 0) / 4)).2) ((cP σ 0) (cI σ 0).toNatClampNeg) 4) 24), .ref (gad G 0)]) rfl ?_
            refine lv_goto (tgt := 168) hx hb d_Pc_doOne_156 (by decide) ?_
            refine va_put (D := gD G) (ci := 6) (v := .int (flm (cQ ((cmF σ ((cI σ 0) / 4)).2) ((cP σ 0) (cI σ 0).toNatClampNeg) 4) 24)) (ty := .int) (C := R_Pc) (T := F_Pc) (N := 12) hx hb (wl_Pc hT) (fun _ h9 => h9) fy_Pc fy_Pc_ok fn_Pc hown hK hP hD hS 0 rfl rfl 9 (by decide) (k_188 hT) (fun _ h9 => h9) rfl (by decide +kernel) rfl rfl (Nat.le_of_ble_eq_true rfl) d_Pc_doOne_168 (fun H locs hP hD hS => ?_)
            have hP : va_P (gD G) classes (cw G (sI (sI (beF ((cmF σ ((cI σ 0) / 4)).2) (cQ ((cmF σ ((cI σ 0) / 4)).2) ((cP σ 0) (cI σ 0).toNatClampNeg)) ((cmF σ ((cI σ 0) / 4)).1) false false) 2 ((cI (beF ((cmF σ ((cI σ 0) / 4)).2) (cQ ((cmF σ ((cI σ 0) / 4)).2) ((cP σ 0) (cI σ 0).toNatClampNeg)) ((cmF σ ((cI σ 0) / 4)).1) false false) 2) + 1)) 0 (flm (cQ ((cmF σ ((cI σ 0) / 4)).2) ((cP σ 0) (cI σ 0).toNatClampNeg) 4) 24))) H := hP
            have hD : va_D (gA G) (cw G (sI (sI (beF ((cmF σ ((cI σ 0) / 4)).2) (cQ ((cmF σ ((cI σ 0) / 4)).2) ((cP σ 0) (cI σ 0).toNatClampNeg)) ((cmF σ ((cI σ 0) / 4)).1) false false) 2 ((cI (beF ((cmF σ ((cI σ 0) / 4)).2) (cQ ((cmF σ ((cI σ 0) / 4)).2) ((cP σ 0) (cI σ 0).toNatClampNeg)) ((cmF σ ((cI σ 0) / 4)).1) false false) 2) + 1)) 0 (flm (cQ ((cmF σ ((cI σ 0) / 4)).2) ((cP σ 0) (cI σ 0).toNatClampNeg) 4) 24))) := g.d
            exact end_v (u := (sI (sI (beF ((cmF σ ((cI σ 0) / 4)).2) (cQ ((cmF σ ((cI σ 0) / 4)).2) ((cP σ 0) (cI σ 0).toNatClampNeg)) ((cmF σ ((cI σ 0) / 4)).1) false false) 2 ((cI (beF ((cmF σ ((cI σ 0) / 4)).2) (cQ ((cmF σ ((cI σ 0) / 4)).2) ((cP σ 0) (cI σ 0).toNatClampNeg)) ((cmF σ ((cI σ 0) / 4)).1) false false) 2) + 1)) 0 (flm (cQ ((cmF σ ((cI σ 0) / 4)).2) ((cP σ 0) (cI σ 0).toNatClampNeg) 4) 24))) hx hb hr hlocks hS hP d_Pc_doOne_171 (⟨by simp [doF, doT, doG, doQ, dnF, ix, c36, c52, c68, c143, c149], by simp [doF, doT, doG, doQ, dnF, ix, c36, c52, c68, c143, c149]⟩)
      · refine lv_aload_n hx hb d_Pc_doOne_71 rfl (lv_at hl 5 rfl) ?_
        refine va_get (D := gD G) (ci := 6) (v := .ref (gad G 12)) (C := R_Pc) (T := F_Pc) (N := 12) hx hb (wl_Pc hT) (fun _ h9 => h9) hown hK hP 0 rfl rfl 7 (by decide) (k_186 hT) (fun _ h9 => h9) rfl d_Pc_doOne_72 ?_
        refine lv_aload_n hx hb d_Pc_doOne_75 rfl (lv_at hl 5 rfl) ?_
        refine va_get (D := gD G) (ci := 6) (v := .int (cI ((cmF σ ((cI σ 0) / 4)).2) 0)) (C := R_Pc) (T := F_Pc) (N := 12) hx hb (wl_Pc hT) (fun _ h9 => h9) hown hK hP 0 rfl rfl 9 (by decide) (k_188 hT) (fun _ h9 => h9) rfl d_Pc_doOne_76 ?_
        refine lv_iload hx hb d_Pc_doOne_79 (lv_at hl 0 rfl) ?_
        refine cx_V (n := 2) (C := R_Pr) (As := [.int (cI ((cmF σ ((cI σ 0) / 4)).2) 0), .int (b2i (jdF ((cmF σ ((cI σ 0) / 4)).2) (cQ ((cmF σ ((cI σ 0) / 4)).2) ((cP σ 0) (cI σ 0).toNatClampNeg))))]) (rest := []) ⟨hx, hb, hml, hown, fun _ h9 => nomatch h9⟩ (K_Pr_guessesWrong g ((cmF σ ((cI σ 0) / 4)).2) (cI ((cmF σ ((cI σ 0) / 4)).2) 0) (jdF ((cmF σ ((cI σ 0) / 4)).2) (cQ ((cmF σ ((cI σ 0) / 4)).2) ((cP σ 0) (cI σ 0).toNatClampNeg))) (by rw [cmF_I0]; exact at8 w.1)) (k_471 hT) (k_472 hT) (k_473 hT) (k_474 hT) (k_6 hT) rfl (by decide +kernel) (va_recv hK hP (ci := 4) (q0 := 12) rfl rfl) (hc.at g hS hP) ⟨by decide, by decide⟩ ⟨by decide, by decide⟩ hl.1 (Nat.le_of_ble_eq_true rfl) d_Pc_doOne_81 (fun _ h9 => h9) hS (fun _ _ _ _ _ _ _ h9 => h9.elim) (fun v t H locs ht9 hRt hz hk hS => ?_)
        obtain ⟨r, u, rfl, ⟨er, eu⟩, hP⟩ := hRt
        subst er
        rw [eu, ht9] at hP
        have hD : va_D (gA G) (cw G (gwF ((cmF σ ((cI σ 0) / 4)).2) (cI ((cmF σ ((cI σ 0) / 4)).2) 0) (jdF ((cmF σ ((cI σ 0) / 4)).2) (cQ ((cmF σ ((cI σ 0) / 4)).2) ((cP σ 0) (cI σ 0).toNatClampNeg))))) := g.d
        refine W.eq (g2 := F0 m 84 ls [.int (b2i (gwW ((cmF σ ((cI σ 0) / 4)).2) (cI ((cmF σ ((cI σ 0) / 4)).2) 0) (jdF ((cmF σ ((cI σ 0) / 4)).2) (cQ ((cmF σ ((cI σ 0) / 4)).2) ((cP σ 0) (cI σ 0).toNatClampNeg)))))]) rfl ?_
        refine lv_if_eq (tgt := 91) hx hb d_Pc_doOne_84 (by decide) (fun c84 => ?_) (fun c84 => ?_)
        · have c84 := b2i0 c84
          refine lv_iconst (v := 0) hx hb d_Pc_doOne_91 (by decide) ?_
          refine lv_istore (lv' := [(5, .int 0), (4, .int (b2i (jdF ((cmF σ ((cI σ 0) / 4)).2) (cQ ((cmF σ ((cI σ 0) / 4)).2) ((cP σ 0) (cI σ 0).toNatClampNeg))))), (3, .int 0), (2, .int (b2i (cmF σ ((cI σ 0) / 4)).1)), (1, .ref (gia G ((cP σ 0) (cI σ 0).toNatClampNeg))), (0, .ref (gad G 0))]) hx hb d_Pc_doOne_92 hl (by decide) rfl (fun ls hl => ?_)
          refine lv_goto (tgt := 117) hx hb d_Pc_doOne_94 (by decide) ?_
          have eq9 : cQ (gwF ((cmF σ ((cI σ 0) / 4)).2) (cI ((cmF σ ((cI σ 0) / 4)).2) 0) (jdF ((cmF σ ((cI σ 0) / 4)).2) (cQ ((cmF σ ((cI σ 0) / 4)).2) ((cP σ 0) (cI σ 0).toNatClampNeg)))) = cQ ((cmF σ ((cI σ 0) / 4)).2) := by first | rfl | simp only [dmF_Q, mvF_Q, gwF_Q, cpF_Q, cQ_sI]
          refine lv_aload_n hx hb d_Pc_doOne_117 rfl (lv_at hl 5 rfl) ?_
          refine va_get (D := gD G) (ci := 6) (v := .ref (gad G 5)) (C := R_Pc) (T := F_Pc) (N := 12) hx hb (wl_Pc hT) (fun _ h9 => h9) hown hK hP 0 rfl rfl 4 (by decide) (k_183 hT) (fun _ h9 => h9) rfl d_Pc_doOne_118 ?_
          refine lv_aload_n hx hb d_Pc_doOne_121 rfl (lv_at hl 4 rfl) ?_
          refine lv_iload_n hx hb d_Pc_doOne_122 rfl (lv_at hl 3 rfl) ?_
          refine lv_iload_n hx hb d_Pc_doOne_123 rfl (lv_at hl 2 rfl) ?_
          refine lv_iload hx hb d_Pc_doOne_124 (lv_at hl 0 rfl) ?_
          refine cx_V (n := 4) (C := R_Ck) (As := [.ref (gia G ((cP σ 0) (cI σ 0).toNatClampNeg)), .int (b2i (cmF σ ((cI σ 0) / 4)).1), .int 0, .int 0]) (rest := []) ⟨hx, hb, hml, hown, fun _ h9 => nomatch h9⟩ (K_Ck_begin g (gwF ((cmF σ ((cI σ 0) / 4)).2) (cI ((cmF σ ((cI σ 0) / 4)).2) 0) (jdF ((cmF σ ((cI σ 0) / 4)).2) (cQ ((cmF σ ((cI σ 0) / 4)).2) ((cP σ 0) (cI σ 0).toNatClampNeg)))) (w.2.1 _ (vp_lt w.1)) (by rw [eq9]; exact hok) ((cmF σ ((cI σ 0) / 4)).1) false false) (k_516 hT) (k_517 hT) (k_518 hT) (k_519 hT) (k_2 hT) rfl (by decide +kernel) (va_recv hK hP (ci := 0) (q0 := 5) rfl rfl) (hc.at g hS hP) ⟨by decide, by decide⟩ ⟨by decide, by decide⟩ hl.1 (Nat.le_of_ble_eq_true rfl) d_Pc_doOne_126 (fun _ h9 => h9) hS (fun _ _ _ _ _ _ _ h9 => h9.elim) (fun v t H locs ht9 hRt hz hk hS => ?_)
          obtain ⟨u, rfl, eu, hP⟩ := hRt
          rw [eu, ht9] at hP
          rw [eq9] at hP
          have hD : va_D (gA G) (cw G (beF (gwF ((cmF σ ((cI σ 0) / 4)).2) (cI ((cmF σ ((cI σ 0) / 4)).2) 0) (jdF ((cmF σ ((cI σ 0) / 4)).2) (cQ ((cmF σ ((cI σ 0) / 4)).2) ((cP σ 0) (cI σ 0).toNatClampNeg)))) (cQ ((cmF σ ((cI σ 0) / 4)).2) ((cP σ 0) (cI σ 0).toNatClampNeg)) ((cmF σ ((cI σ 0) / 4)).1) false false)) := g.d
          refine W.eq (g2 := F0 m 129 ls []) rfl ?_
          refine lv_aload_n hx hb d_Pc_doOne_129 rfl (lv_at hl 5 rfl) ?_
          refine lv_dup hx hb d_Pc_doOne_130 rfl ?_
          refine va_get (D := gD G) (ci := 6) (v := .int (cI (beF (gwF ((cmF σ ((cI σ 0) / 4)).2) (cI ((cmF σ ((cI σ 0) / 4)).2) 0) (jdF ((cmF σ ((cI σ 0) / 4)).2) (cQ ((cmF σ ((cI σ 0) / 4)).2) ((cP σ 0) (cI σ 0).toNatClampNeg)))) (cQ ((cmF σ ((cI σ 0) / 4)).2) ((cP σ 0) (cI σ 0).toNatClampNeg)) ((cmF σ ((cI σ 0) / 4)).1) false false) 2)) (C := R_Pc) (T := F_Pc) (N := 12) hx hb (wl_Pc hT) (fun _ h9 => h9) hown hK hP 0 rfl rfl 11 (by decide) (k_190 hT) (fun _ h9 => h9) rfl d_Pc_doOne_131 ?_
          refine lv_iconst (v := 1) hx hb d_Pc_doOne_134 (by decide) ?_
          refine lv_iadd hx hb d_Pc_doOne_135 ?_
          refine va_put (D := gD G) (ci := 6) (v := .int ((cI (beF (gwF ((cmF σ ((cI σ 0) / 4)).2) (cI ((cmF σ ((cI σ 0) / 4)).2) 0) (jdF ((cmF σ ((cI σ 0) / 4)).2) (cQ ((cmF σ ((cI σ 0) / 4)).2) ((cP σ 0) (cI σ 0).toNatClampNeg)))) (cQ ((cmF σ ((cI σ 0) / 4)).2) ((cP σ 0) (cI σ 0).toNatClampNeg)) ((cmF σ ((cI σ 0) / 4)).1) false false) 2) + 1)) (ty := .int) (C := R_Pc) (T := F_Pc) (N := 12) hx hb (wl_Pc hT) (fun _ h9 => h9) fy_Pc fy_Pc_ok fn_Pc hown hK hP hD hS 0 rfl rfl 11 (by decide) (k_190 hT) (fun _ h9 => h9) rfl (by decide +kernel) rfl rfl (Nat.le_of_ble_eq_true rfl) d_Pc_doOne_136 (fun H locs hP hD hS => ?_)
          have hP : va_P (gD G) classes (cw G (sI (beF (gwF ((cmF σ ((cI σ 0) / 4)).2) (cI ((cmF σ ((cI σ 0) / 4)).2) 0) (jdF ((cmF σ ((cI σ 0) / 4)).2) (cQ ((cmF σ ((cI σ 0) / 4)).2) ((cP σ 0) (cI σ 0).toNatClampNeg)))) (cQ ((cmF σ ((cI σ 0) / 4)).2) ((cP σ 0) (cI σ 0).toNatClampNeg)) ((cmF σ ((cI σ 0) / 4)).1) false false) 2 ((cI (beF (gwF ((cmF σ ((cI σ 0) / 4)).2) (cI ((cmF σ ((cI σ 0) / 4)).2) 0) (jdF ((cmF σ ((cI σ 0) / 4)).2) (cQ ((cmF σ ((cI σ 0) / 4)).2) ((cP σ 0) (cI σ 0).toNatClampNeg)))) (cQ ((cmF σ ((cI σ 0) / 4)).2) ((cP σ 0) (cI σ 0).toNatClampNeg)) ((cmF σ ((cI σ 0) / 4)).1) false false) 2) + 1))) H := hP
          have hD : va_D (gA G) (cw G (sI (beF (gwF ((cmF σ ((cI σ 0) / 4)).2) (cI ((cmF σ ((cI σ 0) / 4)).2) 0) (jdF ((cmF σ ((cI σ 0) / 4)).2) (cQ ((cmF σ ((cI σ 0) / 4)).2) ((cP σ 0) (cI σ 0).toNatClampNeg)))) (cQ ((cmF σ ((cI σ 0) / 4)).2) ((cP σ 0) (cI σ 0).toNatClampNeg)) ((cmF σ ((cI σ 0) / 4)).1) false false) 2 ((cI (beF (gwF ((cmF σ ((cI σ 0) / 4)).2) (cI ((cmF σ ((cI σ 0) / 4)).2) 0) (jdF ((cmF σ ((cI σ 0) / 4)).2) (cQ ((cmF σ ((cI σ 0) / 4)).2) ((cP σ 0) (cI σ 0).toNatClampNeg)))) (cQ ((cmF σ ((cI σ 0) / 4)).2) ((cP σ 0) (cI σ 0).toNatClampNeg)) ((cmF σ ((cI σ 0) / 4)).1) false false) 2) + 1))) := g.d
          refine lv_aload_n hx hb d_Pc_doOne_139 rfl (lv_at hl 5 rfl) ?_
          refine va_get (D := gD G) (ci := 6) (v := .int (cI (beF (gwF ((cmF σ ((cI σ 0) / 4)).2) (cI ((cmF σ ((cI σ 0) / 4)).2) 0) (jdF ((cmF σ ((cI σ 0) / 4)).2) (cQ ((cmF σ ((cI σ 0) / 4)).2) ((cP σ 0) (cI σ 0).toNatClampNeg)))) (cQ ((cmF σ ((cI σ 0) / 4)).2) ((cP σ 0) (cI σ 0).toNatClampNeg)) ((cmF σ ((cI σ 0) / 4)).1) false false) 1)) (C := R_Pc) (T := F_Pc) (N := 12) hx hb (wl_Pc hT) (fun _ h9 => h9) hown hK hP 0 rfl rfl 10 (by decide) (k_189 hT) (fun _ h9 => h9) rfl d_Pc_doOne_140 ?_
          refine lv_if_ne (tgt := 171) hx hb d_Pc_doOne_143 (by decide) (fun c143 => ?_) (fun c143 => ?_)
          · exact end_v (u := (sI (beF (gwF ((cmF σ ((cI σ 0) / 4)).2) (cI ((cmF σ ((cI σ 0) / 4)).2) 0) (jdF ((cmF σ ((cI σ 0) / 4)).2) (cQ ((cmF σ ((cI σ 0) / 4)).2) ((cP σ 0) (cI σ 0).toNatClampNeg)))) (cQ ((cmF σ ((cI σ 0) / 4)).2) ((cP σ 0) (cI σ 0).toNatClampNeg)) ((cmF σ ((cI σ 0) / 4)).1) false false) 2 ((cI (beF (gwF ((cmF σ ((cI σ 0) / 4)).2) (cI ((cmF σ ((cI σ 0) / 4)).2) 0) (jdF ((cmF σ ((cI σ 0) / 4)).2) (cQ ((cmF σ ((cI σ 0) / 4)).2) ((cP σ 0) (cI σ 0).toNatClampNeg)))) (cQ ((cmF σ ((cI σ 0) / 4)).2) ((cP σ 0) (cI σ 0).toNatClampNeg)) ((cmF σ ((cI σ 0) / 4)).1) false false) 2) + 1))) hx hb hr hlocks hS hP d_Pc_doOne_171 (⟨by simp [doF, doT, doG, doQ, dnF, ix, c36, c52, c68, c84, c143], by simp [doF, doT, doG, doQ, dnF, ix, c36, c52, c68, c84, c143]⟩)
          · refine lv_aload_n hx hb d_Pc_doOne_146 rfl (lv_at hl 5 rfl) ?_
            refine lv_iload hx hb d_Pc_doOne_147 (lv_at hl 1 rfl) ?_
            refine lv_if_eq (tgt := 159) hx hb d_Pc_doOne_149 (by decide) (fun c149 => ?_) (fun c149 => ?_)
            · have c149 := b2i0 c149
              refine lv_aload_n hx hb d_Pc_doOne_159 rfl (lv_at hl 5 rfl) ?_
              refine va_get (D := gD G) (ci := 6) (v := .int (cI (beF (gwF ((cmF σ ((cI σ 0) / 4)).2) (cI ((cmF σ ((cI σ 0) / 4)).2) 0) (jdF ((cmF σ ((cI σ 0) / 4)).2) (cQ ((cmF σ ((cI σ 0) / 4)).2) ((cP σ 0) (cI σ 0).toNatClampNeg)))) (cQ ((cmF σ ((cI σ 0) / 4)).2) ((cP σ 0) (cI σ 0).toNatClampNeg)) ((cmF σ ((cI σ 0) / 4)).1) false false) 0)) (C := R_Pc) (T := F_Pc) (N := 12) hx hb (wl_Pc hT) (fun _ h9 => h9) hown hK hP 0 rfl rfl 9 (by decide) (k_188 hT) (fun _ h9 => h9) rfl d_Pc_doOne_160 ?_
              refine lv_iconst (v := 1) hx hb d_Pc_doOne_163 (by decide) ?_
              refine lv_iadd hx hb d_Pc_doOne_164 ?_
              refine lv_bipush (v := 24) hx hb d_Pc_doOne_165 (by decide) ?_
              refine lv_irem hx hb d_Pc_doOne_167 (by decide) ?_
              refine va_put (D := gD G) (ci := 6) (v := .int (((cI (beF (gwF ((cmF σ ((cI σ 0) / 4)).2) (cI ((cmF σ ((cI σ 0) / 4)).2) 0) (jdF ((cmF σ ((cI σ 0) / 4)).2) (cQ ((cmF σ ((cI σ 0) / 4)).2) ((cP σ 0) (cI σ 0).toNatClampNeg)))) (cQ ((cmF σ ((cI σ 0) / 4)).2) ((cP σ 0) (cI σ 0).toNatClampNeg)) ((cmF σ ((cI σ 0) / 4)).1) false false) 0) + 1) - ((cI (beF (gwF ((cmF σ ((cI σ 0) / 4)).2) (cI ((cmF σ ((cI σ 0) / 4)).2) 0) (jdF ((cmF σ ((cI σ 0) / 4)).2) (cQ ((cmF σ ((cI σ 0) / 4)).2) ((cP σ 0) (cI σ 0).toNatClampNeg)))) (cQ ((cmF σ ((cI σ 0) / 4)).2) ((cP σ 0) (cI σ 0).toNatClampNeg)) ((cmF σ ((cI σ 0) / 4)).1) false false) 0) + 1) / 24 * 24)) (ty := .int) (C := R_Pc) (T := F_Pc) (N := 12) hx hb (wl_Pc hT) (fun _ h9 => h9) fy_Pc fy_Pc_ok fn_Pc hown hK hP hD hS 0 rfl rfl 9 (by decide) (k_188 hT) (fun _ h9 => h9) rfl (by decide +kernel) rfl rfl (Nat.le_of_ble_eq_true rfl) d_Pc_doOne_168 (fun H locs hP hD hS => ?_)
              have hP : va_P (gD G) classes (cw G (sI (sI (beF (gwF ((cmF σ ((cI σ 0) / 4)).2) (cI ((cmF σ ((cI σ 0) / 4)).2) 0) (jdF ((cmF σ ((cI σ 0) / 4)).2) (cQ ((cmF σ ((cI σ 0) / 4)).2) ((cP σ 0) (cI σ 0).toNatClampNeg)))) (cQ ((cmF σ ((cI σ 0) / 4)).2) ((cP σ 0) (cI σ 0).toNatClampNeg)) ((cmF σ ((cI σ 0) / 4)).1) false false) 2 ((cI (beF (gwF ((cmF σ ((cI σ 0) / 4)).2) (cI ((cmF σ ((cI σ 0) / 4)).2) 0) (jdF ((cmF σ ((cI σ 0) / 4)).2) (cQ ((cmF σ ((cI σ 0) / 4)).2) ((cP σ 0) (cI σ 0).toNatClampNeg)))) (cQ ((cmF σ ((cI σ 0) / 4)).2) ((cP σ 0) (cI σ 0).toNatClampNeg)) ((cmF σ ((cI σ 0) / 4)).1) false false) 2) + 1)) 0 (((cI (beF (gwF ((cmF σ ((cI σ 0) / 4)).2) (cI ((cmF σ ((cI σ 0) / 4)).2) 0) (jdF ((cmF σ ((cI σ 0) / 4)).2) (cQ ((cmF σ ((cI σ 0) / 4)).2) ((cP σ 0) (cI σ 0).toNatClampNeg)))) (cQ ((cmF σ ((cI σ 0) / 4)).2) ((cP σ 0) (cI σ 0).toNatClampNeg)) ((cmF σ ((cI σ 0) / 4)).1) false false) 0) + 1) - ((cI (beF (gwF ((cmF σ ((cI σ 0) / 4)).2) (cI ((cmF σ ((cI σ 0) / 4)).2) 0) (jdF ((cmF σ ((cI σ 0) / 4)).2) (cQ ((cmF σ ((cI σ 0) / 4)).2) ((cP σ 0) (cI σ 0).toNatClampNeg)))) (cQ ((cmF σ ((cI σ 0) / 4)).2) ((cP σ 0) (cI σ 0).toNatClampNeg)) ((cmF σ ((cI σ 0) / 4)).1) false false) 0) + 1) / 24 * 24))) H := hP
              have hD : va_D (gA G) (cw G (sI (sI (beF (gwF ((cmF σ ((cI σ 0) / 4)).2) (cI ((cmF σ ((cI σ 0) / 4)).2) 0) (jdF ((cmF σ ((cI σ 0) / 4)).2) (cQ ((cmF σ ((cI σ 0) / 4)).2) ((cP σ 0) (cI σ 0).toNatClampNeg)))) (cQ ((cmF σ ((cI σ 0) / 4)).2) ((cP σ 0) (cI σ 0).toNatClampNeg)) ((cmF σ ((cI σ 0) / 4)).1) false false) 2 ((cI (beF (gwF ((cmF σ ((cI σ 0) / 4)).2) (cI ((cmF σ ((cI σ 0) / 4)).2) 0) (jdF ((cmF σ ((cI σ 0) / 4)).2) (cQ ((cmF σ ((cI σ 0) / 4)).2) ((cP σ 0) (cI σ 0).toNatClampNeg)))) (cQ ((cmF σ ((cI σ 0) / 4)).2) ((cP σ 0) (cI σ 0).toNatClampNeg)) ((cmF σ ((cI σ 0) / 4)).1) false false) 2) + 1)) 0 (((cI (beF (gwF ((cmF σ ((cI σ 0) / 4)).2) (cI ((cmF σ ((cI σ 0) / 4)).2) 0) (jdF ((cmF σ ((cI σ 0) / 4)).2) (cQ ((cmF σ ((cI σ 0) / 4)).2) ((cP σ 0) (cI σ 0).toNatClampNeg)))) (cQ ((cmF σ ((cI σ 0) / 4)).2) ((cP σ 0) (cI σ 0).toNatClampNeg)) ((cmF σ ((cI σ 0) / 4)).1) false false) 0) + 1) - ((cI (beF (gwF ((cmF σ ((cI σ 0) / 4)).2) (cI ((cmF σ ((cI σ 0) / 4)).2) 0) (jdF ((cmF σ ((cI σ 0) / 4)).2) (cQ ((cmF σ ((cI σ 0) / 4)).2) ((cP σ 0) (cI σ 0).toNatClampNeg)))) (cQ ((cmF σ ((cI σ 0) / 4)).2) ((cP σ 0) (cI σ 0).toNatClampNeg)) ((cmF σ ((cI σ 0) / 4)).1) false false) 0) + 1) / 24 * 24))) := g.d
              exact end_v (u := (sI (sI (beF (gwF ((cmF σ ((cI σ 0) / 4)).2) (cI ((cmF σ ((cI σ 0) / 4)).2) 0) (jdF ((cmF σ ((cI σ 0) / 4)).2) (cQ ((cmF σ ((cI σ 0) / 4)).2) ((cP σ 0) (cI σ 0).toNatClampNeg)))) (cQ ((cmF σ ((cI σ 0) / 4)).2) ((cP σ 0) (cI σ 0).toNatClampNeg)) ((cmF σ ((cI σ 0) / 4)).1) false false) 2 ((cI (beF (gwF ((cmF σ ((cI σ 0) / 4)).2) (cI ((cmF σ ((cI σ 0) / 4)).2) 0) (jdF ((cmF σ ((cI σ 0) / 4)).2) (cQ ((cmF σ ((cI σ 0) / 4)).2) ((cP σ 0) (cI σ 0).toNatClampNeg)))) (cQ ((cmF σ ((cI σ 0) / 4)).2) ((cP σ 0) (cI σ 0).toNatClampNeg)) ((cmF σ ((cI σ 0) / 4)).1) false false) 2) + 1)) 0 (((cI (beF (gwF ((cmF σ ((cI σ 0) / 4)).2) (cI ((cmF σ ((cI σ 0) / 4)).2) 0) (jdF ((cmF σ ((cI σ 0) / 4)).2) (cQ ((cmF σ ((cI σ 0) / 4)).2) ((cP σ 0) (cI σ 0).toNatClampNeg)))) (cQ ((cmF σ ((cI σ 0) / 4)).2) ((cP σ 0) (cI σ 0).toNatClampNeg)) ((cmF σ ((cI σ 0) / 4)).1) false false) 0) + 1) - ((cI (beF (gwF ((cmF σ ((cI σ 0) / 4)).2) (cI ((cmF σ ((cI σ 0) / 4)).2) 0) (jdF ((cmF σ ((cI σ 0) / 4)).2) (cQ ((cmF σ ((cI σ 0) / 4)).2) ((cP σ 0) (cI σ 0).toNatClampNeg)))) (cQ ((cmF σ ((cI σ 0) / 4)).2) ((cP σ 0) (cI σ 0).toNatClampNeg)) ((cmF σ ((cI σ 0) / 4)).1) false false) 0) + 1) / 24 * 24))) hx hb hr hlocks hS hP d_Pc_doOne_171 (⟨by simp [doF, doT, doG, doQ, dnF, ix, c36, c52, c68, c84, c143, c149], by have h84 := c84; rw [c149] at h84; have h143 := c143; rw [c149] at h143; simp [doF, doT, doG, doQ, dnF, ix, c36, c52, c68, c84, c143, c149, h84, h143]⟩)
            · have c149 := b2i1 c149
              refine lv_aload_n hx hb d_Pc_doOne_152 rfl (lv_at hl 4 rfl) ?_
              refine cx_V (n := 0) (C := R_In) (As := []) (rest := [.ref (gad G 0)]) ⟨hx, hb, hml, hown, fun _ h9 => nomatch h9⟩ (K_In_target g (sI (beF (gwF ((cmF σ ((cI σ 0) / 4)).2) (cI ((cmF σ ((cI σ 0) / 4)).2) 0) (jdF ((cmF σ ((cI σ 0) / 4)).2) (cQ ((cmF σ ((cI σ 0) / 4)).2) ((cP σ 0) (cI σ 0).toNatClampNeg)))) (cQ ((cmF σ ((cI σ 0) / 4)).2) ((cP σ 0) (cI σ 0).toNatClampNeg)) ((cmF σ ((cI σ 0) / 4)).1) false false) 2 ((cI (beF (gwF ((cmF σ ((cI σ 0) / 4)).2) (cI ((cmF σ ((cI σ 0) / 4)).2) 0) (jdF ((cmF σ ((cI σ 0) / 4)).2) (cQ ((cmF σ ((cI σ 0) / 4)).2) ((cP σ 0) (cI σ 0).toNatClampNeg)))) (cQ ((cmF σ ((cI σ 0) / 4)).2) ((cP σ 0) (cI σ 0).toNatClampNeg)) ((cmF σ ((cI σ 0) / 4)).1) false false) 2) + 1)) (w.2.1 _ (vp_lt w.1))) (k_531 hT) (k_238 hT) (k_239 hT) (k_240 hT) (k_8 hT) rfl (by decide +kernel) (va_recv hK hP (ci := 3) (q0 := 19 + ((cP σ 0) (cI σ 0).toNatClampNeg)) rfl (cw_in (w.2.1 _ (vp_lt w.1)))) (hc.at g hS hP) ⟨by decide, by decide⟩ ⟨by decide, by decide⟩ hl.1 (Nat.le_of_ble_eq_true rfl) d_Pc_doOne_153 (fun _ h9 => h9) hS (fun _ _ _ _ _ _ _ h9 => h9.elim) (fun v t H locs ht9 hRt hz hk hS => ?_)
              obtain ⟨r, u, rfl, ⟨er, eu⟩, hP⟩ := hRt
              subst er
              rw [eu, ht9] at hP
              have e10 : cQ (sI (beF (gwF ((cmF σ ((cI σ 0) / 4)).2) (cI ((cmF σ ((cI σ 0) / 4)).2) 0) (jdF ((cmF σ ((cI σ 0) / 4)).2) (cQ ((cmF σ ((cI σ 0) / 4)).2) ((cP σ 0) (cI σ 0).toNatClampNeg)))) (cQ ((cmF σ ((cI σ 0) / 4)).2) ((cP σ 0) (cI σ 0).toNatClampNeg)) ((cmF σ ((cI σ 0) / 4)).1) false false) 2 ((cI (beF (gwF ((cmF σ ((cI σ 0) / 4)).2) (cI ((cmF σ ((cI σ 0) / 4)).2) 0) (jdF ((cmF σ ((cI σ 0) / 4)).2) (cQ ((cmF σ ((cI σ 0) / 4)).2) ((cP σ 0) (cI σ 0).toNatClampNeg)))) (cQ ((cmF σ ((cI σ 0) / 4)).2) ((cP σ 0) (cI σ 0).toNatClampNeg)) ((cmF σ ((cI σ 0) / 4)).1) false false) 2) + 1)) = cQ ((cmF σ ((cI σ 0) / 4)).2) := by first | rfl | simp only [cQ_sI, beF_Q, eq9]
              rw [e10]
              have hD : va_D (gA G) (cw G (sI (beF (gwF ((cmF σ ((cI σ 0) / 4)).2) (cI ((cmF σ ((cI σ 0) / 4)).2) 0) (jdF ((cmF σ ((cI σ 0) / 4)).2) (cQ ((cmF σ ((cI σ 0) / 4)).2) ((cP σ 0) (cI σ 0).toNatClampNeg)))) (cQ ((cmF σ ((cI σ 0) / 4)).2) ((cP σ 0) (cI σ 0).toNatClampNeg)) ((cmF σ ((cI σ 0) / 4)).1) false false) 2 ((cI (beF (gwF ((cmF σ ((cI σ 0) / 4)).2) (cI ((cmF σ ((cI σ 0) / 4)).2) 0) (jdF ((cmF σ ((cI σ 0) / 4)).2) (cQ ((cmF σ ((cI σ 0) / 4)).2) ((cP σ 0) (cI σ 0).toNatClampNeg)))) (cQ ((cmF σ ((cI σ 0) / 4)).2) ((cP σ 0) (cI σ 0).toNatClampNeg)) ((cmF σ ((cI σ 0) / 4)).1) false false) 2) + 1))) := g.d
              refine W.eq (g2 := F0 m 156 ls [.int (flm (cQ ((cmF σ ((cI σ 0) / 4)).2) ((cP σ 0) (cI σ 0).toNatClampNeg) 4) 24), .ref (gad G 0)]) rfl ?_
              refine lv_goto (tgt := 168) hx hb d_Pc_doOne_156 (by decide) ?_
              refine va_put (D := gD G) (ci := 6) (v := .int (flm (cQ ((cmF σ ((cI σ 0) / 4)).2) ((cP σ 0) (cI σ 0).toNatClampNeg) 4) 24)) (ty := .int) (C := R_Pc) (T := F_Pc) (N := 12) hx hb (wl_Pc hT) (fun _ h9 => h9) fy_Pc fy_Pc_ok fn_Pc hown hK hP hD hS 0 rfl rfl 9 (by decide) (k_188 hT) (fun _ h9 => h9) rfl (by decide +kernel) rfl rfl (Nat.le_of_ble_eq_true rfl) d_Pc_doOne_168 (fun H locs hP hD hS => ?_)
              have hP : va_P (gD G) classes (cw G (sI (sI (beF (gwF ((cmF σ ((cI σ 0) / 4)).2) (cI ((cmF σ ((cI σ 0) / 4)).2) 0) (jdF ((cmF σ ((cI σ 0) / 4)).2) (cQ ((cmF σ ((cI σ 0) / 4)).2) ((cP σ 0) (cI σ 0).toNatClampNeg)))) (cQ ((cmF σ ((cI σ 0) / 4)).2) ((cP σ 0) (cI σ 0).toNatClampNeg)) ((cmF σ ((cI σ 0) / 4)).1) false false) 2 ((cI (beF (gwF ((cmF σ ((cI σ 0) / 4)).2) (cI ((cmF σ ((cI σ 0) / 4)).2) 0) (jdF ((cmF σ ((cI σ 0) / 4)).2) (cQ ((cmF σ ((cI σ 0) / 4)).2) ((cP σ 0) (cI σ 0).toNatClampNeg)))) (cQ ((cmF σ ((cI σ 0) / 4)).2) ((cP σ 0) (cI σ 0).toNatClampNeg)) ((cmF σ ((cI σ 0) / 4)).1) false false) 2) + 1)) 0 (flm (cQ ((cmF σ ((cI σ 0) / 4)).2) ((cP σ 0) (cI σ 0).toNatClampNeg) 4) 24))) H := hP
              have hD : va_D (gA G) (cw G (sI (sI (beF (gwF ((cmF σ ((cI σ 0) / 4)).2) (cI ((cmF σ ((cI σ 0) / 4)).2) 0) (jdF ((cmF σ ((cI σ 0) / 4)).2) (cQ ((cmF σ ((cI σ 0) / 4)).2) ((cP σ 0) (cI σ 0).toNatClampNeg)))) (cQ ((cmF σ ((cI σ 0) / 4)).2) ((cP σ 0) (cI σ 0).toNatClampNeg)) ((cmF σ ((cI σ 0) / 4)).1) false false) 2 ((cI (beF (gwF ((cmF σ ((cI σ 0) / 4)).2) (cI ((cmF σ ((cI σ 0) / 4)).2) 0) (jdF ((cmF σ ((cI σ 0) / 4)).2) (cQ ((cmF σ ((cI σ 0) / 4)).2) ((cP σ 0) (cI σ 0).toNatClampNeg)))) (cQ ((cmF σ ((cI σ 0) / 4)).2) ((cP σ 0) (cI σ 0).toNatClampNeg)) ((cmF σ ((cI σ 0) / 4)).1) false false) 2) + 1)) 0 (flm (cQ ((cmF σ ((cI σ 0) / 4)).2) ((cP σ 0) (cI σ 0).toNatClampNeg) 4) 24))) := g.d
              exact end_v (u := (sI (sI (beF (gwF ((cmF σ ((cI σ 0) / 4)).2) (cI ((cmF σ ((cI σ 0) / 4)).2) 0) (jdF ((cmF σ ((cI σ 0) / 4)).2) (cQ ((cmF σ ((cI σ 0) / 4)).2) ((cP σ 0) (cI σ 0).toNatClampNeg)))) (cQ ((cmF σ ((cI σ 0) / 4)).2) ((cP σ 0) (cI σ 0).toNatClampNeg)) ((cmF σ ((cI σ 0) / 4)).1) false false) 2 ((cI (beF (gwF ((cmF σ ((cI σ 0) / 4)).2) (cI ((cmF σ ((cI σ 0) / 4)).2) 0) (jdF ((cmF σ ((cI σ 0) / 4)).2) (cQ ((cmF σ ((cI σ 0) / 4)).2) ((cP σ 0) (cI σ 0).toNatClampNeg)))) (cQ ((cmF σ ((cI σ 0) / 4)).2) ((cP σ 0) (cI σ 0).toNatClampNeg)) ((cmF σ ((cI σ 0) / 4)).1) false false) 2) + 1)) 0 (flm (cQ ((cmF σ ((cI σ 0) / 4)).2) ((cP σ 0) (cI σ 0).toNatClampNeg) 4) 24))) hx hb hr hlocks hS hP d_Pc_doOne_171 (⟨by simp [doF, doT, doG, doQ, dnF, ix, c36, c52, c68, c84, c143, c149], by have h84 := c84; rw [c149] at h84; have h143 := c143; rw [c149] at h143; simp [doF, doT, doG, doQ, dnF, ix, c36, c52, c68, c84, c143, c149, h84, h143]⟩)
        · have c84 := b2i1 c84
          refine lv_iconst (v := 1) hx hb d_Pc_doOne_87 (by decide) ?_
          refine lv_goto (tgt := 92) hx hb d_Pc_doOne_88 (by decide) ?_
          refine lv_istore (lv' := [(5, .int 1), (4, .int (b2i (jdF ((cmF σ ((cI σ 0) / 4)).2) (cQ ((cmF σ ((cI σ 0) / 4)).2) ((cP σ 0) (cI σ 0).toNatClampNeg))))), (3, .int 0), (2, .int (b2i (cmF σ ((cI σ 0) / 4)).1)), (1, .ref (gia G ((cP σ 0) (cI σ 0).toNatClampNeg))), (0, .ref (gad G 0))]) hx hb d_Pc_doOne_92 hl (by decide) rfl (fun ls hl => ?_)
          refine lv_goto (tgt := 117) hx hb d_Pc_doOne_94 (by decide) ?_
          have eq9 : cQ (gwF ((cmF σ ((cI σ 0) / 4)).2) (cI ((cmF σ ((cI σ 0) / 4)).2) 0) (jdF ((cmF σ ((cI σ 0) / 4)).2) (cQ ((cmF σ ((cI σ 0) / 4)).2) ((cP σ 0) (cI σ 0).toNatClampNeg)))) = cQ ((cmF σ ((cI σ 0) / 4)).2) := by first | rfl | simp only [dmF_Q, mvF_Q, gwF_Q, cpF_Q, cQ_sI]
          refine lv_aload_n hx hb d_Pc_doOne_117 rfl (lv_at hl 5 rfl) ?_
          refine va_get (D := gD G) (ci := 6) (v := .ref (gad G 5)) (C := R_Pc) (T := F_Pc) (N := 12) hx hb (wl_Pc hT) (fun _ h9 => h9) hown hK hP 0 rfl rfl 4 (by decide) (k_183 hT) (fun _ h9 => h9) rfl d_Pc_doOne_118 ?_
          refine lv_aload_n hx hb d_Pc_doOne_121 rfl (lv_at hl 4 rfl) ?_
          refine lv_iload_n hx hb d_Pc_doOne_122 rfl (lv_at hl 3 rfl) ?_
          refine lv_iload_n hx hb d_Pc_doOne_123 rfl (lv_at hl 2 rfl) ?_
          refine lv_iload hx hb d_Pc_doOne_124 (lv_at hl 0 rfl) ?_
          refine cx_V (n := 4) (C := R_Ck) (As := [.ref (gia G ((cP σ 0) (cI σ 0).toNatClampNeg)), .int (b2i (cmF σ ((cI σ 0) / 4)).1), .int 0, .int 1]) (rest := []) ⟨hx, hb, hml, hown, fun _ h9 => nomatch h9⟩ (K_Ck_begin g (gwF ((cmF σ ((cI σ 0) / 4)).2) (cI ((cmF σ ((cI σ 0) / 4)).2) 0) (jdF ((cmF σ ((cI σ 0) / 4)).2) (cQ ((cmF σ ((cI σ 0) / 4)).2) ((cP σ 0) (cI σ 0).toNatClampNeg)))) (w.2.1 _ (vp_lt w.1)) (by rw [eq9]; exact hok) ((cmF σ ((cI σ 0) / 4)).1) false true) (k_516 hT) (k_517 hT) (k_518 hT) (k_519 hT) (k_2 hT) rfl (by decide +kernel) (va_recv hK hP (ci := 0) (q0 := 5) rfl rfl) (hc.at g hS hP) ⟨by decide, by decide⟩ ⟨by decide, by decide⟩ hl.1 (Nat.le_of_ble_eq_true rfl) d_Pc_doOne_126 (fun _ h9 => h9) hS (fun _ _ _ _ _ _ _ h9 => h9.elim) (fun v t H locs ht9 hRt hz hk hS => ?_)
          obtain ⟨u, rfl, eu, hP⟩ := hRt
          rw [eu, ht9] at hP
          rw [eq9] at hP
          have hD : va_D (gA G) (cw G (beF (gwF ((cmF σ ((cI σ 0) / 4)).2) (cI ((cmF σ ((cI σ 0) / 4)).2) 0) (jdF ((cmF σ ((cI σ 0) / 4)).2) (cQ ((cmF σ ((cI σ 0) / 4)).2) ((cP σ 0) (cI σ 0).toNatClampNeg)))) (cQ ((cmF σ ((cI σ 0) / 4)).2) ((cP σ 0) (cI σ 0).toNatClampNeg)) ((cmF σ ((cI σ 0) / 4)).1) false true)) := g.d
          refine W.eq (g2 := F0 m 129 ls []) rfl ?_
          refine lv_aload_n hx hb d_Pc_doOne_129 rfl (lv_at hl 5 rfl) ?_
          refine lv_dup hx hb d_Pc_doOne_130 rfl ?_
          refine va_get (D := gD G) (ci := 6) (v := .int (cI (beF (gwF ((cmF σ ((cI σ 0) / 4)).2) (cI ((cmF σ ((cI σ 0) / 4)).2) 0) (jdF ((cmF σ ((cI σ 0) / 4)).2) (cQ ((cmF σ ((cI σ 0) / 4)).2) ((cP σ 0) (cI σ 0).toNatClampNeg)))) (cQ ((cmF σ ((cI σ 0) / 4)).2) ((cP σ 0) (cI σ 0).toNatClampNeg)) ((cmF σ ((cI σ 0) / 4)).1) false true) 2)) (C := R_Pc) (T := F_Pc) (N := 12) hx hb (wl_Pc hT) (fun _ h9 => h9) hown hK hP 0 rfl rfl 11 (by decide) (k_190 hT) (fun _ h9 => h9) rfl d_Pc_doOne_131 ?_
          refine lv_iconst (v := 1) hx hb d_Pc_doOne_134 (by decide) ?_
          refine lv_iadd hx hb d_Pc_doOne_135 ?_
          refine va_put (D := gD G) (ci := 6) (v := .int ((cI (beF (gwF ((cmF σ ((cI σ 0) / 4)).2) (cI ((cmF σ ((cI σ 0) / 4)).2) 0) (jdF ((cmF σ ((cI σ 0) / 4)).2) (cQ ((cmF σ ((cI σ 0) / 4)).2) ((cP σ 0) (cI σ 0).toNatClampNeg)))) (cQ ((cmF σ ((cI σ 0) / 4)).2) ((cP σ 0) (cI σ 0).toNatClampNeg)) ((cmF σ ((cI σ 0) / 4)).1) false true) 2) + 1)) (ty := .int) (C := R_Pc) (T := F_Pc) (N := 12) hx hb (wl_Pc hT) (fun _ h9 => h9) fy_Pc fy_Pc_ok fn_Pc hown hK hP hD hS 0 rfl rfl 11 (by decide) (k_190 hT) (fun _ h9 => h9) rfl (by decide +kernel) rfl rfl (Nat.le_of_ble_eq_true rfl) d_Pc_doOne_136 (fun H locs hP hD hS => ?_)
          have hP : va_P (gD G) classes (cw G (sI (beF (gwF ((cmF σ ((cI σ 0) / 4)).2) (cI ((cmF σ ((cI σ 0) / 4)).2) 0) (jdF ((cmF σ ((cI σ 0) / 4)).2) (cQ ((cmF σ ((cI σ 0) / 4)).2) ((cP σ 0) (cI σ 0).toNatClampNeg)))) (cQ ((cmF σ ((cI σ 0) / 4)).2) ((cP σ 0) (cI σ 0).toNatClampNeg)) ((cmF σ ((cI σ 0) / 4)).1) false true) 2 ((cI (beF (gwF ((cmF σ ((cI σ 0) / 4)).2) (cI ((cmF σ ((cI σ 0) / 4)).2) 0) (jdF ((cmF σ ((cI σ 0) / 4)).2) (cQ ((cmF σ ((cI σ 0) / 4)).2) ((cP σ 0) (cI σ 0).toNatClampNeg)))) (cQ ((cmF σ ((cI σ 0) / 4)).2) ((cP σ 0) (cI σ 0).toNatClampNeg)) ((cmF σ ((cI σ 0) / 4)).1) false true) 2) + 1))) H := hP
          have hD : va_D (gA G) (cw G (sI (beF (gwF ((cmF σ ((cI σ 0) / 4)).2) (cI ((cmF σ ((cI σ 0) / 4)).2) 0) (jdF ((cmF σ ((cI σ 0) / 4)).2) (cQ ((cmF σ ((cI σ 0) / 4)).2) ((cP σ 0) (cI σ 0).toNatClampNeg)))) (cQ ((cmF σ ((cI σ 0) / 4)).2) ((cP σ 0) (cI σ 0).toNatClampNeg)) ((cmF σ ((cI σ 0) / 4)).1) false true) 2 ((cI (beF (gwF ((cmF σ ((cI σ 0) / 4)).2) (cI ((cmF σ ((cI σ 0) / 4)).2) 0) (jdF ((cmF σ ((cI σ 0) / 4)).2) (cQ ((cmF σ ((cI σ 0) / 4)).2) ((cP σ 0) (cI σ 0).toNatClampNeg)))) (cQ ((cmF σ ((cI σ 0) / 4)).2) ((cP σ 0) (cI σ 0).toNatClampNeg)) ((cmF σ ((cI σ 0) / 4)).1) false true) 2) + 1))) := g.d
          refine lv_aload_n hx hb d_Pc_doOne_139 rfl (lv_at hl 5 rfl) ?_
          refine va_get (D := gD G) (ci := 6) (v := .int (cI (beF (gwF ((cmF σ ((cI σ 0) / 4)).2) (cI ((cmF σ ((cI σ 0) / 4)).2) 0) (jdF ((cmF σ ((cI σ 0) / 4)).2) (cQ ((cmF σ ((cI σ 0) / 4)).2) ((cP σ 0) (cI σ 0).toNatClampNeg)))) (cQ ((cmF σ ((cI σ 0) / 4)).2) ((cP σ 0) (cI σ 0).toNatClampNeg)) ((cmF σ ((cI σ 0) / 4)).1) false true) 1)) (C := R_Pc) (T := F_Pc) (N := 12) hx hb (wl_Pc hT) (fun _ h9 => h9) hown hK hP 0 rfl rfl 10 (by decide) (k_189 hT) (fun _ h9 => h9) rfl d_Pc_doOne_140 ?_
          refine lv_if_ne (tgt := 171) hx hb d_Pc_doOne_143 (by decide) (fun c143 => ?_) (fun c143 => ?_)
          · exact end_v (u := (sI (beF (gwF ((cmF σ ((cI σ 0) / 4)).2) (cI ((cmF σ ((cI σ 0) / 4)).2) 0) (jdF ((cmF σ ((cI σ 0) / 4)).2) (cQ ((cmF σ ((cI σ 0) / 4)).2) ((cP σ 0) (cI σ 0).toNatClampNeg)))) (cQ ((cmF σ ((cI σ 0) / 4)).2) ((cP σ 0) (cI σ 0).toNatClampNeg)) ((cmF σ ((cI σ 0) / 4)).1) false true) 2 ((cI (beF (gwF ((cmF σ ((cI σ 0) / 4)).2) (cI ((cmF σ ((cI σ 0) / 4)).2) 0) (jdF ((cmF σ ((cI σ 0) / 4)).2) (cQ ((cmF σ ((cI σ 0) / 4)).2) ((cP σ 0) (cI σ 0).toNatClampNeg)))) (cQ ((cmF σ ((cI σ 0) / 4)).2) ((cP σ 0) (cI σ 0).toNatClampNeg)) ((cmF σ ((cI σ 0) / 4)).1) false true) 2) + 1))) hx hb hr hlocks hS hP d_Pc_doOne_171 (⟨by simp [doF, doT, doG, doQ, dnF, ix, c36, c52, c68, c84, c143], by simp [doF, doT, doG, doQ, dnF, ix, c36, c52, c68, c84, c143]⟩)
          · refine lv_aload_n hx hb d_Pc_doOne_146 rfl (lv_at hl 5 rfl) ?_
            refine lv_iload hx hb d_Pc_doOne_147 (lv_at hl 1 rfl) ?_
            refine lv_if_eq (tgt := 159) hx hb d_Pc_doOne_149 (by decide) (fun c149 => ?_) (fun c149 => ?_)
            · have c149 := b2i0 c149
              refine lv_aload_n hx hb d_Pc_doOne_159 rfl (lv_at hl 5 rfl) ?_
              refine va_get (D := gD G) (ci := 6) (v := .int (cI (beF (gwF ((cmF σ ((cI σ 0) / 4)).2) (cI ((cmF σ ((cI σ 0) / 4)).2) 0) (jdF ((cmF σ ((cI σ 0) / 4)).2) (cQ ((cmF σ ((cI σ 0) / 4)).2) ((cP σ 0) (cI σ 0).toNatClampNeg)))) (cQ ((cmF σ ((cI σ 0) / 4)).2) ((cP σ 0) (cI σ 0).toNatClampNeg)) ((cmF σ ((cI σ 0) / 4)).1) false true) 0)) (C := R_Pc) (T := F_Pc) (N := 12) hx hb (wl_Pc hT) (fun _ h9 => h9) hown hK hP 0 rfl rfl 9 (by decide) (k_188 hT) (fun _ h9 => h9) rfl d_Pc_doOne_160 ?_
              refine lv_iconst (v := 1) hx hb d_Pc_doOne_163 (by decide) ?_
              refine lv_iadd hx hb d_Pc_doOne_164 ?_
              refine lv_bipush (v := 24) hx hb d_Pc_doOne_165 (by decide) ?_
              refine lv_irem hx hb d_Pc_doOne_167 (by decide) ?_
              refine va_put (D := gD G) (ci := 6) (v := .int (((cI (beF (gwF ((cmF σ ((cI σ 0) / 4)).2) (cI ((cmF σ ((cI σ 0) / 4)).2) 0) (jdF ((cmF σ ((cI σ 0) / 4)).2) (cQ ((cmF σ ((cI σ 0) / 4)).2) ((cP σ 0) (cI σ 0).toNatClampNeg)))) (cQ ((cmF σ ((cI σ 0) / 4)).2) ((cP σ 0) (cI σ 0).toNatClampNeg)) ((cmF σ ((cI σ 0) / 4)).1) false true) 0) + 1) - ((cI (beF (gwF ((cmF σ ((cI σ 0) / 4)).2) (cI ((cmF σ ((cI σ 0) / 4)).2) 0) (jdF ((cmF σ ((cI σ 0) / 4)).2) (cQ ((cmF σ ((cI σ 0) / 4)).2) ((cP σ 0) (cI σ 0).toNatClampNeg)))) (cQ ((cmF σ ((cI σ 0) / 4)).2) ((cP σ 0) (cI σ 0).toNatClampNeg)) ((cmF σ ((cI σ 0) / 4)).1) false true) 0) + 1) / 24 * 24)) (ty := .int) (C := R_Pc) (T := F_Pc) (N := 12) hx hb (wl_Pc hT) (fun _ h9 => h9) fy_Pc fy_Pc_ok fn_Pc hown hK hP hD hS 0 rfl rfl 9 (by decide) (k_188 hT) (fun _ h9 => h9) rfl (by decide +kernel) rfl rfl (Nat.le_of_ble_eq_true rfl) d_Pc_doOne_168 (fun H locs hP hD hS => ?_)
              have hP : va_P (gD G) classes (cw G (sI (sI (beF (gwF ((cmF σ ((cI σ 0) / 4)).2) (cI ((cmF σ ((cI σ 0) / 4)).2) 0) (jdF ((cmF σ ((cI σ 0) / 4)).2) (cQ ((cmF σ ((cI σ 0) / 4)).2) ((cP σ 0) (cI σ 0).toNatClampNeg)))) (cQ ((cmF σ ((cI σ 0) / 4)).2) ((cP σ 0) (cI σ 0).toNatClampNeg)) ((cmF σ ((cI σ 0) / 4)).1) false true) 2 ((cI (beF (gwF ((cmF σ ((cI σ 0) / 4)).2) (cI ((cmF σ ((cI σ 0) / 4)).2) 0) (jdF ((cmF σ ((cI σ 0) / 4)).2) (cQ ((cmF σ ((cI σ 0) / 4)).2) ((cP σ 0) (cI σ 0).toNatClampNeg)))) (cQ ((cmF σ ((cI σ 0) / 4)).2) ((cP σ 0) (cI σ 0).toNatClampNeg)) ((cmF σ ((cI σ 0) / 4)).1) false true) 2) + 1)) 0 (((cI (beF (gwF ((cmF σ ((cI σ 0) / 4)).2) (cI ((cmF σ ((cI σ 0) / 4)).2) 0) (jdF ((cmF σ ((cI σ 0) / 4)).2) (cQ ((cmF σ ((cI σ 0) / 4)).2) ((cP σ 0) (cI σ 0).toNatClampNeg)))) (cQ ((cmF σ ((cI σ 0) / 4)).2) ((cP σ 0) (cI σ 0).toNatClampNeg)) ((cmF σ ((cI σ 0) / 4)).1) false true) 0) + 1) - ((cI (beF (gwF ((cmF σ ((cI σ 0) / 4)).2) (cI ((cmF σ ((cI σ 0) / 4)).2) 0) (jdF ((cmF σ ((cI σ 0) / 4)).2) (cQ ((cmF σ ((cI σ 0) / 4)).2) ((cP σ 0) (cI σ 0).toNatClampNeg)))) (cQ ((cmF σ ((cI σ 0) / 4)).2) ((cP σ 0) (cI σ 0).toNatClampNeg)) ((cmF σ ((cI σ 0) / 4)).1) false true) 0) + 1) / 24 * 24))) H := hP
              have hD : va_D (gA G) (cw G (sI (sI (beF (gwF ((cmF σ ((cI σ 0) / 4)).2) (cI ((cmF σ ((cI σ 0) / 4)).2) 0) (jdF ((cmF σ ((cI σ 0) / 4)).2) (cQ ((cmF σ ((cI σ 0) / 4)).2) ((cP σ 0) (cI σ 0).toNatClampNeg)))) (cQ ((cmF σ ((cI σ 0) / 4)).2) ((cP σ 0) (cI σ 0).toNatClampNeg)) ((cmF σ ((cI σ 0) / 4)).1) false true) 2 ((cI (beF (gwF ((cmF σ ((cI σ 0) / 4)).2) (cI ((cmF σ ((cI σ 0) / 4)).2) 0) (jdF ((cmF σ ((cI σ 0) / 4)).2) (cQ ((cmF σ ((cI σ 0) / 4)).2) ((cP σ 0) (cI σ 0).toNatClampNeg)))) (cQ ((cmF σ ((cI σ 0) / 4)).2) ((cP σ 0) (cI σ 0).toNatClampNeg)) ((cmF σ ((cI σ 0) / 4)).1) false true) 2) + 1)) 0 (((cI (beF (gwF ((cmF σ ((cI σ 0) / 4)).2) (cI ((cmF σ ((cI σ 0) / 4)).2) 0) (jdF ((cmF σ ((cI σ 0) / 4)).2) (cQ ((cmF σ ((cI σ 0) / 4)).2) ((cP σ 0) (cI σ 0).toNatClampNeg)))) (cQ ((cmF σ ((cI σ 0) / 4)).2) ((cP σ 0) (cI σ 0).toNatClampNeg)) ((cmF σ ((cI σ 0) / 4)).1) false true) 0) + 1) - ((cI (beF (gwF ((cmF σ ((cI σ 0) / 4)).2) (cI ((cmF σ ((cI σ 0) / 4)).2) 0) (jdF ((cmF σ ((cI σ 0) / 4)).2) (cQ ((cmF σ ((cI σ 0) / 4)).2) ((cP σ 0) (cI σ 0).toNatClampNeg)))) (cQ ((cmF σ ((cI σ 0) / 4)).2) ((cP σ 0) (cI σ 0).toNatClampNeg)) ((cmF σ ((cI σ 0) / 4)).1) false true) 0) + 1) / 24 * 24))) := g.d
              exact end_v (u := (sI (sI (beF (gwF ((cmF σ ((cI σ 0) / 4)).2) (cI ((cmF σ ((cI σ 0) / 4)).2) 0) (jdF ((cmF σ ((cI σ 0) / 4)).2) (cQ ((cmF σ ((cI σ 0) / 4)).2) ((cP σ 0) (cI σ 0).toNatClampNeg)))) (cQ ((cmF σ ((cI σ 0) / 4)).2) ((cP σ 0) (cI σ 0).toNatClampNeg)) ((cmF σ ((cI σ 0) / 4)).1) false true) 2 ((cI (beF (gwF ((cmF σ ((cI σ 0) / 4)).2) (cI ((cmF σ ((cI σ 0) / 4)).2) 0) (jdF ((cmF σ ((cI σ 0) / 4)).2) (cQ ((cmF σ ((cI σ 0) / 4)).2) ((cP σ 0) (cI σ 0).toNatClampNeg)))) (cQ ((cmF σ ((cI σ 0) / 4)).2) ((cP σ 0) (cI σ 0).toNatClampNeg)) ((cmF σ ((cI σ 0) / 4)).1) false true) 2) + 1)) 0 (((cI (beF (gwF ((cmF σ ((cI σ 0) / 4)).2) (cI ((cmF σ ((cI σ 0) / 4)).2) 0) (jdF ((cmF σ ((cI σ 0) / 4)).2) (cQ ((cmF σ ((cI σ 0) / 4)).2) ((cP σ 0) (cI σ 0).toNatClampNeg)))) (cQ ((cmF σ ((cI σ 0) / 4)).2) ((cP σ 0) (cI σ 0).toNatClampNeg)) ((cmF σ ((cI σ 0) / 4)).1) false true) 0) + 1) - ((cI (beF (gwF ((cmF σ ((cI σ 0) / 4)).2) (cI ((cmF σ ((cI σ 0) / 4)).2) 0) (jdF ((cmF σ ((cI σ 0) / 4)).2) (cQ ((cmF σ ((cI σ 0) / 4)).2) ((cP σ 0) (cI σ 0).toNatClampNeg)))) (cQ ((cmF σ ((cI σ 0) / 4)).2) ((cP σ 0) (cI σ 0).toNatClampNeg)) ((cmF σ ((cI σ 0) / 4)).1) false true) 0) + 1) / 24 * 24))) hx hb hr hlocks hS hP d_Pc_doOne_171 (⟨by simp [doF, doT, doG, doQ, dnF, ix, c36, c52, c68, c84, c143, c149], by have h84 := c84; rw [c149] at h84; have h143 := c143; rw [c149] at h143; simp [doF, doT, doG, doQ, dnF, ix, c36, c52, c68, c84, c143, c149, h84, h143]⟩)
            · have c149 := b2i1 c149
              refine lv_aload_n hx hb d_Pc_doOne_152 rfl (lv_at hl 4 rfl) ?_
              refine cx_V (n := 0) (C := R_In) (As := []) (rest := [.ref (gad G 0)]) ⟨hx, hb, hml, hown, fun _ h9 => nomatch h9⟩ (K_In_target g (sI (beF (gwF ((cmF σ ((cI σ 0) / 4)).2) (cI ((cmF σ ((cI σ 0) / 4)).2) 0) (jdF ((cmF σ ((cI σ 0) / 4)).2) (cQ ((cmF σ ((cI σ 0) / 4)).2) ((cP σ 0) (cI σ 0).toNatClampNeg)))) (cQ ((cmF σ ((cI σ 0) / 4)).2) ((cP σ 0) (cI σ 0).toNatClampNeg)) ((cmF σ ((cI σ 0) / 4)).1) false true) 2 ((cI (beF (gwF ((cmF σ ((cI σ 0) / 4)).2) (cI ((cmF σ ((cI σ 0) / 4)).2) 0) (jdF ((cmF σ ((cI σ 0) / 4)).2) (cQ ((cmF σ ((cI σ 0) / 4)).2) ((cP σ 0) (cI σ 0).toNatClampNeg)))) (cQ ((cmF σ ((cI σ 0) / 4)).2) ((cP σ 0) (cI σ 0).toNatClampNeg)) ((cmF σ ((cI σ 0) / 4)).1) false true) 2) + 1)) (w.2.1 _ (vp_lt w.1))) (k_531 hT) (k_238 hT) (k_239 hT) (k_240 hT) (k_8 hT) rfl (by decide +kernel) (va_recv hK hP (ci := 3) (q0 := 19 + ((cP σ 0) (cI σ 0).toNatClampNeg)) rfl (cw_in (w.2.1 _ (vp_lt w.1)))) (hc.at g hS hP) ⟨by decide, by decide⟩ ⟨by decide, by decide⟩ hl.1 (Nat.le_of_ble_eq_true rfl) d_Pc_doOne_153 (fun _ h9 => h9) hS (fun _ _ _ _ _ _ _ h9 => h9.elim) (fun v t H locs ht9 hRt hz hk hS => ?_)
              obtain ⟨r, u, rfl, ⟨er, eu⟩, hP⟩ := hRt
              subst er
              rw [eu, ht9] at hP
              have e10 : cQ (sI (beF (gwF ((cmF σ ((cI σ 0) / 4)).2) (cI ((cmF σ ((cI σ 0) / 4)).2) 0) (jdF ((cmF σ ((cI σ 0) / 4)).2) (cQ ((cmF σ ((cI σ 0) / 4)).2) ((cP σ 0) (cI σ 0).toNatClampNeg)))) (cQ ((cmF σ ((cI σ 0) / 4)).2) ((cP σ 0) (cI σ 0).toNatClampNeg)) ((cmF σ ((cI σ 0) / 4)).1) false true) 2 ((cI (beF (gwF ((cmF σ ((cI σ 0) / 4)).2) (cI ((cmF σ ((cI σ 0) / 4)).2) 0) (jdF ((cmF σ ((cI σ 0) / 4)).2) (cQ ((cmF σ ((cI σ 0) / 4)).2) ((cP σ 0) (cI σ 0).toNatClampNeg)))) (cQ ((cmF σ ((cI σ 0) / 4)).2) ((cP σ 0) (cI σ 0).toNatClampNeg)) ((cmF σ ((cI σ 0) / 4)).1) false true) 2) + 1)) = cQ ((cmF σ ((cI σ 0) / 4)).2) := by first | rfl | simp only [cQ_sI, beF_Q, eq9]
              rw [e10]
              have hD : va_D (gA G) (cw G (sI (beF (gwF ((cmF σ ((cI σ 0) / 4)).2) (cI ((cmF σ ((cI σ 0) / 4)).2) 0) (jdF ((cmF σ ((cI σ 0) / 4)).2) (cQ ((cmF σ ((cI σ 0) / 4)).2) ((cP σ 0) (cI σ 0).toNatClampNeg)))) (cQ ((cmF σ ((cI σ 0) / 4)).2) ((cP σ 0) (cI σ 0).toNatClampNeg)) ((cmF σ ((cI σ 0) / 4)).1) false true) 2 ((cI (beF (gwF ((cmF σ ((cI σ 0) / 4)).2) (cI ((cmF σ ((cI σ 0) / 4)).2) 0) (jdF ((cmF σ ((cI σ 0) / 4)).2) (cQ ((cmF σ ((cI σ 0) / 4)).2) ((cP σ 0) (cI σ 0).toNatClampNeg)))) (cQ ((cmF σ ((cI σ 0) / 4)).2) ((cP σ 0) (cI σ 0).toNatClampNeg)) ((cmF σ ((cI σ 0) / 4)).1) false true) 2) + 1))) := g.d
              refine W.eq (g2 := F0 m 156 ls [.int (flm (cQ ((cmF σ ((cI σ 0) / 4)).2) ((cP σ 0) (cI σ 0).toNatClampNeg) 4) 24), .ref (gad G 0)]) rfl ?_
              refine lv_goto (tgt := 168) hx hb d_Pc_doOne_156 (by decide) ?_
              refine va_put (D := gD G) (ci := 6) (v := .int (flm (cQ ((cmF σ ((cI σ 0) / 4)).2) ((cP σ 0) (cI σ 0).toNatClampNeg) 4) 24)) (ty := .int) (C := R_Pc) (T := F_Pc) (N := 12) hx hb (wl_Pc hT) (fun _ h9 => h9) fy_Pc fy_Pc_ok fn_Pc hown hK hP hD hS 0 rfl rfl 9 (by decide) (k_188 hT) (fun _ h9 => h9) rfl (by decide +kernel) rfl rfl (Nat.le_of_ble_eq_true rfl) d_Pc_doOne_168 (fun H locs hP hD hS => ?_)
              have hP : va_P (gD G) classes (cw G (sI (sI (beF (gwF ((cmF σ ((cI σ 0) / 4)).2) (cI ((cmF σ ((cI σ 0) / 4)).2) 0) (jdF ((cmF σ ((cI σ 0) / 4)).2) (cQ ((cmF σ ((cI σ 0) / 4)).2) ((cP σ 0) (cI σ 0).toNatClampNeg)))) (cQ ((cmF σ ((cI σ 0) / 4)).2) ((cP σ 0) (cI σ 0).toNatClampNeg)) ((cmF σ ((cI σ 0) / 4)).1) false true) 2 ((cI (beF (gwF ((cmF σ ((cI σ 0) / 4)).2) (cI ((cmF σ ((cI σ 0) / 4)).2) 0) (jdF ((cmF σ ((cI σ 0) / 4)).2) (cQ ((cmF σ ((cI σ 0) / 4)).2) ((cP σ 0) (cI σ 0).toNatClampNeg)))) (cQ ((cmF σ ((cI σ 0) / 4)).2) ((cP σ 0) (cI σ 0).toNatClampNeg)) ((cmF σ ((cI σ 0) / 4)).1) false true) 2) + 1)) 0 (flm (cQ ((cmF σ ((cI σ 0) / 4)).2) ((cP σ 0) (cI σ 0).toNatClampNeg) 4) 24))) H := hP
              have hD : va_D (gA G) (cw G (sI (sI (beF (gwF ((cmF σ ((cI σ 0) / 4)).2) (cI ((cmF σ ((cI σ 0) / 4)).2) 0) (jdF ((cmF σ ((cI σ 0) / 4)).2) (cQ ((cmF σ ((cI σ 0) / 4)).2) ((cP σ 0) (cI σ 0).toNatClampNeg)))) (cQ ((cmF σ ((cI σ 0) / 4)).2) ((cP σ 0) (cI σ 0).toNatClampNeg)) ((cmF σ ((cI σ 0) / 4)).1) false true) 2 ((cI (beF (gwF ((cmF σ ((cI σ 0) / 4)).2) (cI ((cmF σ ((cI σ 0) / 4)).2) 0) (jdF ((cmF σ ((cI σ 0) / 4)).2) (cQ ((cmF σ ((cI σ 0) / 4)).2) ((cP σ 0) (cI σ 0).toNatClampNeg)))) (cQ ((cmF σ ((cI σ 0) / 4)).2) ((cP σ 0) (cI σ 0).toNatClampNeg)) ((cmF σ ((cI σ 0) / 4)).1) false true) 2) + 1)) 0 (flm (cQ ((cmF σ ((cI σ 0) / 4)).2) ((cP σ 0) (cI σ 0).toNatClampNeg) 4) 24))) := g.d
              exact end_v (u := (sI (sI (beF (gwF ((cmF σ ((cI σ 0) / 4)).2) (cI ((cmF σ ((cI σ 0) / 4)).2) 0) (jdF ((cmF σ ((cI σ 0) / 4)).2) (cQ ((cmF σ ((cI σ 0) / 4)).2) ((cP σ 0) (cI σ 0).toNatClampNeg)))) (cQ ((cmF σ ((cI σ 0) / 4)).2) ((cP σ 0) (cI σ 0).toNatClampNeg)) ((cmF σ ((cI σ 0) / 4)).1) false true) 2 ((cI (beF (gwF ((cmF σ ((cI σ 0) / 4)).2) (cI ((cmF σ ((cI σ 0) / 4)).2) 0) (jdF ((cmF σ ((cI σ 0) / 4)).2) (cQ ((cmF σ ((cI σ 0) / 4)).2) ((cP σ 0) (cI σ 0).toNatClampNeg)))) (cQ ((cmF σ ((cI σ 0) / 4)).2) ((cP σ 0) (cI σ 0).toNatClampNeg)) ((cmF σ ((cI σ 0) / 4)).1) false true) 2) + 1)) 0 (flm (cQ ((cmF σ ((cI σ 0) / 4)).2) ((cP σ 0) (cI σ 0).toNatClampNeg) 4) 24))) hx hb hr hlocks hS hP d_Pc_doOne_171 (⟨by simp [doF, doT, doG, doQ, dnF, ix, c36, c52, c68, c84, c143, c149], by have h84 := c84; rw [c149] at h84; have h143 := c143; rw [c149] at h143; simp [doF, doT, doG, doQ, dnF, ix, c36, c52, c68, c84, c143, c149, h84, h143]⟩)
  · have c36 := b2i1 c36
    refine lv_aload_n hx hb d_Pc_doOne_39 rfl (lv_at hl 5 rfl) ?_
    refine lv_aload_n hx hb d_Pc_doOne_40 rfl (lv_at hl 4 rfl) ?_
    refine cx_V (n := 1) (C := R_Pc) (As := [.ref (gia G ((cP σ 0) (cI σ 0).toNatClampNeg))]) (rest := []) ⟨hx, hb, hml, hown, fun _ h9 => nomatch h9⟩ (K_Pc_moveCell g ((cmF σ ((cI σ 0) / 4)).2) (w.2.1 _ (vp_lt w.1)) hok) (k_439 hT) (k_441 hT) (ks_8 hT) (k_442 hT) (k_1 hT) rfl (by decide +kernel) (va_recv hK hP (ci := 6) (q0 := 0) rfl rfl) (hc.at g hS hP) ⟨by decide, by decide⟩ ⟨by decide, by decide⟩ hl.1 (Nat.le_of_ble_eq_true rfl) d_Pc_doOne_41 (fun _ h9 => h9) hS (fun E ce q t H1 locs ht9 hTx hz hk hS hce hcv hcl => ?_) (fun v t H locs ht9 hRt hz hk hS => ?_)
    · obtain ⟨u, hq, hP⟩ := hTx; rw [ht9] at hP; exact cx_out ht hlocks hce hcv hcl hS (fun t9 h9 _ => Tw.i (u := u) (⟨Or.inl ⟨hq.1, by simp [doF, doT, doQ, ix, hq.2.1, c36]⟩, by rw [hq.2.2]; simp [doF, doG, doQ, ix, hq.2.1, c36]⟩) (by rw [h9]; exact hP)) (by decide) (by decide)
    · obtain ⟨r, u, rfl, ⟨⟨hba, er⟩, eu⟩, hP⟩ := hRt
      subst er
      rw [eu, ht9] at hP
      have hD : va_D (gA G) (cw G ((dmF (mvF ((cmF σ ((cI σ 0) / 4)).2) (cQ ((cmF σ ((cI σ 0) / 4)).2) ((cP σ 0) (cI σ 0).toNatClampNeg)) (adF ((cmF σ ((cI σ 0) / 4)).2) (cQ ((cmF σ ((cI σ 0) / 4)).2) ((cP σ 0) (cI σ 0).toNatClampNeg)))) (adF ((cmF σ ((cI σ 0) / 4)).2) (cQ ((cmF σ ((cI σ 0) / 4)).2) ((cP σ 0) (cI σ 0).toNatClampNeg)) / 4)).2)) := g.d
      refine W.eq (g2 := F0 m 44 ls [.int (b2i (dmF (mvF ((cmF σ ((cI σ 0) / 4)).2) (cQ ((cmF σ ((cI σ 0) / 4)).2) ((cP σ 0) (cI σ 0).toNatClampNeg)) (adF ((cmF σ ((cI σ 0) / 4)).2) (cQ ((cmF σ ((cI σ 0) / 4)).2) ((cP σ 0) (cI σ 0).toNatClampNeg)))) (adF ((cmF σ ((cI σ 0) / 4)).2) (cQ ((cmF σ ((cI σ 0) / 4)).2) ((cP σ 0) (cI σ 0).toNatClampNeg)) / 4)).1)]) rfl ?_
      refine lv_istore_n (lv' := [(3, .int (b2i (dmF (mvF ((cmF σ ((cI σ 0) / 4)).2) (cQ ((cmF σ ((cI σ 0) / 4)).2) ((cP σ 0) (cI σ 0).toNatClampNeg)) (adF ((cmF σ ((cI σ 0) / 4)).2) (cQ ((cmF σ ((cI σ 0) / 4)).2) ((cP σ 0) (cI σ 0).toNatClampNeg)))) (adF ((cmF σ ((cI σ 0) / 4)).2) (cQ ((cmF σ ((cI σ 0) / 4)).2) ((cP σ 0) (cI σ 0).toNatClampNeg)) / 4)).1)), (5, .int 0), (4, .int 0), (2, .int (b2i (cmF σ ((cI σ 0) / 4)).1)), (1, .ref (gia G ((cP σ 0) (cI σ 0).toNatClampNeg))), (0, .ref (gad G 0))]) hx hb d_Pc_doOne_44 rfl hl (by decide) rfl (fun ls hl => ?_)
      refine lv_goto (tgt := 117) hx hb d_Pc_doOne_45 (by decide) ?_
      have eq9 : cQ ((dmF (mvF ((cmF σ ((cI σ 0) / 4)).2) (cQ ((cmF σ ((cI σ 0) / 4)).2) ((cP σ 0) (cI σ 0).toNatClampNeg)) (adF ((cmF σ ((cI σ 0) / 4)).2) (cQ ((cmF σ ((cI σ 0) / 4)).2) ((cP σ 0) (cI σ 0).toNatClampNeg)))) (adF ((cmF σ ((cI σ 0) / 4)).2) (cQ ((cmF σ ((cI σ 0) / 4)).2) ((cP σ 0) (cI σ 0).toNatClampNeg)) / 4)).2) = cQ ((cmF σ ((cI σ 0) / 4)).2) := by first | rfl | simp only [dmF_Q, mvF_Q, gwF_Q, cpF_Q, cQ_sI]
      refine lv_aload_n hx hb d_Pc_doOne_117 rfl (lv_at hl 5 rfl) ?_
      refine va_get (D := gD G) (ci := 6) (v := .ref (gad G 5)) (C := R_Pc) (T := F_Pc) (N := 12) hx hb (wl_Pc hT) (fun _ h9 => h9) hown hK hP 0 rfl rfl 4 (by decide) (k_183 hT) (fun _ h9 => h9) rfl d_Pc_doOne_118 ?_
      refine lv_aload_n hx hb d_Pc_doOne_121 rfl (lv_at hl 4 rfl) ?_
      refine lv_iload_n hx hb d_Pc_doOne_122 rfl (lv_at hl 3 rfl) ?_
      refine lv_iload_n hx hb d_Pc_doOne_123 rfl (lv_at hl 0 rfl) ?_
      refine lv_iload hx hb d_Pc_doOne_124 (lv_at hl 1 rfl) ?_
      refine cx_V (n := 4) (C := R_Ck) (As := [.ref (gia G ((cP σ 0) (cI σ 0).toNatClampNeg)), .int (b2i (cmF σ ((cI σ 0) / 4)).1), .int (b2i (dmF (mvF ((cmF σ ((cI σ 0) / 4)).2) (cQ ((cmF σ ((cI σ 0) / 4)).2) ((cP σ 0) (cI σ 0).toNatClampNeg)) (adF ((cmF σ ((cI σ 0) / 4)).2) (cQ ((cmF σ ((cI σ 0) / 4)).2) ((cP σ 0) (cI σ 0).toNatClampNeg)))) (adF ((cmF σ ((cI σ 0) / 4)).2) (cQ ((cmF σ ((cI σ 0) / 4)).2) ((cP σ 0) (cI σ 0).toNatClampNeg)) / 4)).1), .int 0]) (rest := []) ⟨hx, hb, hml, hown, fun _ h9 => nomatch h9⟩ (K_Ck_begin g ((dmF (mvF ((cmF σ ((cI σ 0) / 4)).2) (cQ ((cmF σ ((cI σ 0) / 4)).2) ((cP σ 0) (cI σ 0).toNatClampNeg)) (adF ((cmF σ ((cI σ 0) / 4)).2) (cQ ((cmF σ ((cI σ 0) / 4)).2) ((cP σ 0) (cI σ 0).toNatClampNeg)))) (adF ((cmF σ ((cI σ 0) / 4)).2) (cQ ((cmF σ ((cI σ 0) / 4)).2) ((cP σ 0) (cI σ 0).toNatClampNeg)) / 4)).2) (w.2.1 _ (vp_lt w.1)) (by rw [eq9]; exact hok) ((cmF σ ((cI σ 0) / 4)).1) ((dmF (mvF ((cmF σ ((cI σ 0) / 4)).2) (cQ ((cmF σ ((cI σ 0) / 4)).2) ((cP σ 0) (cI σ 0).toNatClampNeg)) (adF ((cmF σ ((cI σ 0) / 4)).2) (cQ ((cmF σ ((cI σ 0) / 4)).2) ((cP σ 0) (cI σ 0).toNatClampNeg)))) (adF ((cmF σ ((cI σ 0) / 4)).2) (cQ ((cmF σ ((cI σ 0) / 4)).2) ((cP σ 0) (cI σ 0).toNatClampNeg)) / 4)).1) false) (k_516 hT) (k_517 hT) (k_518 hT) (k_519 hT) (k_2 hT) rfl (by decide +kernel) (va_recv hK hP (ci := 0) (q0 := 5) rfl rfl) (hc.at g hS hP) ⟨by decide, by decide⟩ ⟨by decide, by decide⟩ hl.1 (Nat.le_of_ble_eq_true rfl) d_Pc_doOne_126 (fun _ h9 => h9) hS (fun _ _ _ _ _ _ _ h9 => h9.elim) (fun v t H locs ht9 hRt hz hk hS => ?_)
      obtain ⟨u, rfl, eu, hP⟩ := hRt
      rw [eu, ht9] at hP
      rw [eq9] at hP
      have hD : va_D (gA G) (cw G (beF ((dmF (mvF ((cmF σ ((cI σ 0) / 4)).2) (cQ ((cmF σ ((cI σ 0) / 4)).2) ((cP σ 0) (cI σ 0).toNatClampNeg)) (adF ((cmF σ ((cI σ 0) / 4)).2) (cQ ((cmF σ ((cI σ 0) / 4)).2) ((cP σ 0) (cI σ 0).toNatClampNeg)))) (adF ((cmF σ ((cI σ 0) / 4)).2) (cQ ((cmF σ ((cI σ 0) / 4)).2) ((cP σ 0) (cI σ 0).toNatClampNeg)) / 4)).2) (cQ ((cmF σ ((cI σ 0) / 4)).2) ((cP σ 0) (cI σ 0).toNatClampNeg)) ((cmF σ ((cI σ 0) / 4)).1) ((dmF (mvF ((cmF σ ((cI σ 0) / 4)).2) (cQ ((cmF σ ((cI σ 0) / 4)).2) ((cP σ 0) (cI σ 0).toNatClampNeg)) (adF ((cmF σ ((cI σ 0) / 4)).2) (cQ ((cmF σ ((cI σ 0) / 4)).2) ((cP σ 0) (cI σ 0).toNatClampNeg)))) (adF ((cmF σ ((cI σ 0) / 4)).2) (cQ ((cmF σ ((cI σ 0) / 4)).2) ((cP σ 0) (cI σ 0).toNatClampNeg)) / 4)).1) false)) := g.d
      refine W.eq (g2 := F0 m 129 ls []) rfl ?_
      refine lv_aload_n hx hb d_Pc_doOne_129 rfl (lv_at hl 5 rfl) ?_
      refine lv_dup hx hb d_Pc_doOne_130 rfl ?_
      refine va_get (D := gD G) (ci := 6) (v := .int (cI (beF ((dmF (mvF ((cmF σ ((cI σ 0) / 4)).2) (cQ ((cmF σ ((cI σ 0) / 4)).2) ((cP σ 0) (cI σ 0).toNatClampNeg)) (adF ((cmF σ ((cI σ 0) / 4)).2) (cQ ((cmF σ ((cI σ 0) / 4)).2) ((cP σ 0) (cI σ 0).toNatClampNeg)))) (adF ((cmF σ ((cI σ 0) / 4)).2) (cQ ((cmF σ ((cI σ 0) / 4)).2) ((cP σ 0) (cI σ 0).toNatClampNeg)) / 4)).2) (cQ ((cmF σ ((cI σ 0) / 4)).2) ((cP σ 0) (cI σ 0).toNatClampNeg)) ((cmF σ ((cI σ 0) / 4)).1) ((dmF (mvF ((cmF σ ((cI σ 0) / 4)).2) (cQ ((cmF σ ((cI σ 0) / 4)).2) ((cP σ 0) (cI σ 0).toNatClampNeg)) (adF ((cmF σ ((cI σ 0) / 4)).2) (cQ ((cmF σ ((cI σ 0) / 4)).2) ((cP σ 0) (cI σ 0).toNatClampNeg)))) (adF ((cmF σ ((cI σ 0) / 4)).2) (cQ ((cmF σ ((cI σ 0) / 4)).2) ((cP σ 0) (cI σ 0).toNatClampNeg)) / 4)).1) false) 2)) (C := R_Pc) (T := F_Pc) (N := 12) hx hb (wl_Pc hT) (fun _ h9 => h9) hown hK hP 0 rfl rfl 11 (by decide) (k_190 hT) (fun _ h9 => h9) rfl d_Pc_doOne_131 ?_
      refine lv_iconst (v := 1) hx hb d_Pc_doOne_134 (by decide) ?_
      refine lv_iadd hx hb d_Pc_doOne_135 ?_
      refine va_put (D := gD G) (ci := 6) (v := .int ((cI (beF ((dmF (mvF ((cmF σ ((cI σ 0) / 4)).2) (cQ ((cmF σ ((cI σ 0) / 4)).2) ((cP σ 0) (cI σ 0).toNatClampNeg)) (adF ((cmF σ ((cI σ 0) / 4)).2) (cQ ((cmF σ ((cI σ 0) / 4)).2) ((cP σ 0) (cI σ 0).toNatClampNeg)))) (adF ((cmF σ ((cI σ 0) / 4)).2) (cQ ((cmF σ ((cI σ 0) / 4)).2) ((cP σ 0) (cI σ 0).toNatClampNeg)) / 4)).2) (cQ ((cmF σ ((cI σ 0) / 4)).2) ((cP σ 0) (cI σ 0).toNatClampNeg)) ((cmF σ ((cI σ 0) / 4)).1) ((dmF (mvF ((cmF σ ((cI σ 0) / 4)).2) (cQ ((cmF σ ((cI σ 0) / 4)).2) ((cP σ 0) (cI σ 0).toNatClampNeg)) (adF ((cmF σ ((cI σ 0) / 4)).2) (cQ ((cmF σ ((cI σ 0) / 4)).2) ((cP σ 0) (cI σ 0).toNatClampNeg)))) (adF ((cmF σ ((cI σ 0) / 4)).2) (cQ ((cmF σ ((cI σ 0) / 4)).2) ((cP σ 0) (cI σ 0).toNatClampNeg)) / 4)).1) false) 2) + 1)) (ty := .int) (C := R_Pc) (T := F_Pc) (N := 12) hx hb (wl_Pc hT) (fun _ h9 => h9) fy_Pc fy_Pc_ok fn_Pc hown hK hP hD hS 0 rfl rfl 11 (by decide) (k_190 hT) (fun _ h9 => h9) rfl (by decide +kernel) rfl rfl (Nat.le_of_ble_eq_true rfl) d_Pc_doOne_136 (fun H locs hP hD hS => ?_)
      have hP : va_P (gD G) classes (cw G (sI (beF ((dmF (mvF ((cmF σ ((cI σ 0) / 4)).2) (cQ ((cmF σ ((cI σ 0) / 4)).2) ((cP σ 0) (cI σ 0).toNatClampNeg)) (adF ((cmF σ ((cI σ 0) / 4)).2) (cQ ((cmF σ ((cI σ 0) / 4)).2) ((cP σ 0) (cI σ 0).toNatClampNeg)))) (adF ((cmF σ ((cI σ 0) / 4)).2) (cQ ((cmF σ ((cI σ 0) / 4)).2) ((cP σ 0) (cI σ 0).toNatClampNeg)) / 4)).2) (cQ ((cmF σ ((cI σ 0) / 4)).2) ((cP σ 0) (cI σ 0).toNatClampNeg)) ((cmF σ ((cI σ 0) / 4)).1) ((dmF (mvF ((cmF σ ((cI σ 0) / 4)).2) (cQ ((cmF σ ((cI σ 0) / 4)).2) ((cP σ 0) (cI σ 0).toNatClampNeg)) (adF ((cmF σ ((cI σ 0) / 4)).2) (cQ ((cmF σ ((cI σ 0) / 4)).2) ((cP σ 0) (cI σ 0).toNatClampNeg)))) (adF ((cmF σ ((cI σ 0) / 4)).2) (cQ ((cmF σ ((cI σ 0) / 4)).2) ((cP σ 0) (cI σ 0).toNatClampNeg)) / 4)).1) false) 2 ((cI (beF ((dmF (mvF ((cmF σ ((cI σ 0) / 4)).2) (cQ ((cmF σ ((cI σ 0) / 4)).2) ((cP σ 0) (cI σ 0).toNatClampNeg)) (adF ((cmF σ ((cI σ 0) / 4)).2) (cQ ((cmF σ ((cI σ 0) / 4)).2) ((cP σ 0) (cI σ 0).toNatClampNeg)))) (adF ((cmF σ ((cI σ 0) / 4)).2) (cQ ((cmF σ ((cI σ 0) / 4)).2) ((cP σ 0) (cI σ 0).toNatClampNeg)) / 4)).2) (cQ ((cmF σ ((cI σ 0) / 4)).2) ((cP σ 0) (cI σ 0).toNatClampNeg)) ((cmF σ ((cI σ 0) / 4)).1) ((dmF (mvF ((cmF σ ((cI σ 0) / 4)).2) (cQ ((cmF σ ((cI σ 0) / 4)).2) ((cP σ 0) (cI σ 0).toNatClampNeg)) (adF ((cmF σ ((cI σ 0) / 4)).2) (cQ ((cmF σ ((cI σ 0) / 4)).2) ((cP σ 0) (cI σ 0).toNatClampNeg)))) (adF ((cmF σ ((cI σ 0) / 4)).2) (cQ ((cmF σ ((cI σ 0) / 4)).2) ((cP σ 0) (cI σ 0).toNatClampNeg)) / 4)).1) false) 2) + 1))) H := hP
      have hD : va_D (gA G) (cw G (sI (beF ((dmF (mvF ((cmF σ ((cI σ 0) / 4)).2) (cQ ((cmF σ ((cI σ 0) / 4)).2) ((cP σ 0) (cI σ 0).toNatClampNeg)) (adF ((cmF σ ((cI σ 0) / 4)).2) (cQ ((cmF σ ((cI σ 0) / 4)).2) ((cP σ 0) (cI σ 0).toNatClampNeg)))) (adF ((cmF σ ((cI σ 0) / 4)).2) (cQ ((cmF σ ((cI σ 0) / 4)).2) ((cP σ 0) (cI σ 0).toNatClampNeg)) / 4)).2) (cQ ((cmF σ ((cI σ 0) / 4)).2) ((cP σ 0) (cI σ 0).toNatClampNeg)) ((cmF σ ((cI σ 0) / 4)).1) ((dmF (mvF ((cmF σ ((cI σ 0) / 4)).2) (cQ ((cmF σ ((cI σ 0) / 4)).2) ((cP σ 0) (cI σ 0).toNatClampNeg)) (adF ((cmF σ ((cI σ 0) / 4)).2) (cQ ((cmF σ ((cI σ 0) / 4)).2) ((cP σ 0) (cI σ 0).toNatClampNeg)))) (adF ((cmF σ ((cI σ 0) / 4)).2) (cQ ((cmF σ ((cI σ 0) / 4)).2) ((cP σ 0) (cI σ 0).toNatClampNeg)) / 4)).1) false) 2 ((cI (beF ((dmF (mvF ((cmF σ ((cI σ 0) / 4)).2) (cQ ((cmF σ ((cI σ 0) / 4)).2) ((cP σ 0) (cI σ 0).toNatClampNeg)) (adF ((cmF σ ((cI σ 0) / 4)).2) (cQ ((cmF σ ((cI σ 0) / 4)).2) ((cP σ 0) (cI σ 0).toNatClampNeg)))) (adF ((cmF σ ((cI σ 0) / 4)).2) (cQ ((cmF σ ((cI σ 0) / 4)).2) ((cP σ 0) (cI σ 0).toNatClampNeg)) / 4)).2) (cQ ((cmF σ ((cI σ 0) / 4)).2) ((cP σ 0) (cI σ 0).toNatClampNeg)) ((cmF σ ((cI σ 0) / 4)).1) ((dmF (mvF ((cmF σ ((cI σ 0) / 4)).2) (cQ ((cmF σ ((cI σ 0) / 4)).2) ((cP σ 0) (cI σ 0).toNatClampNeg)) (adF ((cmF σ ((cI σ 0) / 4)).2) (cQ ((cmF σ ((cI σ 0) / 4)).2) ((cP σ 0) (cI σ 0).toNatClampNeg)))) (adF ((cmF σ ((cI σ 0) / 4)).2) (cQ ((cmF σ ((cI σ 0) / 4)).2) ((cP σ 0) (cI σ 0).toNatClampNeg)) / 4)).1) false) 2) + 1))) := g.d
      refine lv_aload_n hx hb d_Pc_doOne_139 rfl (lv_at hl 5 rfl) ?_
      refine va_get (D := gD G) (ci := 6) (v := .int (cI (beF ((dmF (mvF ((cmF σ ((cI σ 0) / 4)).2) (cQ ((cmF σ ((cI σ 0) / 4)).2) ((cP σ 0) (cI σ 0).toNatClampNeg)) (adF ((cmF σ ((cI σ 0) / 4)).2) (cQ ((cmF σ ((cI σ 0) / 4)).2) ((cP σ 0) (cI σ 0).toNatClampNeg)))) (adF ((cmF σ ((cI σ 0) / 4)).2) (cQ ((cmF σ ((cI σ 0) / 4)).2) ((cP σ 0) (cI σ 0).toNatClampNeg)) / 4)).2) (cQ ((cmF σ ((cI σ 0) / 4)).2) ((cP σ 0) (cI σ 0).toNatClampNeg)) ((cmF σ ((cI σ 0) / 4)).1) ((dmF (mvF ((cmF σ ((cI σ 0) / 4)).2) (cQ ((cmF σ ((cI σ 0) / 4)).2) ((cP σ 0) (cI σ 0).toNatClampNeg)) (adF ((cmF σ ((cI σ 0) / 4)).2) (cQ ((cmF σ ((cI σ 0) / 4)).2) ((cP σ 0) (cI σ 0).toNatClampNeg)))) (adF ((cmF σ ((cI σ 0) / 4)).2) (cQ ((cmF σ ((cI σ 0) / 4)).2) ((cP σ 0) (cI σ 0).toNatClampNeg)) / 4)).1) false) 1)) (C := R_Pc) (T := F_Pc) (N := 12) hx hb (wl_Pc hT) (fun _ h9 => h9) hown hK hP 0 rfl rfl 10 (by decide) (k_189 hT) (fun _ h9 => h9) rfl d_Pc_doOne_140 ?_
      refine lv_if_ne (tgt := 171) hx hb d_Pc_doOne_143 (by decide) (fun c143 => ?_) (fun c143 => ?_)
      · exact end_v (u := (sI (beF ((dmF (mvF ((cmF σ ((cI σ 0) / 4)).2) (cQ ((cmF σ ((cI σ 0) / 4)).2) ((cP σ 0) (cI σ 0).toNatClampNeg)) (adF ((cmF σ ((cI σ 0) / 4)).2) (cQ ((cmF σ ((cI σ 0) / 4)).2) ((cP σ 0) (cI σ 0).toNatClampNeg)))) (adF ((cmF σ ((cI σ 0) / 4)).2) (cQ ((cmF σ ((cI σ 0) / 4)).2) ((cP σ 0) (cI σ 0).toNatClampNeg)) / 4)).2) (cQ ((cmF σ ((cI σ 0) / 4)).2) ((cP σ 0) (cI σ 0).toNatClampNeg)) ((cmF σ ((cI σ 0) / 4)).1) ((dmF (mvF ((cmF σ ((cI σ 0) / 4)).2) (cQ ((cmF σ ((cI σ 0) / 4)).2) ((cP σ 0) (cI σ 0).toNatClampNeg)) (adF ((cmF σ ((cI σ 0) / 4)).2) (cQ ((cmF σ ((cI σ 0) / 4)).2) ((cP σ 0) (cI σ 0).toNatClampNeg)))) (adF ((cmF σ ((cI σ 0) / 4)).2) (cQ ((cmF σ ((cI σ 0) / 4)).2) ((cP σ 0) (cI σ 0).toNatClampNeg)) / 4)).1) false) 2 ((cI (beF ((dmF (mvF ((cmF σ ((cI σ 0) / 4)).2) (cQ ((cmF σ ((cI σ 0) / 4)).2) ((cP σ 0) (cI σ 0).toNatClampNeg)) (adF ((cmF σ ((cI σ 0) / 4)).2) (cQ ((cmF σ ((cI σ 0) / 4)).2) ((cP σ 0) (cI σ 0).toNatClampNeg)))) (adF ((cmF σ ((cI σ 0) / 4)).2) (cQ ((cmF σ ((cI σ 0) / 4)).2) ((cP σ 0) (cI σ 0).toNatClampNeg)) / 4)).2) (cQ ((cmF σ ((cI σ 0) / 4)).2) ((cP σ 0) (cI σ 0).toNatClampNeg)) ((cmF σ ((cI σ 0) / 4)).1) ((dmF (mvF ((cmF σ ((cI σ 0) / 4)).2) (cQ ((cmF σ ((cI σ 0) / 4)).2) ((cP σ 0) (cI σ 0).toNatClampNeg)) (adF ((cmF σ ((cI σ 0) / 4)).2) (cQ ((cmF σ ((cI σ 0) / 4)).2) ((cP σ 0) (cI σ 0).toNatClampNeg)))) (adF ((cmF σ ((cI σ 0) / 4)).2) (cQ ((cmF σ ((cI σ 0) / 4)).2) ((cP σ 0) (cI σ 0).toNatClampNeg)) / 4)).1) false) 2) + 1))) hx hb hr hlocks hS hP d_Pc_doOne_171 (⟨by simp [doF, doT, doG, doQ, dnF, ix, c36, c143, hba], by simp [doF, doT, doG, doQ, dnF, ix, c36, c143, hba]⟩)
      · refine lv_aload_n hx hb d_Pc_doOne_146 rfl (lv_at hl 5 rfl) ?_
        refine lv_iload hx hb d_Pc_doOne_147 (lv_at hl 2 rfl) ?_
        refine lv_if_eq (tgt := 159) hx hb d_Pc_doOne_149 (by decide) (fun c149 => ?_) (fun c149 => ?_)
        · refine lv_aload_n hx hb d_Pc_doOne_159 rfl (lv_at hl 5 rfl) ?_
          refine va_get (D := gD G) (ci := 6) (v := .int (cI (beF ((dmF (mvF ((cmF σ ((cI σ 0) / 4)).2) (cQ ((cmF σ ((cI σ 0) / 4)).2) ((cP σ 0) (cI σ 0).toNatClampNeg)) (adF ((cmF σ ((cI σ 0) / 4)).2) (cQ ((cmF σ ((cI σ 0) / 4)).2) ((cP σ 0) (cI σ 0).toNatClampNeg)))) (adF ((cmF σ ((cI σ 0) / 4)).2) (cQ ((cmF σ ((cI σ 0) / 4)).2) ((cP σ 0) (cI σ 0).toNatClampNeg)) / 4)).2) (cQ ((cmF σ ((cI σ 0) / 4)).2) ((cP σ 0) (cI σ 0).toNatClampNeg)) ((cmF σ ((cI σ 0) / 4)).1) ((dmF (mvF ((cmF σ ((cI σ 0) / 4)).2) (cQ ((cmF σ ((cI σ 0) / 4)).2) ((cP σ 0) (cI σ 0).toNatClampNeg)) (adF ((cmF σ ((cI σ 0) / 4)).2) (cQ ((cmF σ ((cI σ 0) / 4)).2) ((cP σ 0) (cI σ 0).toNatClampNeg)))) (adF ((cmF σ ((cI σ 0) / 4)).2) (cQ ((cmF σ ((cI σ 0) / 4)).2) ((cP σ 0) (cI σ 0).toNatClampNeg)) / 4)).1) false) 0)) (C := R_Pc) (T := F_Pc) (N := 12) hx hb (wl_Pc hT) (fun _ h9 => h9) hown hK hP 0 rfl rfl 9 (by decide) (k_188 hT) (fun _ h9 => h9) rfl d_Pc_doOne_160 ?_
          refine lv_iconst (v := 1) hx hb d_Pc_doOne_163 (by decide) ?_
          refine lv_iadd hx hb d_Pc_doOne_164 ?_
          refine lv_bipush (v := 24) hx hb d_Pc_doOne_165 (by decide) ?_
          refine lv_irem hx hb d_Pc_doOne_167 (by decide) ?_
          refine va_put (D := gD G) (ci := 6) (v := .int (((cI (beF ((dmF (mvF ((cmF σ ((cI σ 0) / 4)).2) (cQ ((cmF σ ((cI σ 0) / 4)).2) ((cP σ 0) (cI σ 0).toNatClampNeg)) (adF ((cmF σ ((cI σ 0) / 4)).2) (cQ ((cmF σ ((cI σ 0) / 4)).2) ((cP σ 0) (cI σ 0).toNatClampNeg)))) (adF ((cmF σ ((cI σ 0) / 4)).2) (cQ ((cmF σ ((cI σ 0) / 4)).2) ((cP σ 0) (cI σ 0).toNatClampNeg)) / 4)).2) (cQ ((cmF σ ((cI σ 0) / 4)).2) ((cP σ 0) (cI σ 0).toNatClampNeg)) ((cmF σ ((cI σ 0) / 4)).1) ((dmF (mvF ((cmF σ ((cI σ 0) / 4)).2) (cQ ((cmF σ ((cI σ 0) / 4)).2) ((cP σ 0) (cI σ 0).toNatClampNeg)) (adF ((cmF σ ((cI σ 0) / 4)).2) (cQ ((cmF σ ((cI σ 0) / 4)).2) ((cP σ 0) (cI σ 0).toNatClampNeg)))) (adF ((cmF σ ((cI σ 0) / 4)).2) (cQ ((cmF σ ((cI σ 0) / 4)).2) ((cP σ 0) (cI σ 0).toNatClampNeg)) / 4)).1) false) 0) + 1) - ((cI (beF ((dmF (mvF ((cmF σ ((cI σ 0) / 4)).2) (cQ ((cmF σ ((cI σ 0) / 4)).2) ((cP σ 0) (cI σ 0).toNatClampNeg)) (adF ((cmF σ ((cI σ 0) / 4)).2) (cQ ((cmF σ ((cI σ 0) / 4)).2) ((cP σ 0) (cI σ 0).toNatClampNeg)))) (adF ((cmF σ ((cI σ 0) / 4)).2) (cQ ((cmF σ ((cI σ 0) / 4)).2) ((cP σ 0) (cI σ 0).toNatClampNeg)) / 4)).2) (cQ ((cmF σ ((cI σ 0) / 4)).2) ((cP σ 0) (cI σ 0).toNatClampNeg)) ((cmF σ ((cI σ 0) / 4)).1) ((dmF (mvF ((cmF σ ((cI σ 0) / 4)).2) (cQ ((cmF σ ((cI σ 0) / 4)).2) ((cP σ 0) (cI σ 0).toNatClampNeg)) (adF ((cmF σ ((cI σ 0) / 4)).2) (cQ ((cmF σ ((cI σ 0) / 4)).2) ((cP σ 0) (cI σ 0).toNatClampNeg)))) (adF ((cmF σ ((cI σ 0) / 4)).2) (cQ ((cmF σ ((cI σ 0) / 4)).2) ((cP σ 0) (cI σ 0).toNatClampNeg)) / 4)).1) false) 0) + 1) / 24 * 24)) (ty := .int) (C := R_Pc) (T := F_Pc) (N := 12) hx hb (wl_Pc hT) (fun _ h9 => h9) fy_Pc fy_Pc_ok fn_Pc hown hK hP hD hS 0 rfl rfl 9 (by decide) (k_188 hT) (fun _ h9 => h9) rfl (by decide +kernel) rfl rfl (Nat.le_of_ble_eq_true rfl) d_Pc_doOne_168 (fun H locs hP hD hS => ?_)
          have hP : va_P (gD G) classes (cw G (sI (sI (beF ((dmF (mvF ((cmF σ ((cI σ 0) / 4)).2) (cQ ((cmF σ ((cI σ 0) / 4)).2) ((cP σ 0) (cI σ 0).toNatClampNeg)) (adF ((cmF σ ((cI σ 0) / 4)).2) (cQ ((cmF σ ((cI σ 0) / 4)).2) ((cP σ 0) (cI σ 0).toNatClampNeg)))) (adF ((cmF σ ((cI σ 0) / 4)).2) (cQ ((cmF σ ((cI σ 0) / 4)).2) ((cP σ 0) (cI σ 0).toNatClampNeg)) / 4)).2) (cQ ((cmF σ ((cI σ 0) / 4)).2) ((cP σ 0) (cI σ 0).toNatClampNeg)) ((cmF σ ((cI σ 0) / 4)).1) ((dmF (mvF ((cmF σ ((cI σ 0) / 4)).2) (cQ ((cmF σ ((cI σ 0) / 4)).2) ((cP σ 0) (cI σ 0).toNatClampNeg)) (adF ((cmF σ ((cI σ 0) / 4)).2) (cQ ((cmF σ ((cI σ 0) / 4)).2) ((cP σ 0) (cI σ 0).toNatClampNeg)))) (adF ((cmF σ ((cI σ 0) / 4)).2) (cQ ((cmF σ ((cI σ 0) / 4)).2) ((cP σ 0) (cI σ 0).toNatClampNeg)) / 4)).1) false) 2 ((cI (beF ((dmF (mvF ((cmF σ ((cI σ 0) / 4)).2) (cQ ((cmF σ ((cI σ 0) / 4)).2) ((cP σ 0) (cI σ 0).toNatClampNeg)) (adF ((cmF σ ((cI σ 0) / 4)).2) (cQ ((cmF σ ((cI σ 0) / 4)).2) ((cP σ 0) (cI σ 0).toNatClampNeg)))) (adF ((cmF σ ((cI σ 0) / 4)).2) (cQ ((cmF σ ((cI σ 0) / 4)).2) ((cP σ 0) (cI σ 0).toNatClampNeg)) / 4)).2) (cQ ((cmF σ ((cI σ 0) / 4)).2) ((cP σ 0) (cI σ 0).toNatClampNeg)) ((cmF σ ((cI σ 0) / 4)).1) ((dmF (mvF ((cmF σ ((cI σ 0) / 4)).2) (cQ ((cmF σ ((cI σ 0) / 4)).2) ((cP σ 0) (cI σ 0).toNatClampNeg)) (adF ((cmF σ ((cI σ 0) / 4)).2) (cQ ((cmF σ ((cI σ 0) / 4)).2) ((cP σ 0) (cI σ 0).toNatClampNeg)))) (adF ((cmF σ ((cI σ 0) / 4)).2) (cQ ((cmF σ ((cI σ 0) / 4)).2) ((cP σ 0) (cI σ 0).toNatClampNeg)) / 4)).1) false) 2) + 1)) 0 (((cI (beF ((dmF (mvF ((cmF σ ((cI σ 0) / 4)).2) (cQ ((cmF σ ((cI σ 0) / 4)).2) ((cP σ 0) (cI σ 0).toNatClampNeg)) (adF ((cmF σ ((cI σ 0) / 4)).2) (cQ ((cmF σ ((cI σ 0) / 4)).2) ((cP σ 0) (cI σ 0).toNatClampNeg)))) (adF ((cmF σ ((cI σ 0) / 4)).2) (cQ ((cmF σ ((cI σ 0) / 4)).2) ((cP σ 0) (cI σ 0).toNatClampNeg)) / 4)).2) (cQ ((cmF σ ((cI σ 0) / 4)).2) ((cP σ 0) (cI σ 0).toNatClampNeg)) ((cmF σ ((cI σ 0) / 4)).1) ((dmF (mvF ((cmF σ ((cI σ 0) / 4)).2) (cQ ((cmF σ ((cI σ 0) / 4)).2) ((cP σ 0) (cI σ 0).toNatClampNeg)) (adF ((cmF σ ((cI σ 0) / 4)).2) (cQ ((cmF σ ((cI σ 0) / 4)).2) ((cP σ 0) (cI σ 0).toNatClampNeg)))) (adF ((cmF σ ((cI σ 0) / 4)).2) (cQ ((cmF σ ((cI σ 0) / 4)).2) ((cP σ 0) (cI σ 0).toNatClampNeg)) / 4)).1) false) 0) + 1) - ((cI (beF ((dmF (mvF ((cmF σ ((cI σ 0) / 4)).2) (cQ ((cmF σ ((cI σ 0) / 4)).2) ((cP σ 0) (cI σ 0).toNatClampNeg)) (adF ((cmF σ ((cI σ 0) / 4)).2) (cQ ((cmF σ ((cI σ 0) / 4)).2) ((cP σ 0) (cI σ 0).toNatClampNeg)))) (adF ((cmF σ ((cI σ 0) / 4)).2) (cQ ((cmF σ ((cI σ 0) / 4)).2) ((cP σ 0) (cI σ 0).toNatClampNeg)) / 4)).2) (cQ ((cmF σ ((cI σ 0) / 4)).2) ((cP σ 0) (cI σ 0).toNatClampNeg)) ((cmF σ ((cI σ 0) / 4)).1) ((dmF (mvF ((cmF σ ((cI σ 0) / 4)).2) (cQ ((cmF σ ((cI σ 0) / 4)).2) ((cP σ 0) (cI σ 0).toNatClampNeg)) (adF ((cmF σ ((cI σ 0) / 4)).2) (cQ ((cmF σ ((cI σ 0) / 4)).2) ((cP σ 0) (cI σ 0).toNatClampNeg)))) (adF ((cmF σ ((cI σ 0) / 4)).2) (cQ ((cmF σ ((cI σ 0) / 4)).2) ((cP σ 0) (cI σ 0).toNatClampNeg)) / 4)).1) false) 0) + 1) / 24 * 24))) H := hP
          have hD : va_D (gA G) (cw G (sI (sI (beF ((dmF (mvF ((cmF σ ((cI σ 0) / 4)).2) (cQ ((cmF σ ((cI σ 0) / 4)).2) ((cP σ 0) (cI σ 0).toNatClampNeg)) (adF ((cmF σ ((cI σ 0) / 4)).2) (cQ ((cmF σ ((cI σ 0) / 4)).2) ((cP σ 0) (cI σ 0).toNatClampNeg)))) (adF ((cmF σ ((cI σ 0) / 4)).2) (cQ ((cmF σ ((cI σ 0) / 4)).2) ((cP σ 0) (cI σ 0).toNatClampNeg)) / 4)).2) (cQ ((cmF σ ((cI σ 0) / 4)).2) ((cP σ 0) (cI σ 0).toNatClampNeg)) ((cmF σ ((cI σ 0) / 4)).1) ((dmF (mvF ((cmF σ ((cI σ 0) / 4)).2) (cQ ((cmF σ ((cI σ 0) / 4)).2) ((cP σ 0) (cI σ 0).toNatClampNeg)) (adF ((cmF σ ((cI σ 0) / 4)).2) (cQ ((cmF σ ((cI σ 0) / 4)).2) ((cP σ 0) (cI σ 0).toNatClampNeg)))) (adF ((cmF σ ((cI σ 0) / 4)).2) (cQ ((cmF σ ((cI σ 0) / 4)).2) ((cP σ 0) (cI σ 0).toNatClampNeg)) / 4)).1) false) 2 ((cI (beF ((dmF (mvF ((cmF σ ((cI σ 0) / 4)).2) (cQ ((cmF σ ((cI σ 0) / 4)).2) ((cP σ 0) (cI σ 0).toNatClampNeg)) (adF ((cmF σ ((cI σ 0) / 4)).2) (cQ ((cmF σ ((cI σ 0) / 4)).2) ((cP σ 0) (cI σ 0).toNatClampNeg)))) (adF ((cmF σ ((cI σ 0) / 4)).2) (cQ ((cmF σ ((cI σ 0) / 4)).2) ((cP σ 0) (cI σ 0).toNatClampNeg)) / 4)).2) (cQ ((cmF σ ((cI σ 0) / 4)).2) ((cP σ 0) (cI σ 0).toNatClampNeg)) ((cmF σ ((cI σ 0) / 4)).1) ((dmF (mvF ((cmF σ ((cI σ 0) / 4)).2) (cQ ((cmF σ ((cI σ 0) / 4)).2) ((cP σ 0) (cI σ 0).toNatClampNeg)) (adF ((cmF σ ((cI σ 0) / 4)).2) (cQ ((cmF σ ((cI σ 0) / 4)).2) ((cP σ 0) (cI σ 0).toNatClampNeg)))) (adF ((cmF σ ((cI σ 0) / 4)).2) (cQ ((cmF σ ((cI σ 0) / 4)).2) ((cP σ 0) (cI σ 0).toNatClampNeg)) / 4)).1) false) 2) + 1)) 0 (((cI (beF ((dmF (mvF ((cmF σ ((cI σ 0) / 4)).2) (cQ ((cmF σ ((cI σ 0) / 4)).2) ((cP σ 0) (cI σ 0).toNatClampNeg)) (adF ((cmF σ ((cI σ 0) / 4)).2) (cQ ((cmF σ ((cI σ 0) / 4)).2) ((cP σ 0) (cI σ 0).toNatClampNeg)))) (adF ((cmF σ ((cI σ 0) / 4)).2) (cQ ((cmF σ ((cI σ 0) / 4)).2) ((cP σ 0) (cI σ 0).toNatClampNeg)) / 4)).2) (cQ ((cmF σ ((cI σ 0) / 4)).2) ((cP σ 0) (cI σ 0).toNatClampNeg)) ((cmF σ ((cI σ 0) / 4)).1) ((dmF (mvF ((cmF σ ((cI σ 0) / 4)).2) (cQ ((cmF σ ((cI σ 0) / 4)).2) ((cP σ 0) (cI σ 0).toNatClampNeg)) (adF ((cmF σ ((cI σ 0) / 4)).2) (cQ ((cmF σ ((cI σ 0) / 4)).2) ((cP σ 0) (cI σ 0).toNatClampNeg)))) (adF ((cmF σ ((cI σ 0) / 4)).2) (cQ ((cmF σ ((cI σ 0) / 4)).2) ((cP σ 0) (cI σ 0).toNatClampNeg)) / 4)).1) false) 0) + 1) - ((cI (beF ((dmF (mvF ((cmF σ ((cI σ 0) / 4)).2) (cQ ((cmF σ ((cI σ 0) / 4)).2) ((cP σ 0) (cI σ 0).toNatClampNeg)) (adF ((cmF σ ((cI σ 0) / 4)).2) (cQ ((cmF σ ((cI σ 0) / 4)).2) ((cP σ 0) (cI σ 0).toNatClampNeg)))) (adF ((cmF σ ((cI σ 0) / 4)).2) (cQ ((cmF σ ((cI σ 0) / 4)).2) ((cP σ 0) (cI σ 0).toNatClampNeg)) / 4)).2) (cQ ((cmF σ ((cI σ 0) / 4)).2) ((cP σ 0) (cI σ 0).toNatClampNeg)) ((cmF σ ((cI σ 0) / 4)).1) ((dmF (mvF ((cmF σ ((cI σ 0) / 4)).2) (cQ ((cmF σ ((cI σ 0) / 4)).2) ((cP σ 0) (cI σ 0).toNatClampNeg)) (adF ((cmF σ ((cI σ 0) / 4)).2) (cQ ((cmF σ ((cI σ 0) / 4)).2) ((cP σ 0) (cI σ 0).toNatClampNeg)))) (adF ((cmF σ ((cI σ 0) / 4)).2) (cQ ((cmF σ ((cI σ 0) / 4)).2) ((cP σ 0) (cI σ 0).toNatClampNeg)) / 4)).1) false) 0) + 1) / 24 * 24))) := g.d
          exact end_v (u := (sI (sI (beF ((dmF (mvF ((cmF σ ((cI σ 0) / 4)).2) (cQ ((cmF σ ((cI σ 0) / 4)).2) ((cP σ 0) (cI σ 0).toNatClampNeg)) (adF ((cmF σ ((cI σ 0) / 4)).2) (cQ ((cmF σ ((cI σ 0) / 4)).2) ((cP σ 0) (cI σ 0).toNatClampNeg)))) (adF ((cmF σ ((cI σ 0) / 4)).2) (cQ ((cmF σ ((cI σ 0) / 4)).2) ((cP σ 0) (cI σ 0).toNatClampNeg)) / 4)).2) (cQ ((cmF σ ((cI σ 0) / 4)).2) ((cP σ 0) (cI σ 0).toNatClampNeg)) ((cmF σ ((cI σ 0) / 4)).1) ((dmF (mvF ((cmF σ ((cI σ 0) / 4)).2) (cQ ((cmF σ ((cI σ 0) / 4)).2) ((cP σ 0) (cI σ 0).toNatClampNeg)) (adF ((cmF σ ((cI σ 0) / 4)).2) (cQ ((cmF σ ((cI σ 0) / 4)).2) ((cP σ 0) (cI σ 0).toNatClampNeg)))) (adF ((cmF σ ((cI σ 0) / 4)).2) (cQ ((cmF σ ((cI σ 0) / 4)).2) ((cP σ 0) (cI σ 0).toNatClampNeg)) / 4)).1) false) 2 ((cI (beF ((dmF (mvF ((cmF σ ((cI σ 0) / 4)).2) (cQ ((cmF σ ((cI σ 0) / 4)).2) ((cP σ 0) (cI σ 0).toNatClampNeg)) (adF ((cmF σ ((cI σ 0) / 4)).2) (cQ ((cmF σ ((cI σ 0) / 4)).2) ((cP σ 0) (cI σ 0).toNatClampNeg)))) (adF ((cmF σ ((cI σ 0) / 4)).2) (cQ ((cmF σ ((cI σ 0) / 4)).2) ((cP σ 0) (cI σ 0).toNatClampNeg)) / 4)).2) (cQ ((cmF σ ((cI σ 0) / 4)).2) ((cP σ 0) (cI σ 0).toNatClampNeg)) ((cmF σ ((cI σ 0) / 4)).1) ((dmF (mvF ((cmF σ ((cI σ 0) / 4)).2) (cQ ((cmF σ ((cI σ 0) / 4)).2) ((cP σ 0) (cI σ 0).toNatClampNeg)) (adF ((cmF σ ((cI σ 0) / 4)).2) (cQ ((cmF σ ((cI σ 0) / 4)).2) ((cP σ 0) (cI σ 0).toNatClampNeg)))) (adF ((cmF σ ((cI σ 0) / 4)).2) (cQ ((cmF σ ((cI σ 0) / 4)).2) ((cP σ 0) (cI σ 0).toNatClampNeg)) / 4)).1) false) 2) + 1)) 0 (((cI (beF ((dmF (mvF ((cmF σ ((cI σ 0) / 4)).2) (cQ ((cmF σ ((cI σ 0) / 4)).2) ((cP σ 0) (cI σ 0).toNatClampNeg)) (adF ((cmF σ ((cI σ 0) / 4)).2) (cQ ((cmF σ ((cI σ 0) / 4)).2) ((cP σ 0) (cI σ 0).toNatClampNeg)))) (adF ((cmF σ ((cI σ 0) / 4)).2) (cQ ((cmF σ ((cI σ 0) / 4)).2) ((cP σ 0) (cI σ 0).toNatClampNeg)) / 4)).2) (cQ ((cmF σ ((cI σ 0) / 4)).2) ((cP σ 0) (cI σ 0).toNatClampNeg)) ((cmF σ ((cI σ 0) / 4)).1) ((dmF (mvF ((cmF σ ((cI σ 0) / 4)).2) (cQ ((cmF σ ((cI σ 0) / 4)).2) ((cP σ 0) (cI σ 0).toNatClampNeg)) (adF ((cmF σ ((cI σ 0) / 4)).2) (cQ ((cmF σ ((cI σ 0) / 4)).2) ((cP σ 0) (cI σ 0).toNatClampNeg)))) (adF ((cmF σ ((cI σ 0) / 4)).2) (cQ ((cmF σ ((cI σ 0) / 4)).2) ((cP σ 0) (cI σ 0).toNatClampNeg)) / 4)).1) false) 0) + 1) - ((cI (beF ((dmF (mvF ((cmF σ ((cI σ 0) / 4)).2) (cQ ((cmF σ ((cI σ 0) / 4)).2) ((cP σ 0) (cI σ 0).toNatClampNeg)) (adF ((cmF σ ((cI σ 0) / 4)).2) (cQ ((cmF σ ((cI σ 0) / 4)).2) ((cP σ 0) (cI σ 0).toNatClampNeg)))) (adF ((cmF σ ((cI σ 0) / 4)).2) (cQ ((cmF σ ((cI σ 0) / 4)).2) ((cP σ 0) (cI σ 0).toNatClampNeg)) / 4)).2) (cQ ((cmF σ ((cI σ 0) / 4)).2) ((cP σ 0) (cI σ 0).toNatClampNeg)) ((cmF σ ((cI σ 0) / 4)).1) ((dmF (mvF ((cmF σ ((cI σ 0) / 4)).2) (cQ ((cmF σ ((cI σ 0) / 4)).2) ((cP σ 0) (cI σ 0).toNatClampNeg)) (adF ((cmF σ ((cI σ 0) / 4)).2) (cQ ((cmF σ ((cI σ 0) / 4)).2) ((cP σ 0) (cI σ 0).toNatClampNeg)))) (adF ((cmF σ ((cI σ 0) / 4)).2) (cQ ((cmF σ ((cI σ 0) / 4)).2) ((cP σ 0) (cI σ 0).toNatClampNeg)) / 4)).1) false) 0) + 1) / 24 * 24))) hx hb hr hlocks hS hP d_Pc_doOne_171 (⟨by simp [doF, doT, doG, doQ, dnF, ix, c36, c143, hba], by simp [doF, doT, doG, doQ, dnF, ix, c36, c143, hba]⟩)
        · exact absurd rfl c149
end
section
/-! CONTRACTS: the public methods that walk straight on -/
theorem cnt1 {w : Int32} (h1 : ¬ w < 10) (h2 : ¬ 18 ≤ w) : vp_in (w - 10) 12 := by
  have h3 : vp_in w 18 := by
    rw [vp_in_iff]
    rw [Int32.lt_iff_toInt_lt] at h1
    rw [Int32.le_iff_toInt_le] at h2
    have a1 : (10 : Int32).toInt = 10 := by decide
    have a2 : (18 : Int32).toInt = 18 := by decide
    omega
  obtain ⟨j, hj, rfl⟩ := vp_in_of h3 (by decide)
  have : ∀ j, j < 18 → ¬ nI j < 10 → vp_in (nI j - 10) 12 := by unfold vp_in; decide
  exact this j hj h1
theorem cnt2 {w : Int32} (h1 : ¬ w < 20) (h2 : ¬ 24 ≤ w) : vp_in (8 + w - 20) 12 := by
  have h3 : vp_in w 24 := by
    rw [vp_in_iff]
    rw [Int32.lt_iff_toInt_lt] at h1
    rw [Int32.le_iff_toInt_le] at h2
    have a1 : (20 : Int32).toInt = 20 := by decide
    have a2 : (24 : Int32).toInt = 24 := by decide
    omega
  obtain ⟨j, hj, rfl⟩ := vp_in_of h3 (by decide)
  have : ∀ j, j < 24 → ¬ nI j < 20 → vp_in (8 + nI j - 20) 12 := by unfold vp_in; decide
  exact this j hj h1
set_option maxHeartbeats 4000000 in
set_option maxRecDepth 100000 in
theorem K_Pc_whole {l : Launch} {G : GT} (g : GOK l G) (σ : CS) (r : Int32) : cx_M l y_Pc_whole (.code y_Pc_whole b_Pc_whole 2 (some .int)) 7 110 (gA G) [.ref (gad G 0), .int r] (Cw G σ) (Ri G (fun v u => (badR r 7 = false ∧ v = cJ σ 0 (ix r)) ∧ u = σ)) (Tw G (fun E u => E = "java/lang/IllegalArgumentException" ∧ badR r 7 = true ∧ u = σ)) := by
  refine cx_of (by decide +kernel) ?_
  intro p e s m below meth c s₁ B hml ht hc
  have hx := B.exec
  have hb := B.bytes
  have hr := B.returns
  have hown : s.vm.findClass R_Pc = some m.cls := findClass_of_methodNamed B.named
  have hlocks := B.notSynchronized
  have hT := g.tb hc
  have hK := g.k hc
  have hD := g.d (σ := σ)
  have hS : va_S (gA G) s.heap s.heap [] := va_S.rf
  have hP := hc.2.2
  have hl := lv_entry ([.ref (gad G 0), .int r]) (n := 2) (Nat.le_of_ble_eq_true rfl)
  rw [lg_entry_eq]
  generalize (lg_sl ([.ref (gad G 0), .int r]) ++ List.replicate (2 - (lg_sl ([.ref (gad G 0), .int r])).length) Slot.unset).toArray = ls at hl ⊢
  have hl : lv_has ls 2 [(0, .ref (gad G 0)), (1, .int r)] := hl
  refine lv_iload_n hx hb d_Pc_whole_0 rfl (lv_at hl 1 rfl) ?_
  refine lv_bipush (v := 7) hx hb d_Pc_whole_1 (by decide) ?_
  refine cx_S (n := 2) (As := [.int r, .int 7]) (rest := []) ⟨hx, hb, hml, hown, fun _ h9 => nomatch h9⟩ (K_Pc_refuseOutside g σ r 7) (k_294 hT) (k_295 hT) (k_296 hT) (k_1 hT) rfl (by decide +kernel) (hc.at g hS hP) ⟨by decide, by decide⟩ ⟨by decide, by decide⟩ hl.1 (Nat.le_of_ble_eq_true rfl) d_Pc_whole_3 (fun _ h9 => h9) hS (fun E ce q t H1 locs ht9 hTx hz hk hS hce hcv hcl => ?_) (fun v t H locs ht9 hRt hz hk hS => ?_)
  · obtain ⟨u, hq, hP⟩ := hTx; rw [ht9] at hP; exact cx_out ht hlocks hce hcv hcl hS (fun t9 h9 _ => Tw.i (u := u) (⟨hq.1, hq.2.1, hq.2.2⟩) (by rw [h9]; exact hP)) (by decide) (by decide)
  · obtain ⟨u, rfl, ⟨hb3, eu⟩, hP⟩ := hRt
    rw [eu, ht9] at hP
    have hD : va_D (gA G) (cw G σ) := g.d
    refine W.eq (g2 := F0 m 6 ls []) rfl ?_
    refine lv_aload_n hx hb d_Pc_whole_6 rfl (lv_at hl 0 rfl) ?_
    refine va_get (D := gD G) (ci := 6) (v := .ref (gad G 3)) (C := R_Pc) (T := F_Pc) (N := 12) hx hb (wl_Pc hT) (fun _ h9 => h9) hown hK hP 0 rfl rfl 2 (by decide) (k_181 hT) (fun _ h9 => h9) rfl d_Pc_whole_7 ?_
    refine lv_iload_n hx hb d_Pc_whole_10 rfl (lv_at hl 1 rfl) ?_
    refine va_iald (f := (cJ σ 0)) hx hb hK hP 3 0 rfl rfl (badR_in (by decide) hb3) d_Pc_whole_11 ?_
    exact end_i (u := σ) hx hb hr hlocks hS hP d_Pc_whole_12 (⟨⟨hb3, rfl⟩, rfl⟩)

set_option maxHeartbeats 4000000 in
set_option maxRecDepth 100000 in
theorem K_Pc_fraction {l : Launch} {G : GT} (g : GOK l G) (σ : CS) (r : Int32) : cx_M l y_Pc_fraction (.code y_Pc_fraction b_Pc_fraction 2 (some .double)) 7 110 (gA G) [.ref (gad G 0), .int r] (Cw G σ) (Rd G (fun v u => (badR r 3 = false ∧ v = cF σ 1 (ix r)) ∧ u = σ)) (Tw G (fun E u => E = "java/lang/IllegalArgumentException" ∧ badR r 3 = true ∧ u = σ)) := by
  refine cx_of (by decide +kernel) ?_
  intro p e s m below meth c s₁ B hml ht hc
  have hx := B.exec
  have hb := B.bytes
  have hr := B.returns
  have hown : s.vm.findClass R_Pc = some m.cls := findClass_of_methodNamed B.named
  have hlocks := B.notSynchronized
  have hT := g.tb hc
  have hK := g.k hc
  have hD := g.d (σ := σ)
  have hS : va_S (gA G) s.heap s.heap [] := va_S.rf
  have hP := hc.2.2
  have hl := lv_entry ([.ref (gad G 0), .int r]) (n := 2) (Nat.le_of_ble_eq_true rfl)
  rw [lg_entry_eq]
  generalize (lg_sl ([.ref (gad G 0), .int r]) ++ List.replicate (2 - (lg_sl ([.ref (gad G 0), .int r])).length) Slot.unset).toArray = ls at hl ⊢
  have hl : lv_has ls 2 [(0, .ref (gad G 0)), (1, .int r)] := hl
  refine lv_iload_n hx hb d_Pc_fraction_0 rfl (lv_at hl 1 rfl) ?_
  refine lv_iconst (v := 3) hx hb d_Pc_fraction_1 (by decide) ?_
  refine cx_S (n := 2) (As := [.int r, .int 3]) (rest := []) ⟨hx, hb, hml, hown, fun _ h9 => nomatch h9⟩ (K_Pc_refuseOutside g σ r 3) (k_294 hT) (k_295 hT) (k_296 hT) (k_1 hT) rfl (by decide +kernel) (hc.at g hS hP) ⟨by decide, by decide⟩ ⟨by decide, by decide⟩ hl.1 (Nat.le_of_ble_eq_true rfl) d_Pc_fraction_2 (fun _ h9 => h9) hS (fun E ce q t H1 locs ht9 hTx hz hk hS hce hcv hcl => ?_) (fun v t H locs ht9 hRt hz hk hS => ?_)
  · obtain ⟨u, hq, hP⟩ := hTx; rw [ht9] at hP; exact cx_out ht hlocks hce hcv hcl hS (fun t9 h9 _ => Tw.i (u := u) (⟨hq.1, hq.2.1, hq.2.2⟩) (by rw [h9]; exact hP)) (by decide) (by decide)
  · obtain ⟨u, rfl, ⟨hb2, eu⟩, hP⟩ := hRt
    rw [eu, ht9] at hP
    have hD : va_D (gA G) (cw G σ) := g.d
    refine W.eq (g2 := F0 m 5 ls []) rfl ?_
    refine lv_aload_n hx hb d_Pc_fraction_5 rfl (lv_at hl 0 rfl) ?_
    refine va_get (D := gD G) (ci := 6) (v := .ref (gad G 4)) (C := R_Pc) (T := F_Pc) (N := 12) hx hb (wl_Pc hT) (fun _ h9 => h9) hown hK hP 0 rfl rfl 3 (by decide) (k_182 hT) (fun _ h9 => h9) rfl d_Pc_fraction_6 ?_
    refine lv_iload_n hx hb d_Pc_fraction_9 rfl (lv_at hl 1 rfl) ?_
    refine va_dald (f := (cF σ 1)) hx hb hK hP 4 1 rfl rfl (badR_in (by decide) hb2) d_Pc_fraction_10 ?_
    exact end_d (u := σ) hx hb hr hlocks hS hP d_Pc_fraction_11 (⟨⟨hb2, rfl⟩, rfl⟩)

set_option maxHeartbeats 4000000 in
set_option maxRecDepth 100000 in
theorem K_Pc_memory {l : Launch} {G : GT} (g : GOK l G) (σ : CS) (r : Int32) : cx_M l y_Pc_memory (.code y_Pc_memory b_Pc_memory 2 (some .double)) 7 110 (gA G) [.ref (gad G 0), .int r] (Cw G σ) (Rd G (fun v u => (badR r 47 = false ∧ v = cF σ 0 (ix r)) ∧ u = σ)) (Tw G (fun E u => E = "java/lang/IllegalArgumentException" ∧ badR r 47 = true ∧ u = σ)) := by
  refine cx_of (by decide +kernel) ?_
  intro p e s m below meth c s₁ B hml ht hc
  have hx := B.exec
  have hb := B.bytes
  have hr := B.returns
  have hown : s.vm.findClass R_Pc = some m.cls := findClass_of_methodNamed B.named
  have hlocks := B.notSynchronized
  have hT := g.tb hc
  have hK := g.k hc
  have hD := g.d (σ := σ)
  have hS : va_S (gA G) s.heap s.heap [] := va_S.rf
  have hP := hc.2.2
  have hl := lv_entry ([.ref (gad G 0), .int r]) (n := 2) (Nat.le_of_ble_eq_true rfl)
  rw [lg_entry_eq]
  generalize (lg_sl ([.ref (gad G 0), .int r]) ++ List.replicate (2 - (lg_sl ([.ref (gad G 0), .int r])).length) Slot.unset).toArray = ls at hl ⊢
  have hl : lv_has ls 2 [(0, .ref (gad G 0)), (1, .int r)] := hl
  refine lv_iload_n hx hb d_Pc_memory_0 rfl (lv_at hl 1 rfl) ?_
  refine lv_bipush (v := 47) hx hb d_Pc_memory_1 (by decide) ?_
  refine cx_S (n := 2) (As := [.int r, .int 47]) (rest := []) ⟨hx, hb, hml, hown, fun _ h9 => nomatch h9⟩ (K_Pc_refuseOutside g σ r 47) (k_294 hT) (k_295 hT) (k_296 hT) (k_1 hT) rfl (by decide +kernel) (hc.at g hS hP) ⟨by decide, by decide⟩ ⟨by decide, by decide⟩ hl.1 (Nat.le_of_ble_eq_true rfl) d_Pc_memory_3 (fun _ h9 => h9) hS (fun E ce q t H1 locs ht9 hTx hz hk hS hce hcv hcl => ?_) (fun v t H locs ht9 hRt hz hk hS => ?_)
  · obtain ⟨u, hq, hP⟩ := hTx; rw [ht9] at hP; exact cx_out ht hlocks hce hcv hcl hS (fun t9 h9 _ => Tw.i (u := u) (⟨hq.1, hq.2.1, hq.2.2⟩) (by rw [h9]; exact hP)) (by decide) (by decide)
  · obtain ⟨u, rfl, ⟨hb3, eu⟩, hP⟩ := hRt
    rw [eu, ht9] at hP
    have hD : va_D (gA G) (cw G σ) := g.d
    refine W.eq (g2 := F0 m 6 ls []) rfl ?_
    refine lv_aload_n hx hb d_Pc_memory_6 rfl (lv_at hl 0 rfl) ?_
    refine va_get (D := gD G) (ci := 6) (v := .ref (gad G 2)) (C := R_Pc) (T := F_Pc) (N := 12) hx hb (wl_Pc hT) (fun _ h9 => h9) hown hK hP 0 rfl rfl 1 (by decide) (k_180 hT) (fun _ h9 => h9) rfl d_Pc_memory_7 ?_
    refine lv_iload_n hx hb d_Pc_memory_10 rfl (lv_at hl 1 rfl) ?_
    refine va_dald (f := (cF σ 0)) hx hb hK hP 2 1 rfl rfl (badR_in (by decide) hb3) d_Pc_memory_11 ?_
    exact end_d (u := σ) hx hb hr hlocks hS hP d_Pc_memory_12 (⟨⟨hb3, rfl⟩, rfl⟩)

set_option maxHeartbeats 4000000 in
set_option maxRecDepth 100000 in
theorem K_Pc_told {l : Launch} {G : GT} (g : GOK l G) (σ : CS) (i w : Int32) (wf : Wf σ) : cx_M l y_Pc_told (.code y_Pc_told b_Pc_told 4 (some .int)) 7 110 (gA G) [.ref (gad G 0), .int i, .int w] (Cw G σ) (Ri G (fun v u => ((badR i 23 = false ∧ badR w 4 = false) ∧ v = toldF (cQ σ (cP σ 0 (ix i))) w) ∧ u = σ)) (Tw G (fun E u => E = "java/lang/IllegalArgumentException" ∧ (badR i 23 = true ∨ badR w 4 = true) ∧ u = σ)) := by
  refine cx_of (by decide +kernel) ?_
  intro p e s m below meth c s₁ B hml ht hc
  have hx := B.exec
  have hb := B.bytes
  have hr := B.returns
  have hown : s.vm.findClass R_Pc = some m.cls := findClass_of_methodNamed B.named
  have hlocks := B.notSynchronized
  have hT := g.tb hc
  have hK := g.k hc
  have hD := g.d (σ := σ)
  have hS : va_S (gA G) s.heap s.heap [] := va_S.rf
  have hP := hc.2.2
  have hl := lv_entry ([.ref (gad G 0), .int i, .int w]) (n := 4) (Nat.le_of_ble_eq_true rfl)
  rw [lg_entry_eq]
  generalize (lg_sl ([.ref (gad G 0), .int i, .int w]) ++ List.replicate (4 - (lg_sl ([.ref (gad G 0), .int i, .int w])).length) Slot.unset).toArray = ls at hl ⊢
  have hl : lv_has ls 4 [(0, .ref (gad G 0)), (1, .int i), (2, .int w)] := hl
  refine lv_iload_n hx hb d_Pc_told_0 rfl (lv_at hl 1 rfl) ?_
  refine lv_bipush (v := 23) hx hb d_Pc_told_1 (by decide) ?_
  refine cx_S (n := 2) (As := [.int i, .int 23]) (rest := []) ⟨hx, hb, hml, hown, fun _ h9 => nomatch h9⟩ (K_Pc_refuseOutside g σ i 23) (k_294 hT) (k_295 hT) (k_296 hT) (k_1 hT) rfl (by decide +kernel) (hc.at g hS hP) ⟨by decide, by decide⟩ ⟨by decide, by decide⟩ hl.1 (Nat.le_of_ble_eq_true rfl) d_Pc_told_3 (fun _ h9 => h9) hS (fun E ce q t H1 locs ht9 hTx hz hk hS hce hcv hcl => ?_) (fun v t H locs ht9 hRt hz hk hS => ?_)
  · obtain ⟨u, hq, hP⟩ := hTx; rw [ht9] at hP; exact cx_out ht hlocks hce hcv hcl hS (fun t9 h9 _ => Tw.i (u := u) (⟨hq.1, Or.inl hq.2.1, hq.2.2⟩) (by rw [h9]; exact hP)) (by decide) (by decide)
  · obtain ⟨u, rfl, ⟨hb3, eu⟩, hP⟩ := hRt
    rw [eu, ht9] at hP
    have hD : va_D (gA G) (cw G σ) := g.d
    refine W.eq (g2 := F0 m 6 ls []) rfl ?_
    refine lv_iload_n hx hb d_Pc_told_6 rfl (lv_at hl 2 rfl) ?_
    refine lv_iconst (v := 4) hx hb d_Pc_told_7 (by decide) ?_
    refine cx_S (n := 2) (As := [.int w, .int 4]) (rest := []) ⟨hx, hb, hml, hown, fun _ h9 => nomatch h9⟩ (K_Pc_refuseOutside g σ w 4) (k_294 hT) (k_295 hT) (k_296 hT) (k_1 hT) rfl (by decide +kernel) (hc.at g hS hP) ⟨by decide, by decide⟩ ⟨by decide, by decide⟩ hl.1 (Nat.le_of_ble_eq_true rfl) d_Pc_told_8 (fun _ h9 => h9) hS (fun E ce q t H1 locs ht9 hTx hz hk hS hce hcv hcl => ?_) (fun v t H locs ht9 hRt hz hk hS => ?_)
    · obtain ⟨u, hq, hP⟩ := hTx; rw [ht9] at hP; exact cx_out ht hlocks hce hcv hcl hS (fun t9 h9 _ => Tw.i (u := u) (⟨hq.1, Or.inr hq.2.1, hq.2.2⟩) (by rw [h9]; exact hP)) (by decide) (by decide)
    · obtain ⟨u, rfl, ⟨hb8, eu⟩, hP⟩ := hRt
      rw [eu, ht9] at hP
      have hD : va_D (gA G) (cw G σ) := g.d
      refine W.eq (g2 := F0 m 11 ls []) rfl ?_
      refine lv_aload_n hx hb d_Pc_told_11 rfl (lv_at hl 0 rfl) ?_
      refine va_get (D := gD G) (ci := 6) (v := .ref (gad G 1)) (C := R_Pc) (T := F_Pc) (N := 12) hx hb (wl_Pc hT) (fun _ h9 => h9) hown hK hP 0 rfl rfl 0 (by decide) (k_179 hT) (fun _ h9 => h9) rfl d_Pc_told_12 ?_
      refine lv_iload_n hx hb d_Pc_told_15 rfl (lv_at hl 1 rfl) ?_
      refine ald_r (v := gia G ((cP σ 0) i.toNatClampNeg)) hx hb hK hP 1 3 rfl rfl (badR_in (by decide) hb3) (if_pos (wf.2.1 _ (vp_lt (badR_in (by decide) hb3)))) d_Pc_told_16 ?_
      refine lv_astore_n (lv' := [(3, .ref (gia G ((cP σ 0) i.toNatClampNeg))), (0, .ref (gad G 0)), (1, .int i), (2, .int w)]) hx hb d_Pc_told_17 rfl hl (by decide) rfl (fun ls hl => ?_)
      refine lv_iload_n hx hb d_Pc_told_18 rfl (lv_at hl 3 rfl) ?_
      by_cases c19_0 : w = 0
      · refine lv_tableIn (tgt := 48) hx hb d_Pc_told_19 (by rw [c19_0]; decide) (by rw [c19_0]; decide) (by rw [c19_0]; rfl) (by decide) ?_
        refine lv_aload_n hx hb d_Pc_told_48 rfl (lv_at hl 0 rfl) ?_
        refine va_get (D := gD G) (ci := 3) (v := .int (cQ σ ((cP σ 0) i.toNatClampNeg) 0)) (C := R_In) (T := F_In) (N := 8) hx hb (wl_In hT) (fun _ h9 => h9) hown hK hP (19 + ((cP σ 0) i.toNatClampNeg)) (cw_in (wf.2.1 _ (vp_lt (badR_in (by decide) hb3)))) rfl 0 (by decide) (k_147 hT) (fun _ h9 => h9) rfl d_Pc_told_49 ?_
        exact end_i (u := σ) hx hb hr hlocks hS hP d_Pc_told_52 (⟨⟨⟨hb3, hb8⟩, by simp [toldF, ix, c19_0]⟩, rfl⟩)
      by_cases c19_1 : w = 1
      · refine lv_tableIn (tgt := 53) hx hb d_Pc_told_19 (by rw [c19_1]; decide) (by rw [c19_1]; decide) (by rw [c19_1]; rfl) (by decide) ?_
        refine lv_aload_n hx hb d_Pc_told_53 rfl (lv_at hl 0 rfl) ?_
        refine va_get (D := gD G) (ci := 3) (v := .int (cQ σ ((cP σ 0) i.toNatClampNeg) 1)) (C := R_In) (T := F_In) (N := 8) hx hb (wl_In hT) (fun _ h9 => h9) hown hK hP (19 + ((cP σ 0) i.toNatClampNeg)) (cw_in (wf.2.1 _ (vp_lt (badR_in (by decide) hb3)))) rfl 1 (by decide) (k_149 hT) (fun _ h9 => h9) rfl d_Pc_told_54 ?_
        exact end_i (u := σ) hx hb hr hlocks hS hP d_Pc_told_57 (⟨⟨⟨hb3, hb8⟩, by simp [toldF, ix, c19_0, c19_1]⟩, rfl⟩)
      by_cases c19_2 : w = 2
      · refine lv_tableIn (tgt := 58) hx hb d_Pc_told_19 (by rw [c19_2]; decide) (by rw [c19_2]; decide) (by rw [c19_2]; rfl) (by decide) ?_
        refine lv_aload_n hx hb d_Pc_told_58 rfl (lv_at hl 0 rfl) ?_
        refine va_get (D := gD G) (ci := 3) (v := .int (cQ σ ((cP σ 0) i.toNatClampNeg) 2)) (C := R_In) (T := F_In) (N := 8) hx hb (wl_In hT) (fun _ h9 => h9) hown hK hP (19 + ((cP σ 0) i.toNatClampNeg)) (cw_in (wf.2.1 _ (vp_lt (badR_in (by decide) hb3)))) rfl 2 (by decide) (k_151 hT) (fun _ h9 => h9) rfl d_Pc_told_59 ?_
        exact end_i (u := σ) hx hb hr hlocks hS hP d_Pc_told_62 (⟨⟨⟨hb3, hb8⟩, by simp [toldF, ix, c19_0, c19_1, c19_2]⟩, rfl⟩)
      by_cases c19_3 : w = 3
      · refine lv_tableIn (tgt := 63) hx hb d_Pc_told_19 (by rw [c19_3]; decide) (by rw [c19_3]; decide) (by rw [c19_3]; rfl) (by decide) ?_
        refine lv_aload_n hx hb d_Pc_told_63 rfl (lv_at hl 0 rfl) ?_
        refine va_get (D := gD G) (ci := 3) (v := .int (cQ σ ((cP σ 0) i.toNatClampNeg) 3)) (C := R_In) (T := F_In) (N := 8) hx hb (wl_In hT) (fun _ h9 => h9) hown hK hP (19 + ((cP σ 0) i.toNatClampNeg)) (cw_in (wf.2.1 _ (vp_lt (badR_in (by decide) hb3)))) rfl 3 (by decide) (k_153 hT) (fun _ h9 => h9) rfl d_Pc_told_64 ?_
        exact end_i (u := σ) hx hb hr hlocks hS hP d_Pc_told_67 (⟨⟨⟨hb3, hb8⟩, by simp [toldF, ix, c19_0, c19_1, c19_2, c19_3]⟩, rfl⟩)
      refine lv_tableOut (tgt := 68) hx hb d_Pc_told_19 (tsw_out (n := 4) (l := [0, 1, 2, 3]) (by decide) (by decide) (by simp [c19_0, c19_1, c19_2, c19_3])) (by decide) ?_
      refine lv_aload_n hx hb d_Pc_told_68 rfl (lv_at hl 0 rfl) ?_
      refine va_get (D := gD G) (ci := 3) (v := .int (cQ σ ((cP σ 0) i.toNatClampNeg) 4)) (C := R_In) (T := F_In) (N := 8) hx hb (wl_In hT) (fun _ h9 => h9) hown hK hP (19 + ((cP σ 0) i.toNatClampNeg)) (cw_in (wf.2.1 _ (vp_lt (badR_in (by decide) hb3)))) rfl 4 (by decide) (k_155 hT) (fun _ h9 => h9) rfl d_Pc_told_69 ?_
      exact end_i (u := σ) hx hb hr hlocks hS hP d_Pc_told_72 (⟨⟨⟨hb3, hb8⟩, by simp [toldF, ix, c19_0, c19_1, c19_2, c19_3]⟩, rfl⟩)

set_option maxHeartbeats 4000000 in
set_option maxRecDepth 100000 in
theorem K_Pc_count {l : Launch} {G : GT} (g : GOK l G) (σ : CS) (w : Int32) : cx_M l y_Pc_count (.code y_Pc_count b_Pc_count 2 (some .int)) 0 0 (gA G) [.ref (gad G 0), .int w] (Cw G σ) (Ri G (fun v u => v = cntF σ w ∧ u = σ)) (Tn) := by
  refine cx_of (by decide +kernel) ?_
  intro p e s m below meth c s₁ B hml ht hc
  have hx := B.exec
  have hb := B.bytes
  have hr := B.returns
  have hown : s.vm.findClass R_Pc = some m.cls := findClass_of_methodNamed B.named
  have hlocks := B.notSynchronized
  have hT := g.tb hc
  have hK := g.k hc
  have hD := g.d (σ := σ)
  have hS : va_S (gA G) s.heap s.heap [] := va_S.rf
  have hP := hc.2.2
  have hl := lv_entry ([.ref (gad G 0), .int w]) (n := 2) (Nat.le_of_ble_eq_true rfl)
  rw [lg_entry_eq]
  generalize (lg_sl ([.ref (gad G 0), .int w]) ++ List.replicate (2 - (lg_sl ([.ref (gad G 0), .int w])).length) Slot.unset).toArray = ls at hl ⊢
  have hl : lv_has ls 2 [(0, .ref (gad G 0)), (1, .int w)] := hl
  refine lv_iload_n hx hb d_Pc_count_0 rfl (lv_at hl 1 rfl) ?_
  refine lv_bipush (v := 10) hx hb d_Pc_count_1 (by decide) ?_
  refine lv_icmp_lt (tgt := 25) hx hb d_Pc_count_3 (by decide) (fun c3 => ?_) (fun c3 => ?_)
  · refine lv_iload_n hx hb d_Pc_count_25 rfl (lv_at hl 1 rfl) ?_
    refine lv_bipush (v := 20) hx hb d_Pc_count_26 (by decide) ?_
    refine lv_icmp_lt (tgt := 53) hx hb d_Pc_count_28 (by decide) (fun c28 => ?_) (fun c28 => ?_)
    · refine lv_iload_n hx hb d_Pc_count_53 rfl (lv_at hl 1 rfl) ?_
      by_cases c54_0 : w = 0
      · refine lv_tableIn (tgt := 96) hx hb d_Pc_count_54 (by rw [c54_0]; decide) (by rw [c54_0]; decide) (by rw [c54_0]; rfl) (by decide) ?_
        refine lv_aload_n hx hb d_Pc_count_96 rfl (lv_at hl 0 rfl) ?_
        refine va_get (D := gD G) (ci := 6) (v := .int (cI σ 0)) (C := R_Pc) (T := F_Pc) (N := 12) hx hb (wl_Pc hT) (fun _ h9 => h9) hown hK hP 0 rfl rfl 9 (by decide) (k_188 hT) (fun _ h9 => h9) rfl d_Pc_count_97 ?_
        exact end_i (u := σ) hx hb hr hlocks hS hP d_Pc_count_100 (⟨by simp [cntF, ix, c3, c28, c54_0], rfl⟩)
      by_cases c54_1 : w = 1
      · refine lv_tableIn (tgt := 101) hx hb d_Pc_count_54 (by rw [c54_1]; decide) (by rw [c54_1]; decide) (by rw [c54_1]; rfl) (by decide) ?_
        refine lv_aload_n hx hb d_Pc_count_101 rfl (lv_at hl 0 rfl) ?_
        refine va_get (D := gD G) (ci := 6) (v := .int (cI σ 1)) (C := R_Pc) (T := F_Pc) (N := 12) hx hb (wl_Pc hT) (fun _ h9 => h9) hown hK hP 0 rfl rfl 10 (by decide) (k_189 hT) (fun _ h9 => h9) rfl d_Pc_count_102 ?_
        refine lv_if_eq (tgt := 112) hx hb d_Pc_count_105 (by decide) (fun c105 => ?_) (fun c105 => ?_)
        · refine lv_iconst (v := 0) hx hb d_Pc_count_112 (by decide) ?_
          exact end_i (u := σ) hx hb hr hlocks hS hP d_Pc_count_113 (⟨by simp [cntF, ix, c3, c28, c54_0, c54_1, c105], rfl⟩)
        · refine lv_iconst (v := 1) hx hb d_Pc_count_108 (by decide) ?_
          refine lv_goto (tgt := 113) hx hb d_Pc_count_109 (by decide) ?_
          exact end_i (u := σ) hx hb hr hlocks hS hP d_Pc_count_113 (⟨by simp [cntF, ix, c3, c28, c54_0, c54_1, c105], rfl⟩)
      by_cases c54_2 : w = 2
      · refine lv_tableIn (tgt := 114) hx hb d_Pc_count_54 (by rw [c54_2]; decide) (by rw [c54_2]; decide) (by rw [c54_2]; rfl) (by decide) ?_
        refine lv_aload_n hx hb d_Pc_count_114 rfl (lv_at hl 0 rfl) ?_
        refine va_get (D := gD G) (ci := 6) (v := .int (cI σ 2)) (C := R_Pc) (T := F_Pc) (N := 12) hx hb (wl_Pc hT) (fun _ h9 => h9) hown hK hP 0 rfl rfl 11 (by decide) (k_190 hT) (fun _ h9 => h9) rfl d_Pc_count_115 ?_
        exact end_i (u := σ) hx hb hr hlocks hS hP d_Pc_count_118 (⟨by simp [cntF, ix, c3, c28, c54_0, c54_1, c54_2], rfl⟩)
      by_cases c54_3 : w = 3
      · refine lv_tableIn (tgt := 119) hx hb d_Pc_count_54 (by rw [c54_3]; decide) (by rw [c54_3]; decide) (by rw [c54_3]; rfl) (by decide) ?_
        refine lv_aload_n hx hb d_Pc_count_119 rfl (lv_at hl 0 rfl) ?_
        refine va_get (D := gD G) (ci := 6) (v := .ref (gad G 5)) (C := R_Pc) (T := F_Pc) (N := 12) hx hb (wl_Pc hT) (fun _ h9 => h9) hown hK hP 0 rfl rfl 4 (by decide) (k_183 hT) (fun _ h9 => h9) rfl d_Pc_count_120 ?_
        refine va_get (D := gD G) (ci := 0) (v := .int (cI σ 3)) (C := R_Ck) (T := F_Ck) (N := 5) hx hb (wl_Ck hT) (fun _ h9 => h9) hown hK hP 5 rfl rfl 1 (by decide) (k_37 hT) (fun _ h9 => h9) rfl d_Pc_count_123 ?_
        exact end_i (u := σ) hx hb hr hlocks hS hP d_Pc_count_126 (⟨by simp [cntF, ix, c3, c28, c54_0, c54_1, c54_2, c54_3], rfl⟩)
      by_cases c54_4 : w = 4
      · refine lv_tableIn (tgt := 127) hx hb d_Pc_count_54 (by rw [c54_4]; decide) (by rw [c54_4]; decide) (by rw [c54_4]; rfl) (by decide) ?_
        refine lv_aload_n hx hb d_Pc_count_127 rfl (lv_at hl 0 rfl) ?_
        refine va_get (D := gD G) (ci := 6) (v := .ref (gad G 7)) (C := R_Pc) (T := F_Pc) (N := 12) hx hb (wl_Pc hT) (fun _ h9 => h9) hown hK hP 0 rfl rfl 5 (by decide) (k_184 hT) (fun _ h9 => h9) rfl d_Pc_count_128 ?_
        refine va_get (D := gD G) (ci := 1) (v := .int (cI σ 7)) (C := R_Cc) (T := F_Cc) (N := 2) hx hb (wl_Cc hT) (fun _ h9 => h9) hown hK hP 7 rfl rfl 0 (by decide) (k_68 hT) (fun _ h9 => h9) rfl d_Pc_count_131 ?_
        exact end_i (u := σ) hx hb hr hlocks hS hP d_Pc_count_134 (⟨by simp [cntF, ix, c3, c28, c54_0, c54_1, c54_2, c54_3, c54_4], rfl⟩)
      by_cases c54_5 : w = 5
      · refine lv_tableIn (tgt := 135) hx hb d_Pc_count_54 (by rw [c54_5]; decide) (by rw [c54_5]; decide) (by rw [c54_5]; rfl) (by decide) ?_
        refine lv_aload_n hx hb d_Pc_count_135 rfl (lv_at hl 0 rfl) ?_
        refine va_get (D := gD G) (ci := 6) (v := .ref (gad G 9)) (C := R_Pc) (T := F_Pc) (N := 12) hx hb (wl_Pc hT) (fun _ h9 => h9) hown hK hP 0 rfl rfl 6 (by decide) (k_185 hT) (fun _ h9 => h9) rfl d_Pc_count_136 ?_
        refine va_get (D := gD G) (ci := 2) (v := .int (cI σ 8)) (C := R_Dc) (T := F_Dc) (N := 4) hx hb (wl_Dc hT) (fun _ h9 => h9) hown hK hP 9 rfl rfl 0 (by decide) (k_87 hT) (fun _ h9 => h9) rfl d_Pc_count_139 ?_
        exact end_i (u := σ) hx hb hr hlocks hS hP d_Pc_count_142 (⟨by simp [cntF, ix, c3, c28, c54_0, c54_1, c54_2, c54_3, c54_4, c54_5], rfl⟩)
      by_cases c54_6 : w = 6
      · refine lv_tableIn (tgt := 143) hx hb d_Pc_count_54 (by rw [c54_6]; decide) (by rw [c54_6]; decide) (by rw [c54_6]; rfl) (by decide) ?_
        refine lv_aload_n hx hb d_Pc_count_143 rfl (lv_at hl 0 rfl) ?_
        refine va_get (D := gD G) (ci := 6) (v := .ref (gad G 12)) (C := R_Pc) (T := F_Pc) (N := 12) hx hb (wl_Pc hT) (fun _ h9 => h9) hown hK hP 0 rfl rfl 7 (by decide) (k_186 hT) (fun _ h9 => h9) rfl d_Pc_count_144 ?_
        refine va_get (D := gD G) (ci := 4) (v := .int (cI σ 10)) (C := R_Pr) (T := F_Pr) (N := 2) hx hb (wl_Pr hT) (fun _ h9 => h9) hown hK hP 12 rfl rfl 0 (by decide) (k_112 hT) (fun _ h9 => h9) rfl d_Pc_count_147 ?_
        exact end_i (u := σ) hx hb hr hlocks hS hP d_Pc_count_150 (⟨by simp [cntF, ix, c3, c28, c54_0, c54_1, c54_2, c54_3, c54_4, c54_5, c54_6], rfl⟩)
      refine lv_tableOut (tgt := 151) hx hb d_Pc_count_54 (tsw_out (n := 7) (l := [0, 1, 2, 3, 4, 5, 6]) (by decide) (by decide) (by simp [c54_0, c54_1, c54_2, c54_3, c54_4, c54_5, c54_6])) (by decide) ?_
      refine lv_bipush (v := (-2)) hx hb d_Pc_count_151 (by decide) ?_
      exact end_i (u := σ) hx hb hr hlocks hS hP d_Pc_count_153 (⟨by simp [cntF, ix, c3, c28, c54_0, c54_1, c54_2, c54_3, c54_4, c54_5, c54_6], rfl⟩)
    · refine lv_iload_n hx hb d_Pc_count_31 rfl (lv_at hl 1 rfl) ?_
      refine lv_bipush (v := 24) hx hb d_Pc_count_32 (by decide) ?_
      refine lv_icmp_ge (tgt := 53) hx hb d_Pc_count_34 (by decide) (fun c34 => ?_) (fun c34 => ?_)
      · refine lv_iload_n hx hb d_Pc_count_53 rfl (lv_at hl 1 rfl) ?_
        by_cases c54_0 : w = 0
        · refine lv_tableIn (tgt := 96) hx hb d_Pc_count_54 (by rw [c54_0]; decide) (by rw [c54_0]; decide) (by rw [c54_0]; rfl) (by decide) ?_
          refine lv_aload_n hx hb d_Pc_count_96 rfl (lv_at hl 0 rfl) ?_
          refine va_get (D := gD G) (ci := 6) (v := .int (cI σ 0)) (C := R_Pc) (T := F_Pc) (N := 12) hx hb (wl_Pc hT) (fun _ h9 => h9) hown hK hP 0 rfl rfl 9 (by decide) (k_188 hT) (fun _ h9 => h9) rfl d_Pc_count_97 ?_
          exact end_i (u := σ) hx hb hr hlocks hS hP d_Pc_count_100 (⟨by simp [cntF, ix, c3, c28, c34, c54_0], rfl⟩)
        by_cases c54_1 : w = 1
        · refine lv_tableIn (tgt := 101) hx hb d_Pc_count_54 (by rw [c54_1]; decide) (by rw [c54_1]; decide) (by rw [c54_1]; rfl) (by decide) ?_
          refine lv_aload_n hx hb d_Pc_count_101 rfl (lv_at hl 0 rfl) ?_
          refine va_get (D := gD G) (ci := 6) (v := .int (cI σ 1)) (C := R_Pc) (T := F_Pc) (N := 12) hx hb (wl_Pc hT) (fun _ h9 => h9) hown hK hP 0 rfl rfl 10 (by decide) (k_189 hT) (fun _ h9 => h9) rfl d_Pc_count_102 ?_
          refine lv_if_eq (tgt := 112) hx hb d_Pc_count_105 (by decide) (fun c105 => ?_) (fun c105 => ?_)
          · refine lv_iconst (v := 0) hx hb d_Pc_count_112 (by decide) ?_
            exact end_i (u := σ) hx hb hr hlocks hS hP d_Pc_count_113 (⟨by simp [cntF, ix, c3, c28, c34, c54_0, c54_1, c105], rfl⟩)
          · refine lv_iconst (v := 1) hx hb d_Pc_count_108 (by decide) ?_
            refine lv_goto (tgt := 113) hx hb d_Pc_count_109 (by decide) ?_
            exact end_i (u := σ) hx hb hr hlocks hS hP d_Pc_count_113 (⟨by simp [cntF, ix, c3, c28, c34, c54_0, c54_1, c105], rfl⟩)
        by_cases c54_2 : w = 2
        · refine lv_tableIn (tgt := 114) hx hb d_Pc_count_54 (by rw [c54_2]; decide) (by rw [c54_2]; decide) (by rw [c54_2]; rfl) (by decide) ?_
          refine lv_aload_n hx hb d_Pc_count_114 rfl (lv_at hl 0 rfl) ?_
          refine va_get (D := gD G) (ci := 6) (v := .int (cI σ 2)) (C := R_Pc) (T := F_Pc) (N := 12) hx hb (wl_Pc hT) (fun _ h9 => h9) hown hK hP 0 rfl rfl 11 (by decide) (k_190 hT) (fun _ h9 => h9) rfl d_Pc_count_115 ?_
          exact end_i (u := σ) hx hb hr hlocks hS hP d_Pc_count_118 (⟨by simp [cntF, ix, c3, c28, c34, c54_0, c54_1, c54_2], rfl⟩)
        by_cases c54_3 : w = 3
        · refine lv_tableIn (tgt := 119) hx hb d_Pc_count_54 (by rw [c54_3]; decide) (by rw [c54_3]; decide) (by rw [c54_3]; rfl) (by decide) ?_
          refine lv_aload_n hx hb d_Pc_count_119 rfl (lv_at hl 0 rfl) ?_
          refine va_get (D := gD G) (ci := 6) (v := .ref (gad G 5)) (C := R_Pc) (T := F_Pc) (N := 12) hx hb (wl_Pc hT) (fun _ h9 => h9) hown hK hP 0 rfl rfl 4 (by decide) (k_183 hT) (fun _ h9 => h9) rfl d_Pc_count_120 ?_
          refine va_get (D := gD G) (ci := 0) (v := .int (cI σ 3)) (C := R_Ck) (T := F_Ck) (N := 5) hx hb (wl_Ck hT) (fun _ h9 => h9) hown hK hP 5 rfl rfl 1 (by decide) (k_37 hT) (fun _ h9 => h9) rfl d_Pc_count_123 ?_
          exact end_i (u := σ) hx hb hr hlocks hS hP d_Pc_count_126 (⟨by simp [cntF, ix, c3, c28, c34, c54_0, c54_1, c54_2, c54_3], rfl⟩)
        by_cases c54_4 : w = 4
        · refine lv_tableIn (tgt := 127) hx hb d_Pc_count_54 (by rw [c54_4]; decide) (by rw [c54_4]; decide) (by rw [c54_4]; rfl) (by decide) ?_
          refine lv_aload_n hx hb d_Pc_count_127 rfl (lv_at hl 0 rfl) ?_
          refine va_get (D := gD G) (ci := 6) (v := .ref (gad G 7)) (C := R_Pc) (T := F_Pc) (N := 12) hx hb (wl_Pc hT) (fun _ h9 => h9) hown hK hP 0 rfl rfl 5 (by decide) (k_184 hT) (fun _ h9 => h9) rfl d_Pc_count_128 ?_
          refine va_get (D := gD G) (ci := 1) (v := .int (cI σ 7)) (C := R_Cc) (T := F_Cc) (N := 2) hx hb (wl_Cc hT) (fun _ h9 => h9) hown hK hP 7 rfl rfl 0 (by decide) (k_68 hT) (fun _ h9 => h9) rfl d_Pc_count_131 ?_
          exact end_i (u := σ) hx hb hr hlocks hS hP d_Pc_count_134 (⟨by simp [cntF, ix, c3, c28, c34, c54_0, c54_1, c54_2, c54_3, c54_4], rfl⟩)
        by_cases c54_5 : w = 5
        · refine lv_tableIn (tgt := 135) hx hb d_Pc_count_54 (by rw [c54_5]; decide) (by rw [c54_5]; decide) (by rw [c54_5]; rfl) (by decide) ?_
          refine lv_aload_n hx hb d_Pc_count_135 rfl (lv_at hl 0 rfl) ?_
          refine va_get (D := gD G) (ci := 6) (v := .ref (gad G 9)) (C := R_Pc) (T := F_Pc) (N := 12) hx hb (wl_Pc hT) (fun _ h9 => h9) hown hK hP 0 rfl rfl 6 (by decide) (k_185 hT) (fun _ h9 => h9) rfl d_Pc_count_136 ?_
          refine va_get (D := gD G) (ci := 2) (v := .int (cI σ 8)) (C := R_Dc) (T := F_Dc) (N := 4) hx hb (wl_Dc hT) (fun _ h9 => h9) hown hK hP 9 rfl rfl 0 (by decide) (k_87 hT) (fun _ h9 => h9) rfl d_Pc_count_139 ?_
          exact end_i (u := σ) hx hb hr hlocks hS hP d_Pc_count_142 (⟨by simp [cntF, ix, c3, c28, c34, c54_0, c54_1, c54_2, c54_3, c54_4, c54_5], rfl⟩)
        by_cases c54_6 : w = 6
        · refine lv_tableIn (tgt := 143) hx hb d_Pc_count_54 (by rw [c54_6]; decide) (by rw [c54_6]; decide) (by rw [c54_6]; rfl) (by decide) ?_
          refine lv_aload_n hx hb d_Pc_count_143 rfl (lv_at hl 0 rfl) ?_
          refine va_get (D := gD G) (ci := 6) (v := .ref (gad G 12)) (C := R_Pc) (T := F_Pc) (N := 12) hx hb (wl_Pc hT) (fun _ h9 => h9) hown hK hP 0 rfl rfl 7 (by decide) (k_186 hT) (fun _ h9 => h9) rfl d_Pc_count_144 ?_
          refine va_get (D := gD G) (ci := 4) (v := .int (cI σ 10)) (C := R_Pr) (T := F_Pr) (N := 2) hx hb (wl_Pr hT) (fun _ h9 => h9) hown hK hP 12 rfl rfl 0 (by decide) (k_112 hT) (fun _ h9 => h9) rfl d_Pc_count_147 ?_
          exact end_i (u := σ) hx hb hr hlocks hS hP d_Pc_count_150 (⟨by simp [cntF, ix, c3, c28, c34, c54_0, c54_1, c54_2, c54_3, c54_4, c54_5, c54_6], rfl⟩)
        refine lv_tableOut (tgt := 151) hx hb d_Pc_count_54 (tsw_out (n := 7) (l := [0, 1, 2, 3, 4, 5, 6]) (by decide) (by decide) (by simp [c54_0, c54_1, c54_2, c54_3, c54_4, c54_5, c54_6])) (by decide) ?_
        refine lv_bipush (v := (-2)) hx hb d_Pc_count_151 (by decide) ?_
        exact end_i (u := σ) hx hb hr hlocks hS hP d_Pc_count_153 (⟨by simp [cntF, ix, c3, c28, c34, c54_0, c54_1, c54_2, c54_3, c54_4, c54_5, c54_6], rfl⟩)
      · refine lv_aload_n hx hb d_Pc_count_37 rfl (lv_at hl 0 rfl) ?_
        refine va_get (D := gD G) (ci := 6) (v := .ref (gad G 5)) (C := R_Pc) (T := F_Pc) (N := 12) hx hb (wl_Pc hT) (fun _ h9 => h9) hown hK hP 0 rfl rfl 4 (by decide) (k_183 hT) (fun _ h9 => h9) rfl d_Pc_count_38 ?_
        refine va_get (D := gD G) (ci := 0) (v := .ref (gad G 6)) (C := R_Ck) (T := F_Ck) (N := 5) hx hb (wl_Ck hT) (fun _ h9 => h9) hown hK hP 5 rfl rfl 0 (by decide) (k_35 hT) (fun _ h9 => h9) rfl d_Pc_count_41 ?_
        refine lv_bipush (v := 8) hx hb d_Pc_count_44 (by decide) ?_
        refine lv_iload_n hx hb d_Pc_count_46 rfl (lv_at hl 1 rfl) ?_
        refine lv_iadd hx hb d_Pc_count_47 ?_
        refine lv_bipush (v := 20) hx hb d_Pc_count_48 (by decide) ?_
        refine lv_isub hx hb d_Pc_count_50 ?_
        refine va_iald (f := (cJ σ 1)) hx hb hK hP 6 0 rfl rfl (cnt2 c28 c34) d_Pc_count_51 ?_
        exact end_i (u := σ) hx hb hr hlocks hS hP d_Pc_count_52 (⟨by simp [cntF, ix, c3, c28, c34], rfl⟩)
  · refine lv_iload_n hx hb d_Pc_count_6 rfl (lv_at hl 1 rfl) ?_
    refine lv_bipush (v := 18) hx hb d_Pc_count_7 (by decide) ?_
    refine lv_icmp_ge (tgt := 25) hx hb d_Pc_count_9 (by decide) (fun c9 => ?_) (fun c9 => ?_)
    · refine lv_iload_n hx hb d_Pc_count_25 rfl (lv_at hl 1 rfl) ?_
      refine lv_bipush (v := 20) hx hb d_Pc_count_26 (by decide) ?_
      refine lv_icmp_lt (tgt := 53) hx hb d_Pc_count_28 (by decide) (fun c28 => ?_) (fun c28 => ?_)
      · refine lv_iload_n hx hb d_Pc_count_53 rfl (lv_at hl 1 rfl) ?_
        by_cases c54_0 : w = 0
        · refine lv_tableIn (tgt := 96) hx hb d_Pc_count_54 (by rw [c54_0]; decide) (by rw [c54_0]; decide) (by rw [c54_0]; rfl) (by decide) ?_
          refine lv_aload_n hx hb d_Pc_count_96 rfl (lv_at hl 0 rfl) ?_
          refine va_get (D := gD G) (ci := 6) (v := .int (cI σ 0)) (C := R_Pc) (T := F_Pc) (N := 12) hx hb (wl_Pc hT) (fun _ h9 => h9) hown hK hP 0 rfl rfl 9 (by decide) (k_188 hT) (fun _ h9 => h9) rfl d_Pc_count_97 ?_
          exact end_i (u := σ) hx hb hr hlocks hS hP d_Pc_count_100 (⟨by simp [cntF, ix, c3, c9, c28, c54_0], rfl⟩)
        by_cases c54_1 : w = 1
        · refine lv_tableIn (tgt := 101) hx hb d_Pc_count_54 (by rw [c54_1]; decide) (by rw [c54_1]; decide) (by rw [c54_1]; rfl) (by decide) ?_
          refine lv_aload_n hx hb d_Pc_count_101 rfl (lv_at hl 0 rfl) ?_
          refine va_get (D := gD G) (ci := 6) (v := .int (cI σ 1)) (C := R_Pc) (T := F_Pc) (N := 12) hx hb (wl_Pc hT) (fun _ h9 => h9) hown hK hP 0 rfl rfl 10 (by decide) (k_189 hT) (fun _ h9 => h9) rfl d_Pc_count_102 ?_
          refine lv_if_eq (tgt := 112) hx hb d_Pc_count_105 (by decide) (fun c105 => ?_) (fun c105 => ?_)
          · refine lv_iconst (v := 0) hx hb d_Pc_count_112 (by decide) ?_
            exact end_i (u := σ) hx hb hr hlocks hS hP d_Pc_count_113 (⟨by simp [cntF, ix, c3, c9, c28, c54_0, c54_1, c105], rfl⟩)
          · refine lv_iconst (v := 1) hx hb d_Pc_count_108 (by decide) ?_
            refine lv_goto (tgt := 113) hx hb d_Pc_count_109 (by decide) ?_
            exact end_i (u := σ) hx hb hr hlocks hS hP d_Pc_count_113 (⟨by simp [cntF, ix, c3, c9, c28, c54_0, c54_1, c105], rfl⟩)
        by_cases c54_2 : w = 2
        · refine lv_tableIn (tgt := 114) hx hb d_Pc_count_54 (by rw [c54_2]; decide) (by rw [c54_2]; decide) (by rw [c54_2]; rfl) (by decide) ?_
          refine lv_aload_n hx hb d_Pc_count_114 rfl (lv_at hl 0 rfl) ?_
          refine va_get (D := gD G) (ci := 6) (v := .int (cI σ 2)) (C := R_Pc) (T := F_Pc) (N := 12) hx hb (wl_Pc hT) (fun _ h9 => h9) hown hK hP 0 rfl rfl 11 (by decide) (k_190 hT) (fun _ h9 => h9) rfl d_Pc_count_115 ?_
          exact end_i (u := σ) hx hb hr hlocks hS hP d_Pc_count_118 (⟨by simp [cntF, ix, c3, c9, c28, c54_0, c54_1, c54_2], rfl⟩)
        by_cases c54_3 : w = 3
        · refine lv_tableIn (tgt := 119) hx hb d_Pc_count_54 (by rw [c54_3]; decide) (by rw [c54_3]; decide) (by rw [c54_3]; rfl) (by decide) ?_
          refine lv_aload_n hx hb d_Pc_count_119 rfl (lv_at hl 0 rfl) ?_
          refine va_get (D := gD G) (ci := 6) (v := .ref (gad G 5)) (C := R_Pc) (T := F_Pc) (N := 12) hx hb (wl_Pc hT) (fun _ h9 => h9) hown hK hP 0 rfl rfl 4 (by decide) (k_183 hT) (fun _ h9 => h9) rfl d_Pc_count_120 ?_
          refine va_get (D := gD G) (ci := 0) (v := .int (cI σ 3)) (C := R_Ck) (T := F_Ck) (N := 5) hx hb (wl_Ck hT) (fun _ h9 => h9) hown hK hP 5 rfl rfl 1 (by decide) (k_37 hT) (fun _ h9 => h9) rfl d_Pc_count_123 ?_
          exact end_i (u := σ) hx hb hr hlocks hS hP d_Pc_count_126 (⟨by simp [cntF, ix, c3, c9, c28, c54_0, c54_1, c54_2, c54_3], rfl⟩)
        by_cases c54_4 : w = 4
        · refine lv_tableIn (tgt := 127) hx hb d_Pc_count_54 (by rw [c54_4]; decide) (by rw [c54_4]; decide) (by rw [c54_4]; rfl) (by decide) ?_
          refine lv_aload_n hx hb d_Pc_count_127 rfl (lv_at hl 0 rfl) ?_
          refine va_get (D := gD G) (ci := 6) (v := .ref (gad G 7)) (C := R_Pc) (T := F_Pc) (N := 12) hx hb (wl_Pc hT) (fun _ h9 => h9) hown hK hP 0 rfl rfl 5 (by decide) (k_184 hT) (fun _ h9 => h9) rfl d_Pc_count_128 ?_
          refine va_get (D := gD G) (ci := 1) (v := .int (cI σ 7)) (C := R_Cc) (T := F_Cc) (N := 2) hx hb (wl_Cc hT) (fun _ h9 => h9) hown hK hP 7 rfl rfl 0 (by decide) (k_68 hT) (fun _ h9 => h9) rfl d_Pc_count_131 ?_
          exact end_i (u := σ) hx hb hr hlocks hS hP d_Pc_count_134 (⟨by simp [cntF, ix, c3, c9, c28, c54_0, c54_1, c54_2, c54_3, c54_4], rfl⟩)
        by_cases c54_5 : w = 5
        · refine lv_tableIn (tgt := 135) hx hb d_Pc_count_54 (by rw [c54_5]; decide) (by rw [c54_5]; decide) (by rw [c54_5]; rfl) (by decide) ?_
          refine lv_aload_n hx hb d_Pc_count_135 rfl (lv_at hl 0 rfl) ?_
          refine va_get (D := gD G) (ci := 6) (v := .ref (gad G 9)) (C := R_Pc) (T := F_Pc) (N := 12) hx hb (wl_Pc hT) (fun _ h9 => h9) hown hK hP 0 rfl rfl 6 (by decide) (k_185 hT) (fun _ h9 => h9) rfl d_Pc_count_136 ?_
          refine va_get (D := gD G) (ci := 2) (v := .int (cI σ 8)) (C := R_Dc) (T := F_Dc) (N := 4) hx hb (wl_Dc hT) (fun _ h9 => h9) hown hK hP 9 rfl rfl 0 (by decide) (k_87 hT) (fun _ h9 => h9) rfl d_Pc_count_139 ?_
          exact end_i (u := σ) hx hb hr hlocks hS hP d_Pc_count_142 (⟨by simp [cntF, ix, c3, c9, c28, c54_0, c54_1, c54_2, c54_3, c54_4, c54_5], rfl⟩)
        by_cases c54_6 : w = 6
        · refine lv_tableIn (tgt := 143) hx hb d_Pc_count_54 (by rw [c54_6]; decide) (by rw [c54_6]; decide) (by rw [c54_6]; rfl) (by decide) ?_
          refine lv_aload_n hx hb d_Pc_count_143 rfl (lv_at hl 0 rfl) ?_
          refine va_get (D := gD G) (ci := 6) (v := .ref (gad G 12)) (C := R_Pc) (T := F_Pc) (N := 12) hx hb (wl_Pc hT) (fun _ h9 => h9) hown hK hP 0 rfl rfl 7 (by decide) (k_186 hT) (fun _ h9 => h9) rfl d_Pc_count_144 ?_
          refine va_get (D := gD G) (ci := 4) (v := .int (cI σ 10)) (C := R_Pr) (T := F_Pr) (N := 2) hx hb (wl_Pr hT) (fun _ h9 => h9) hown hK hP 12 rfl rfl 0 (by decide) (k_112 hT) (fun _ h9 => h9) rfl d_Pc_count_147 ?_
          exact end_i (u := σ) hx hb hr hlocks hS hP d_Pc_count_150 (⟨by simp [cntF, ix, c3, c9, c28, c54_0, c54_1, c54_2, c54_3, c54_4, c54_5, c54_6], rfl⟩)
        refine lv_tableOut (tgt := 151) hx hb d_Pc_count_54 (tsw_out (n := 7) (l := [0, 1, 2, 3, 4, 5, 6]) (by decide) (by decide) (by simp [c54_0, c54_1, c54_2, c54_3, c54_4, c54_5, c54_6])) (by decide) ?_
        refine lv_bipush (v := (-2)) hx hb d_Pc_count_151 (by decide) ?_
        exact end_i (u := σ) hx hb hr hlocks hS hP d_Pc_count_153 (⟨by simp [cntF, ix, c3, c9, c28, c54_0, c54_1, c54_2, c54_3, c54_4, c54_5, c54_6], rfl⟩)
      · refine lv_iload_n hx hb d_Pc_count_31 rfl (lv_at hl 1 rfl) ?_
        refine lv_bipush (v := 24) hx hb d_Pc_count_32 (by decide) ?_
        refine lv_icmp_ge (tgt := 53) hx hb d_Pc_count_34 (by decide) (fun c34 => ?_) (fun c34 => ?_)
        · refine lv_iload_n hx hb d_Pc_count_53 rfl (lv_at hl 1 rfl) ?_
          by_cases c54_0 : w = 0
          · refine lv_tableIn (tgt := 96) hx hb d_Pc_count_54 (by rw [c54_0]; decide) (by rw [c54_0]; decide) (by rw [c54_0]; rfl) (by decide) ?_
            refine lv_aload_n hx hb d_Pc_count_96 rfl (lv_at hl 0 rfl) ?_
            refine va_get (D := gD G) (ci := 6) (v := .int (cI σ 0)) (C := R_Pc) (T := F_Pc) (N := 12) hx hb (wl_Pc hT) (fun _ h9 => h9) hown hK hP 0 rfl rfl 9 (by decide) (k_188 hT) (fun _ h9 => h9) rfl d_Pc_count_97 ?_
            exact end_i (u := σ) hx hb hr hlocks hS hP d_Pc_count_100 (⟨by simp [cntF, ix, c3, c9, c28, c34, c54_0], rfl⟩)
          by_cases c54_1 : w = 1
          · refine lv_tableIn (tgt := 101) hx hb d_Pc_count_54 (by rw [c54_1]; decide) (by rw [c54_1]; decide) (by rw [c54_1]; rfl) (by decide) ?_
            refine lv_aload_n hx hb d_Pc_count_101 rfl (lv_at hl 0 rfl) ?_
            refine va_get (D := gD G) (ci := 6) (v := .int (cI σ 1)) (C := R_Pc) (T := F_Pc) (N := 12) hx hb (wl_Pc hT) (fun _ h9 => h9) hown hK hP 0 rfl rfl 10 (by decide) (k_189 hT) (fun _ h9 => h9) rfl d_Pc_count_102 ?_
            refine lv_if_eq (tgt := 112) hx hb d_Pc_count_105 (by decide) (fun c105 => ?_) (fun c105 => ?_)
            · refine lv_iconst (v := 0) hx hb d_Pc_count_112 (by decide) ?_
              exact end_i (u := σ) hx hb hr hlocks hS hP d_Pc_count_113 (⟨by simp [cntF, ix, c3, c9, c28, c34, c54_0, c54_1, c105], rfl⟩)
            · refine lv_iconst (v := 1) hx hb d_Pc_count_108 (by decide) ?_
              refine lv_goto (tgt := 113) hx hb d_Pc_count_109 (by decide) ?_
              exact end_i (u := σ) hx hb hr hlocks hS hP d_Pc_count_113 (⟨by simp [cntF, ix, c3, c9, c28, c34, c54_0, c54_1, c105], rfl⟩)
          by_cases c54_2 : w = 2
          · refine lv_tableIn (tgt := 114) hx hb d_Pc_count_54 (by rw [c54_2]; decide) (by rw [c54_2]; decide) (by rw [c54_2]; rfl) (by decide) ?_
            refine lv_aload_n hx hb d_Pc_count_114 rfl (lv_at hl 0 rfl) ?_
            refine va_get (D := gD G) (ci := 6) (v := .int (cI σ 2)) (C := R_Pc) (T := F_Pc) (N := 12) hx hb (wl_Pc hT) (fun _ h9 => h9) hown hK hP 0 rfl rfl 11 (by decide) (k_190 hT) (fun _ h9 => h9) rfl d_Pc_count_115 ?_
            exact end_i (u := σ) hx hb hr hlocks hS hP d_Pc_count_118 (⟨by simp [cntF, ix, c3, c9, c28, c34, c54_0, c54_1, c54_2], rfl⟩)
          by_cases c54_3 : w = 3
          · refine lv_tableIn (tgt := 119) hx hb d_Pc_count_54 (by rw [c54_3]; decide) (by rw [c54_3]; decide) (by rw [c54_3]; rfl) (by decide) ?_
            refine lv_aload_n hx hb d_Pc_count_119 rfl (lv_at hl 0 rfl) ?_
            refine va_get (D := gD G) (ci := 6) (v := .ref (gad G 5)) (C := R_Pc) (T := F_Pc) (N := 12) hx hb (wl_Pc hT) (fun _ h9 => h9) hown hK hP 0 rfl rfl 4 (by decide) (k_183 hT) (fun _ h9 => h9) rfl d_Pc_count_120 ?_
            refine va_get (D := gD G) (ci := 0) (v := .int (cI σ 3)) (C := R_Ck) (T := F_Ck) (N := 5) hx hb (wl_Ck hT) (fun _ h9 => h9) hown hK hP 5 rfl rfl 1 (by decide) (k_37 hT) (fun _ h9 => h9) rfl d_Pc_count_123 ?_
            exact end_i (u := σ) hx hb hr hlocks hS hP d_Pc_count_126 (⟨by simp [cntF, ix, c3, c9, c28, c34, c54_0, c54_1, c54_2, c54_3], rfl⟩)
          by_cases c54_4 : w = 4
          · refine lv_tableIn (tgt := 127) hx hb d_Pc_count_54 (by rw [c54_4]; decide) (by rw [c54_4]; decide) (by rw [c54_4]; rfl) (by decide) ?_
            refine lv_aload_n hx hb d_Pc_count_127 rfl (lv_at hl 0 rfl) ?_
            refine va_get (D := gD G) (ci := 6) (v := .ref (gad G 7)) (C := R_Pc) (T := F_Pc) (N := 12) hx hb (wl_Pc hT) (fun _ h9 => h9) hown hK hP 0 rfl rfl 5 (by decide) (k_184 hT) (fun _ h9 => h9) rfl d_Pc_count_128 ?_
            refine va_get (D := gD G) (ci := 1) (v := .int (cI σ 7)) (C := R_Cc) (T := F_Cc) (N := 2) hx hb (wl_Cc hT) (fun _ h9 => h9) hown hK hP 7 rfl rfl 0 (by decide) (k_68 hT) (fun _ h9 => h9) rfl d_Pc_count_131 ?_
            exact end_i (u := σ) hx hb hr hlocks hS hP d_Pc_count_134 (⟨by simp [cntF, ix, c3, c9, c28, c34, c54_0, c54_1, c54_2, c54_3, c54_4], rfl⟩)
          by_cases c54_5 : w = 5
          · refine lv_tableIn (tgt := 135) hx hb d_Pc_count_54 (by rw [c54_5]; decide) (by rw [c54_5]; decide) (by rw [c54_5]; rfl) (by decide) ?_
            refine lv_aload_n hx hb d_Pc_count_135 rfl (lv_at hl 0 rfl) ?_
            refine va_get (D := gD G) (ci := 6) (v := .ref (gad G 9)) (C := R_Pc) (T := F_Pc) (N := 12) hx hb (wl_Pc hT) (fun _ h9 => h9) hown hK hP 0 rfl rfl 6 (by decide) (k_185 hT) (fun _ h9 => h9) rfl d_Pc_count_136 ?_
            refine va_get (D := gD G) (ci := 2) (v := .int (cI σ 8)) (C := R_Dc) (T := F_Dc) (N := 4) hx hb (wl_Dc hT) (fun _ h9 => h9) hown hK hP 9 rfl rfl 0 (by decide) (k_87 hT) (fun _ h9 => h9) rfl d_Pc_count_139 ?_
            exact end_i (u := σ) hx hb hr hlocks hS hP d_Pc_count_142 (⟨by simp [cntF, ix, c3, c9, c28, c34, c54_0, c54_1, c54_2, c54_3, c54_4, c54_5], rfl⟩)
          by_cases c54_6 : w = 6
          · refine lv_tableIn (tgt := 143) hx hb d_Pc_count_54 (by rw [c54_6]; decide) (by rw [c54_6]; decide) (by rw [c54_6]; rfl) (by decide) ?_
            refine lv_aload_n hx hb d_Pc_count_143 rfl (lv_at hl 0 rfl) ?_
            refine va_get (D := gD G) (ci := 6) (v := .ref (gad G 12)) (C := R_Pc) (T := F_Pc) (N := 12) hx hb (wl_Pc hT) (fun _ h9 => h9) hown hK hP 0 rfl rfl 7 (by decide) (k_186 hT) (fun _ h9 => h9) rfl d_Pc_count_144 ?_
            refine va_get (D := gD G) (ci := 4) (v := .int (cI σ 10)) (C := R_Pr) (T := F_Pr) (N := 2) hx hb (wl_Pr hT) (fun _ h9 => h9) hown hK hP 12 rfl rfl 0 (by decide) (k_112 hT) (fun _ h9 => h9) rfl d_Pc_count_147 ?_
            exact end_i (u := σ) hx hb hr hlocks hS hP d_Pc_count_150 (⟨by simp [cntF, ix, c3, c9, c28, c34, c54_0, c54_1, c54_2, c54_3, c54_4, c54_5, c54_6], rfl⟩)
          refine lv_tableOut (tgt := 151) hx hb d_Pc_count_54 (tsw_out (n := 7) (l := [0, 1, 2, 3, 4, 5, 6]) (by decide) (by decide) (by simp [c54_0, c54_1, c54_2, c54_3, c54_4, c54_5, c54_6])) (by decide) ?_
          refine lv_bipush (v := (-2)) hx hb d_Pc_count_151 (by decide) ?_
          exact end_i (u := σ) hx hb hr hlocks hS hP d_Pc_count_153 (⟨by simp [cntF, ix, c3, c9, c28, c34, c54_0, c54_1, c54_2, c54_3, c54_4, c54_5, c54_6], rfl⟩)
        · refine lv_aload_n hx hb d_Pc_count_37 rfl (lv_at hl 0 rfl) ?_
          refine va_get (D := gD G) (ci := 6) (v := .ref (gad G 5)) (C := R_Pc) (T := F_Pc) (N := 12) hx hb (wl_Pc hT) (fun _ h9 => h9) hown hK hP 0 rfl rfl 4 (by decide) (k_183 hT) (fun _ h9 => h9) rfl d_Pc_count_38 ?_
          refine va_get (D := gD G) (ci := 0) (v := .ref (gad G 6)) (C := R_Ck) (T := F_Ck) (N := 5) hx hb (wl_Ck hT) (fun _ h9 => h9) hown hK hP 5 rfl rfl 0 (by decide) (k_35 hT) (fun _ h9 => h9) rfl d_Pc_count_41 ?_
          refine lv_bipush (v := 8) hx hb d_Pc_count_44 (by decide) ?_
          refine lv_iload_n hx hb d_Pc_count_46 rfl (lv_at hl 1 rfl) ?_
          refine lv_iadd hx hb d_Pc_count_47 ?_
          refine lv_bipush (v := 20) hx hb d_Pc_count_48 (by decide) ?_
          refine lv_isub hx hb d_Pc_count_50 ?_
          refine va_iald (f := (cJ σ 1)) hx hb hK hP 6 0 rfl rfl (cnt2 c28 c34) d_Pc_count_51 ?_
          exact end_i (u := σ) hx hb hr hlocks hS hP d_Pc_count_52 (⟨by simp [cntF, ix, c3, c9, c28, c34], rfl⟩)
    · refine lv_aload_n hx hb d_Pc_count_12 rfl (lv_at hl 0 rfl) ?_
      refine va_get (D := gD G) (ci := 6) (v := .ref (gad G 5)) (C := R_Pc) (T := F_Pc) (N := 12) hx hb (wl_Pc hT) (fun _ h9 => h9) hown hK hP 0 rfl rfl 4 (by decide) (k_183 hT) (fun _ h9 => h9) rfl d_Pc_count_13 ?_
      refine va_get (D := gD G) (ci := 0) (v := .ref (gad G 6)) (C := R_Ck) (T := F_Ck) (N := 5) hx hb (wl_Ck hT) (fun _ h9 => h9) hown hK hP 5 rfl rfl 0 (by decide) (k_35 hT) (fun _ h9 => h9) rfl d_Pc_count_16 ?_
      refine lv_iload_n hx hb d_Pc_count_19 rfl (lv_at hl 1 rfl) ?_
      refine lv_bipush (v := 10) hx hb d_Pc_count_20 (by decide) ?_
      refine lv_isub hx hb d_Pc_count_22 ?_
      refine va_iald (f := (cJ σ 1)) hx hb hK hP 6 0 rfl rfl (cnt1 c3 c9) d_Pc_count_23 ?_
      exact end_i (u := σ) hx hb hr hlocks hS hP d_Pc_count_24 (⟨by simp [cntF, ix, c3, c9], rfl⟩)

set_option maxHeartbeats 4000000 in
set_option maxRecDepth 100000 in
theorem K_Pc_code {l : Launch} {G : GT} (g : GOK l G) (σ : CS) (i o d a b n : Int32) (wf : Wf σ) : cx_M l y_Pc_code (.code y_Pc_code b_Pc_code 7 none) 7 110 (gA G) [.ref (gad G 0), .int i, .int o, .int d, .int a, .int b, .int n] (Cw G σ) (Rv G (fun u => badC i o d a b = false ∧ u = sQ σ (cP σ 0 (ix i)) (becQ o d a b n))) (Tw G (fun E u => E = "java/lang/IllegalArgumentException" ∧ badC i o d a b = true ∧ u = σ)) := by
  refine cx_of (by decide +kernel) ?_
  intro p e s m below meth c s₁ B hml ht hc
  have hx := B.exec
  have hb := B.bytes
  have hr := B.returns
  have hown : s.vm.findClass R_Pc = some m.cls := findClass_of_methodNamed B.named
  have hlocks := B.notSynchronized
  have hT := g.tb hc
  have hK := g.k hc
  have hD := g.d (σ := σ)
  have hS : va_S (gA G) s.heap s.heap [] := va_S.rf
  have hP := hc.2.2
  have hl := lv_entry ([.ref (gad G 0), .int i, .int o, .int d, .int a, .int b, .int n]) (n := 7) (Nat.le_of_ble_eq_true rfl)
  rw [lg_entry_eq]
  generalize (lg_sl ([.ref (gad G 0), .int i, .int o, .int d, .int a, .int b, .int n]) ++ List.replicate (7 - (lg_sl ([.ref (gad G 0), .int i, .int o, .int d, .int a, .int b, .int n])).length) Slot.unset).toArray = ls at hl ⊢
  have hl : lv_has ls 7 [(0, .ref (gad G 0)), (1, .int i), (2, .int o), (3, .int d), (4, .int a), (5, .int b), (6, .int n)] := hl
  refine lv_iload_n hx hb d_Pc_code_0 rfl (lv_at hl 1 rfl) ?_
  refine lv_bipush (v := 23) hx hb d_Pc_code_1 (by decide) ?_
  refine cx_S (n := 2) (As := [.int i, .int 23]) (rest := []) ⟨hx, hb, hml, hown, fun _ h9 => nomatch h9⟩ (K_Pc_refuseOutside g σ i 23) (k_294 hT) (k_295 hT) (k_296 hT) (k_1 hT) rfl (by decide +kernel) (hc.at g hS hP) ⟨by decide, by decide⟩ ⟨by decide, by decide⟩ hl.1 (Nat.le_of_ble_eq_true rfl) d_Pc_code_3 (fun _ h9 => h9) hS (fun E ce q t H1 locs ht9 hTx hz hk hS hce hcv hcl => ?_) (fun v t H locs ht9 hRt hz hk hS => ?_)
  · obtain ⟨u, hq, hP⟩ := hTx; rw [ht9] at hP; exact cx_out ht hlocks hce hcv hcl hS (fun t9 h9 _ => Tw.i (u := u) (⟨hq.1, by simp [badC, hq.2.1, ], hq.2.2⟩) (by rw [h9]; exact hP)) (by decide) (by decide)
  · obtain ⟨u, rfl, ⟨hb3, eu⟩, hP⟩ := hRt
    rw [eu, ht9] at hP
    have hD : va_D (gA G) (cw G σ) := g.d
    refine W.eq (g2 := F0 m 6 ls []) rfl ?_
    refine lv_iload_n hx hb d_Pc_code_6 rfl (lv_at hl 2 rfl) ?_
    refine lv_bipush (v := 19) hx hb d_Pc_code_7 (by decide) ?_
    refine cx_S (n := 2) (As := [.int o, .int 19]) (rest := []) ⟨hx, hb, hml, hown, fun _ h9 => nomatch h9⟩ (K_Pc_refuseOutside g σ o 19) (k_294 hT) (k_295 hT) (k_296 hT) (k_1 hT) rfl (by decide +kernel) (hc.at g hS hP) ⟨by decide, by decide⟩ ⟨by decide, by decide⟩ hl.1 (Nat.le_of_ble_eq_true rfl) d_Pc_code_9 (fun _ h9 => h9) hS (fun E ce q t H1 locs ht9 hTx hz hk hS hce hcv hcl => ?_) (fun v t H locs ht9 hRt hz hk hS => ?_)
    · obtain ⟨u, hq, hP⟩ := hTx; rw [ht9] at hP; exact cx_out ht hlocks hce hcv hcl hS (fun t9 h9 _ => Tw.i (u := u) (⟨hq.1, by simp [badC, hq.2.1, hb3], hq.2.2⟩) (by rw [h9]; exact hP)) (by decide) (by decide)
    · obtain ⟨u, rfl, ⟨hb9, eu⟩, hP⟩ := hRt
      rw [eu, ht9] at hP
      have hD : va_D (gA G) (cw G σ) := g.d
      refine W.eq (g2 := F0 m 12 ls []) rfl ?_
      refine lv_iload_n hx hb d_Pc_code_12 rfl (lv_at hl 3 rfl) ?_
      refine lv_bipush (v := 7) hx hb d_Pc_code_13 (by decide) ?_
      refine cx_S (n := 2) (As := [.int d, .int 7]) (rest := []) ⟨hx, hb, hml, hown, fun _ h9 => nomatch h9⟩ (K_Pc_refuseOutside g σ d 7) (k_294 hT) (k_295 hT) (k_296 hT) (k_1 hT) rfl (by decide +kernel) (hc.at g hS hP) ⟨by decide, by decide⟩ ⟨by decide, by decide⟩ hl.1 (Nat.le_of_ble_eq_true rfl) d_Pc_code_15 (fun _ h9 => h9) hS (fun E ce q t H1 locs ht9 hTx hz hk hS hce hcv hcl => ?_) (fun v t H locs ht9 hRt hz hk hS => ?_)
      · obtain ⟨u, hq, hP⟩ := hTx; rw [ht9] at hP; exact cx_out ht hlocks hce hcv hcl hS (fun t9 h9 _ => Tw.i (u := u) (⟨hq.1, by simp [badC, hq.2.1, hb3, hb9], hq.2.2⟩) (by rw [h9]; exact hP)) (by decide) (by decide)
      · obtain ⟨u, rfl, ⟨hb15, eu⟩, hP⟩ := hRt
        rw [eu, ht9] at hP
        have hD : va_D (gA G) (cw G σ) := g.d
        refine W.eq (g2 := F0 m 18 ls []) rfl ?_
        refine lv_iload hx hb d_Pc_code_18 (lv_at hl 4 rfl) ?_
        refine lv_bipush (v := 7) hx hb d_Pc_code_20 (by decide) ?_
        refine cx_S (n := 2) (As := [.int a, .int 7]) (rest := []) ⟨hx, hb, hml, hown, fun _ h9 => nomatch h9⟩ (K_Pc_refuseOutside g σ a 7) (k_294 hT) (k_295 hT) (k_296 hT) (k_1 hT) rfl (by decide +kernel) (hc.at g hS hP) ⟨by decide, by decide⟩ ⟨by decide, by decide⟩ hl.1 (Nat.le_of_ble_eq_true rfl) d_Pc_code_22 (fun _ h9 => h9) hS (fun E ce q t H1 locs ht9 hTx hz hk hS hce hcv hcl => ?_) (fun v t H locs ht9 hRt hz hk hS => ?_)
        · obtain ⟨u, hq, hP⟩ := hTx; rw [ht9] at hP; exact cx_out ht hlocks hce hcv hcl hS (fun t9 h9 _ => Tw.i (u := u) (⟨hq.1, by simp [badC, hq.2.1, hb3, hb9, hb15], hq.2.2⟩) (by rw [h9]; exact hP)) (by decide) (by decide)
        · obtain ⟨u, rfl, ⟨hb22, eu⟩, hP⟩ := hRt
          rw [eu, ht9] at hP
          have hD : va_D (gA G) (cw G σ) := g.d
          refine W.eq (g2 := F0 m 25 ls []) rfl ?_
          refine lv_iload hx hb d_Pc_code_25 (lv_at hl 5 rfl) ?_
          refine lv_bipush (v := 7) hx hb d_Pc_code_27 (by decide) ?_
          refine cx_S (n := 2) (As := [.int b, .int 7]) (rest := []) ⟨hx, hb, hml, hown, fun _ h9 => nomatch h9⟩ (K_Pc_refuseOutside g σ b 7) (k_294 hT) (k_295 hT) (k_296 hT) (k_1 hT) rfl (by decide +kernel) (hc.at g hS hP) ⟨by decide, by decide⟩ ⟨by decide, by decide⟩ hl.1 (Nat.le_of_ble_eq_true rfl) d_Pc_code_29 (fun _ h9 => h9) hS (fun E ce q t H1 locs ht9 hTx hz hk hS hce hcv hcl => ?_) (fun v t H locs ht9 hRt hz hk hS => ?_)
          · obtain ⟨u, hq, hP⟩ := hTx; rw [ht9] at hP; exact cx_out ht hlocks hce hcv hcl hS (fun t9 h9 _ => Tw.i (u := u) (⟨hq.1, by simp [badC, hq.2.1, hb3, hb9, hb15, hb22], hq.2.2⟩) (by rw [h9]; exact hP)) (by decide) (by decide)
          · obtain ⟨u, rfl, ⟨hb29, eu⟩, hP⟩ := hRt
            rw [eu, ht9] at hP
            have hD : va_D (gA G) (cw G σ) := g.d
            refine W.eq (g2 := F0 m 32 ls []) rfl ?_
            refine lv_aload_n hx hb d_Pc_code_32 rfl (lv_at hl 0 rfl) ?_
            refine va_get (D := gD G) (ci := 6) (v := .ref (gad G 1)) (C := R_Pc) (T := F_Pc) (N := 12) hx hb (wl_Pc hT) (fun _ h9 => h9) hown hK hP 0 rfl rfl 0 (by decide) (k_179 hT) (fun _ h9 => h9) rfl d_Pc_code_33 ?_
            refine lv_iload_n hx hb d_Pc_code_36 rfl (lv_at hl 1 rfl) ?_
            refine ald_r (v := gia G ((cP σ 0) i.toNatClampNeg)) hx hb hK hP 1 3 rfl rfl (badR_in (by decide) hb3) (if_pos (wf.2.1 _ (vp_lt (badR_in (by decide) hb3)))) d_Pc_code_37 ?_
            refine lv_iload_n hx hb d_Pc_code_38 rfl (lv_at hl 2 rfl) ?_
            refine lv_iload_n hx hb d_Pc_code_39 rfl (lv_at hl 3 rfl) ?_
            refine lv_iload hx hb d_Pc_code_40 (lv_at hl 4 rfl) ?_
            refine lv_iload hx hb d_Pc_code_42 (lv_at hl 5 rfl) ?_
            refine lv_iload hx hb d_Pc_code_44 (lv_at hl 6 rfl) ?_
            refine cx_V (n := 5) (C := R_In) (As := [.int o, .int d, .int a, .int b, .int n]) (rest := []) ⟨hx, hb, hml, hown, fun _ h9 => nomatch h9⟩ (K_In_become g σ (wf.2.1 _ (vp_lt (badR_in (by decide) hb3))) o d a b n (badR_in (by decide) hb9)) (k_361 hT) (k_362 hT) (k_363 hT) (k_364 hT) (k_8 hT) rfl (by decide +kernel) (va_recv hK hP (ci := 3) (q0 := 19 + ((cP σ 0) i.toNatClampNeg)) rfl (cw_in (wf.2.1 _ (vp_lt (badR_in (by decide) hb3))))) (hc.at g hS hP) ⟨by decide, by decide⟩ ⟨by decide, by decide⟩ hl.1 (Nat.le_of_ble_eq_true rfl) d_Pc_code_46 (fun _ h9 => h9) hS (fun _ _ _ _ _ _ _ h9 => h9.elim) (fun v t H locs ht9 hRt hz hk hS => ?_)
            obtain ⟨u, rfl, eu, hP⟩ := hRt
            rw [eu, ht9] at hP
            have hD : va_D (gA G) (cw G (sQ σ ((cP σ 0) i.toNatClampNeg) (becQ o d a b n))) := g.d
            refine W.eq (g2 := F0 m 49 ls []) rfl ?_
            exact end_v (u := (sQ σ ((cP σ 0) i.toNatClampNeg) (becQ o d a b n))) hx hb hr hlocks hS hP d_Pc_code_49 (⟨by simp [badC, hb3, hb9, hb15, hb22, hb29], rfl⟩)

set_option maxHeartbeats 4000000 in
set_option maxRecDepth 100000 in
theorem K_Pc_cell {l : Launch} {G : GT} (g : GOK l G) (σ : CS) (i : Int32) (v : UInt64) : cx_M l y_Pc_cell (.code y_Pc_cell b_Pc_cell 5 none) 7 110 (gA G) [.ref (gad G 0), .int i, .double v] (Cw G σ) (Rv G (fun u => (badR i 47 = false ∧ badV v = false) ∧ u = sF σ 0 (vf_upd (cF σ 0) (ix i) v))) (Tw G (fun E u => E = "java/lang/IllegalArgumentException" ∧ (badR i 47 = true ∨ (badR i 47 = false ∧ badV v = true)) ∧ u = σ)) := by
  refine cx_of (by decide +kernel) ?_
  intro p e s m below meth c s₁ B hml ht hc
  have hx := B.exec
  have hb := B.bytes
  have hr := B.returns
  have hown : s.vm.findClass R_Pc = some m.cls := findClass_of_methodNamed B.named
  have hlocks := B.notSynchronized
  have hT := g.tb hc
  have hK := g.k hc
  have hD := g.d (σ := σ)
  have hS : va_S (gA G) s.heap s.heap [] := va_S.rf
  have hP := hc.2.2
  have hl := lv_entry ([.ref (gad G 0), .int i, .double v]) (n := 5) (Nat.le_of_ble_eq_true rfl)
  rw [lg_entry_eq]
  generalize (lg_sl ([.ref (gad G 0), .int i, .double v]) ++ List.replicate (5 - (lg_sl ([.ref (gad G 0), .int i, .double v])).length) Slot.unset).toArray = ls at hl ⊢
  have hl : lv_has ls 5 [(0, .ref (gad G 0)), (1, .int i), (2, .double v)] := hl
  refine lv_iload_n hx hb d_Pc_cell_0 rfl (lv_at hl 1 rfl) ?_
  refine lv_bipush (v := 47) hx hb d_Pc_cell_1 (by decide) ?_
  refine cx_S (n := 2) (As := [.int i, .int 47]) (rest := []) ⟨hx, hb, hml, hown, fun _ h9 => nomatch h9⟩ (K_Pc_refuseOutside g σ i 47) (k_294 hT) (k_295 hT) (k_296 hT) (k_1 hT) rfl (by decide +kernel) (hc.at g hS hP) ⟨by decide, by decide⟩ ⟨by decide, by decide⟩ hl.1 (Nat.le_of_ble_eq_true rfl) d_Pc_cell_3 (fun _ h9 => h9) hS (fun E ce q t H1 locs ht9 hTx hz hk hS hce hcv hcl => ?_) (fun v t H locs ht9 hRt hz hk hS => ?_)
  · obtain ⟨u, hq, hP⟩ := hTx; rw [ht9] at hP; exact cx_out ht hlocks hce hcv hcl hS (fun t9 h9 _ => Tw.i (u := u) (⟨hq.1, Or.inl hq.2.1, hq.2.2⟩) (by rw [h9]; exact hP)) (by decide) (by decide)
  · obtain ⟨u, rfl, ⟨hb3, eu⟩, hP⟩ := hRt
    rw [eu, ht9] at hP
    have hD : va_D (gA G) (cw G σ) := g.d
    refine W.eq (g2 := F0 m 6 ls []) rfl ?_
    refine lv_dload_n hx hb d_Pc_cell_6 rfl (lv_at hl 2 rfl) ?_
    refine lv_ldc2d (v := 13920209183539462144) hx hb hown (k_381 hT) d_Pc_cell_7 ?_
    refine lv_dcmp hx hb d_Pc_cell_10 ?_
    refine lv_if_lt (tgt := 26) hx hb d_Pc_cell_11 (by decide) (fun c11 => ?_) (fun c11 => ?_)
    · refine lv_iconst (v := 0) hx hb d_Pc_cell_26 (by decide) ?_
      refine lv_istore (lv' := [(4, .int 0), (0, .ref (gad G 0)), (1, .int i), (2, .double v)]) hx hb d_Pc_cell_27 hl (by decide) rfl (fun ls hl => ?_)
      refine lv_iload hx hb d_Pc_cell_29 (lv_at hl 0 rfl) ?_
      refine lv_if_ne (tgt := 42) hx hb d_Pc_cell_31 (by decide) (fun c31 => ?_) (fun c31 => ?_)
      · exact absurd rfl c31
      · exact cx_throw (own := R_Pc) (cls := "java/lang/IllegalArgumentException") (names := ["java/lang/RuntimeException", "java/lang/Exception"]) (ik := 85) (ic := 87) hx hb g.1 hown (by decide +kernel) (by decide +kernel) (fun U hU hW => ⟨k_297 ((g.tb hc).warm hW), k_13 ((g.tb hc).warm hW), at_IAE_87 g hc hS U hU hW⟩) hS hc.2.1 (by rw [hml]; exact hl.1) d_Pc_cell_34 d_Pc_cell_37 d_Pc_cell_38 d_Pc_cell_41 ht hlocks (by decide) (Nat.le_of_ble_eq_true rfl) (by decide) (by decide) (fun t9 _ _ hk => Tw.i (u := σ) (⟨rfl, Or.inr ⟨hb3, by simp [badV, c11]⟩, rfl⟩) (hP.keep hk))
    · refine lv_dload_n hx hb d_Pc_cell_14 rfl (lv_at hl 2 rfl) ?_
      refine lv_ldc2d (v := 4696837146684686336) hx hb hown (k_382 hT) d_Pc_cell_15 ?_
      refine lv_dcmp hx hb d_Pc_cell_18 ?_
      refine lv_if_gt (tgt := 26) hx hb d_Pc_cell_19 (by decide) (fun c19 => ?_) (fun c19 => ?_)
      · refine lv_iconst (v := 0) hx hb d_Pc_cell_26 (by decide) ?_
        refine lv_istore (lv' := [(4, .int 0), (0, .ref (gad G 0)), (1, .int i), (2, .double v)]) hx hb d_Pc_cell_27 hl (by decide) rfl (fun ls hl => ?_)
        refine lv_iload hx hb d_Pc_cell_29 (lv_at hl 0 rfl) ?_
        refine lv_if_ne (tgt := 42) hx hb d_Pc_cell_31 (by decide) (fun c31 => ?_) (fun c31 => ?_)
        · exact absurd rfl c31
        · exact cx_throw (own := R_Pc) (cls := "java/lang/IllegalArgumentException") (names := ["java/lang/RuntimeException", "java/lang/Exception"]) (ik := 85) (ic := 87) hx hb g.1 hown (by decide +kernel) (by decide +kernel) (fun U hU hW => ⟨k_297 ((g.tb hc).warm hW), k_13 ((g.tb hc).warm hW), at_IAE_87 g hc hS U hU hW⟩) hS hc.2.1 (by rw [hml]; exact hl.1) d_Pc_cell_34 d_Pc_cell_37 d_Pc_cell_38 d_Pc_cell_41 ht hlocks (by decide) (Nat.le_of_ble_eq_true rfl) (by decide) (by decide) (fun t9 _ _ hk => Tw.i (u := σ) (⟨rfl, Or.inr ⟨hb3, by simp [badV, c11, c19]⟩, rfl⟩) (hP.keep hk))
      · refine lv_iconst (v := 1) hx hb d_Pc_cell_22 (by decide) ?_
        refine lv_goto (tgt := 27) hx hb d_Pc_cell_23 (by decide) ?_
        refine lv_istore (lv' := [(4, .int 1), (0, .ref (gad G 0)), (1, .int i), (2, .double v)]) hx hb d_Pc_cell_27 hl (by decide) rfl (fun ls hl => ?_)
        refine lv_iload hx hb d_Pc_cell_29 (lv_at hl 0 rfl) ?_
        refine lv_if_ne (tgt := 42) hx hb d_Pc_cell_31 (by decide) (fun c31 => ?_) (fun c31 => ?_)
        · refine lv_aload_n hx hb d_Pc_cell_42 rfl (lv_at hl 1 rfl) ?_
          refine va_get (D := gD G) (ci := 6) (v := .ref (gad G 2)) (C := R_Pc) (T := F_Pc) (N := 12) hx hb (wl_Pc hT) (fun _ h9 => h9) hown hK hP 0 rfl rfl 1 (by decide) (k_180 hT) (fun _ h9 => h9) rfl d_Pc_cell_43 ?_
          refine lv_iload_n hx hb d_Pc_cell_46 rfl (lv_at hl 2 rfl) ?_
          refine lv_dload_n hx hb d_Pc_cell_47 rfl (lv_at hl 3 rfl) ?_
          refine va_dast (f := (cF σ 0)) hx hb hK hP hD hS 2 1 rfl rfl (badR_in (by decide) hb3) d_Pc_cell_48 (fun H locs hP hD hS => ?_)
          have hP : va_P (gD G) classes (cw G (sF σ 0 (vf_upd (cF σ 0) i.toNatClampNeg v))) H := hP
          have hD : va_D (gA G) (cw G (sF σ 0 (vf_upd (cF σ 0) i.toNatClampNeg v))) := g.d
          exact end_v (u := (sF σ 0 (vf_upd (cF σ 0) i.toNatClampNeg v))) hx hb hr hlocks hS hP d_Pc_cell_49 (⟨⟨hb3, by simp [badV, c11, c19]⟩, rfl⟩)
        · exact absurd c31 (by decide)
end
section
/-! THE CLASS, PURE: the state stays in range -/
section Wf
theorem cmF_P (σ : CS) (g : Int32) : cP (cmF σ g).2 = cP σ := by
  unfold cmF
  repeat' split
  all_goals rfl
theorem dmF_I0 (σ : CS) (g : Int32) : cI (dmF σ g).2 0 = cI σ 0 := by
  unfold dmF
  repeat' split
  all_goals rfl
theorem dmF_P (σ : CS) (g : Int32) : cP (dmF σ g).2 = cP σ := by
  unfold dmF
  repeat' split
  all_goals rfl
theorem dmF_F (σ : CS) (g : Int32) : cF (dmF σ g).2 = cF σ := by
  unfold dmF
  repeat' split
  all_goals rfl
theorem pwF_I0 (σ : CS) (r v : Int32) : cI (pwF σ r v) 0 = cI σ 0 := by
  unfold pwF
  repeat' split
  all_goals rfl
theorem pwF_P (σ : CS) (r v : Int32) : cP (pwF σ r v) = cP σ := by
  unfold pwF
  repeat' split
  all_goals rfl
theorem pwF_F (σ : CS) (r v : Int32) : cF (pwF σ r v) = cF σ := by
  unfold pwF
  repeat' split
  all_goals rfl
theorem gwF_I0 (σ : CS) (x : Int32) (j : Bool) : cI (gwF σ x j) 0 = cI σ 0 := by
  unfold gwF
  cases j <;> simp <;> split <;> rfl
theorem gwF_P (σ : CS) (x : Int32) (j : Bool) : cP (gwF σ x j) = cP σ := by
  unfold gwF
  cases j <;> simp <;> split <;> rfl
theorem gwF_F (σ : CS) (x : Int32) (j : Bool) : cF (gwF σ x j) = cF σ := by
  unfold gwF
  cases j <;> simp <;> split <;> rfl
theorem beF_I0 (σ : CS) (q : Nat → Int32) (a b c : Bool) : cI (beF σ q a b c) 0 = cI σ 0 := by
  unfold beF
  dsimp only
  split <;> split <;> split <;> rfl
theorem beF_P (σ : CS) (q : Nat → Int32) (a b c : Bool) : cP (beF σ q a b c) = cP σ := by
  unfold beF
  dsimp only
  split <;> split <;> split <;> rfl
theorem beF_F (σ : CS) (q : Nat → Int32) (a b c : Bool) : cF (beF σ q a b c) = cF σ := by
  unfold beF
  dsimp only
  split <;> split <;> split <;> rfl
theorem mvF_I0 (σ : CS) (q : Nat → Int32) (a : Int32) : cI (mvF σ q a) 0 = cI σ 0 := by
  unfold mvF
  split
  · exact pwF_I0 _ _ _
  · split
    · rfl
    · split <;> rfl
theorem mvF_P (σ : CS) (q : Nat → Int32) (a : Int32) : cP (mvF σ q a) = cP σ := by
  unfold mvF
  split
  · exact pwF_P _ _ _
  · split
    · rfl
    · split <;> rfl
theorem cpF_I0 (σ : CS) (q : Nat → Int32) : cI (cpF σ q) 0 = cI σ 0 := by
  unfold cpF
  split
  · split
    · exact pwF_I0 _ _ _
    · split
      · rfl
      · split
        · exact pwF_I0 _ _ _
        · rfl
  · exact pwF_I0 _ _ _
theorem cpF_P (σ : CS) (q : Nat → Int32) : cP (cpF σ q) = cP σ := by
  unfold cpF
  split
  · split
    · exact pwF_P _ _ _
    · split
      · rfl
      · split
        · exact pwF_P _ _ _
        · rfl
  · exact pwF_P _ _ _
theorem i2d_fin (x : Int32) : fp_fin (FP.i2d x) := by
  have h : FP.Core.Whole x.toInt (FP.Core.val64 (FP.i2d x)) := FP.Core.i2d_int x
  unfold fp_fin
  cases hv : FP.Core.val64 (FP.i2d x) with
  | nan => rw [hv] at h; exact h.elim
  | inf s => rw [hv] at h; exact h.elim
  | fin s c q => exact ⟨s, c, q, rfl⟩
/-- both arrays of doubles hold finite ones -/
def Ff (σ : CS) : Prop := (∀ j, j < 48 → fp_fin (cF σ 0 j)) ∧ (∀ j, j < 4 → fp_fin (cF σ 1 j))
theorem Ff.eq {σ τ : CS} (h : Ff σ) (e : cF τ = cF σ) : Ff τ := by unfold Ff; rw [e]; exact h
theorem Ff.s0 {σ : CS} (h : Ff σ) {k : Nat} {v : UInt64} (hv : fp_fin v) : Ff (sF σ 0 (vf_upd (cF σ 0) k v)) := by
  refine ⟨fun j hj => ?_, h.2⟩
  show fp_fin (vf_upd (cF σ 0) k v j)
  unfold vf_upd
  split
  · exact hv
  · exact h.1 j hj
theorem Ff.s1 {σ : CS} (h : Ff σ) {k : Nat} {v : UInt64} (hv : fp_fin v) : Ff (sF σ 1 (vf_upd (cF σ 1) k v)) := by
  refine ⟨h.1, fun j hj => ?_⟩
  show fp_fin (vf_upd (cF σ 1) k v j)
  unfold vf_upd
  split
  · exact hv
  · exact h.2 j hj
theorem mvF_ff {σ : CS} (h : Ff σ) {q : Nat → Int32} (hq : okQ q) {a : Int32} (ha : badA a = false) : Ff (mvF σ q a) := by
  have ha' : vp_in a 48 := by
    unfold badA at ha
    split at ha
    · cases ha
    · rename_i h1
      split at ha
      · rename_i h2; exact vp48 h1 h2
      · cases ha
  unfold mvF
  split
  · exact h.eq (pwF_F _ _ _)
  · split
    · exact h.s0 (i2d_fin _)
    · split
      · exact h.s1 (h.1 _ (vp_lt ha'))
      · exact h.s0 (h.2 _ (vp_lt (m4_in hq.2.2.2.1)))
theorem cm_gt {o : Option Ordering} (h : ¬ 0 < Op.cmpValue o .l) : ¬ o = some .gt := by rintro rfl; exact h (by decide)
theorem cm_lt {o : Option Ordering} (h : 0 ≤ Op.cmpValue o .g) : ¬ o = some .lt := by rintro rfl; exact absurd h (by decide)
theorem lim_fin : fp_fin lim9 ∧ fp_fin lim9m := by
  constructor
  · exact ⟨_, _, _, (by decide : FP.Core.val64 lim9 = .fin false 8388608000000000 (-23))⟩
  · exact ⟨_, _, _, (by decide : FP.Core.val64 lim9m = .fin true 8388608000000000 (-23))⟩
theorem ocF_fin {o : Int32} {x y : UInt64} (hx : fp_fin x) (hy : fp_fin y) (h : cfT o x y = false) : fp_fin (ocF o x y) := by
  unfold cfT at h
  split at h
  · cases h
  · rename_i hz
    have hn : vf_n64 (ocF o x y) := by
      unfold ocF
      unfold dzF at hz
      by_cases c1 : o = 10
      · rw [if_pos c1]; exact fp_add hx hy
      · by_cases c2 : o = 11
        · rw [if_neg c1, if_pos c2]; exact fp_sub hx hy
        · by_cases c3 : o = 12
          · rw [if_neg c1, if_neg c2, if_pos c3]; exact fp_mul hx hy
          · rw [if_neg c1, if_neg c2, if_neg c3]
            refine fp_div hx hy (fun z => hz ?_)
            rw [if_neg c1, if_neg c2, if_neg c3, z]
            rfl
    unfold ovF at h
    split at h
    · cases h
    · rename_i h1
      split at h
      · rename_i h2
        exact fp_between (fp_notnan hn) lim_fin.2 lim_fin.1 (cm_gt h1) (cm_lt h2)
      · cases h
theorem cpF_ff {σ : CS} (h : Ff σ) {q : Nat → Int32} (hq : okQ q) (hc : cpT σ q = false) : Ff (cpF σ q) := by
  unfold cpF
  unfold cpT at hc
  split
  · rename_i c0
    rw [if_pos c0] at hc
    split
    · exact h.eq (pwF_F _ _ _)
    · rename_i c1
      rw [if_neg c1] at hc
      split
      · exact h.s1 (i2d_fin _)
      · rename_i c2
        rw [if_neg c2] at hc
        split
        · exact h.eq (pwF_F _ _ _)
        · rename_i c3
          rw [if_neg c3] at hc
          exact h.s1 (ocF_fin (h.2 _ (vp_lt (m4_in hq.2.2.1))) (h.2 _ (vp_lt (m4_in hq.2.2.2.1))) hc)
  · exact h.eq (pwF_F _ _ _)
theorem td24 (x : Int) : x.tdiv 24 = if 0 ≤ x then x / 24 else -((-x) / 24) := by
  split
  · rename_i h; exact Int.tdiv_eq_ediv_of_nonneg h
  · rename_i h
    have h2 : 0 ≤ -x := by omega
    have e : x.tdiv 24 = -((-x).tdiv 24) := by rw [Int.neg_tdiv, Int.neg_neg]
    rw [e, Int.tdiv_eq_ediv_of_nonneg h2]
/-- Java's remainder by 24 -/
theorem rem24 (n : Int32) : (n - n / 24 * 24).toInt = if 0 ≤ n.toInt then n.toInt % 24 else -((-n.toInt) % 24) := by
  have h24 : (24 : Int32).toInt = 24 := by decide
  have b1 := Int32.le_toInt n
  have b2 := Int32.toInt_lt n
  have hd : (n / 24).toInt = n.toInt.tdiv 24 := by rw [Int32.toInt_div_of_ne_right n 24 (by decide), h24]
  rw [Int32.toInt_sub, Int32.toInt_mul, hd, h24, td24]
  split
  · rw [Int.bmod_eq_of_le_mul_two (x := n.toInt / 24 * 24) (by omega) (by omega), Int.bmod_eq_of_le_mul_two (by omega) (by omega)]
    omega
  · rw [Int.bmod_eq_of_le_mul_two (x := -(-n.toInt / 24) * 24) (by omega) (by omega), Int.bmod_eq_of_le_mul_two (by omega) (by omega)]
    omega
theorem xor24 (n : Int32) : 0 ≤ n ^^^ 24 ↔ 0 ≤ n.toInt := by
  rw [Int32.le_iff_toInt_le, Int32.toInt_zero]
  have h1 : (n ^^^ 24).toBitVec.msb = decide ((n ^^^ 24).toBitVec.toInt < 0) := BitVec.msb_eq_toInt
  have h2 : n.toBitVec.msb = decide (n.toBitVec.toInt < 0) := BitVec.msb_eq_toInt
  have h3 : (n ^^^ 24).toBitVec.msb = n.toBitVec.msb := by
    rw [Int32.toBitVec_xor, BitVec.msb_xor]
    rw [show (24 : Int32).toBitVec.msb = false by decide, Bool.xor_false]
  rw [h3, h2] at h1
  have h4 : ((n ^^^ 24).toInt < 0) ↔ (n.toInt < 0) := by
    have := of_decide_eq_true (p := (decide (n.toBitVec.toInt < 0) = decide ((n ^^^ 24).toBitVec.toInt < 0))) (by rw [h1]; simp)
    constructor
    · intro h; exact of_decide_eq_true (this.trans (decide_eq_true h))
    · intro h; exact of_decide_eq_true (this.symm.trans (decide_eq_true h))
  omega
/-- floorMod by 24 -/
theorem flm_toInt (n : Int32) : (flm n 24).toInt = n.toInt % 24 := by
  have hr := rem24 n
  have h24 : (24 : Int32).toInt = 24 := by decide
  unfold flm
  by_cases hp : 0 ≤ n ^^^ 24
  · rw [if_pos hp, hr, if_pos ((xor24 n).mp hp)]
  · have hn : ¬ 0 ≤ n.toInt := fun z => hp ((xor24 n).mpr z)
    rw [if_neg hp]
    rw [if_neg hn] at hr
    by_cases h0 : n - n / 24 * 24 = 0
    · rw [if_pos h0, h0]
      rw [h0, Int32.toInt_zero] at hr
      rw [Int32.toInt_zero]
      omega
    · have h00 : (n - n / 24 * 24).toInt ≠ 0 := fun z => h0 (Int32.toInt_inj.mp (by rw [z]; decide))
      rw [if_neg h0, Int32.toInt_add, hr, h24, Int.bmod_eq_of_le_mul_two (by omega) (by omega)]
      omega
theorem flm_in (n : Int32) : vp_in (flm n 24) 24 := by
  rw [vp_in_iff, flm_toInt]
  omega
theorem nx_in {x : Int32} (h : vp_in x 24) : vp_in (x + 1 - (x + 1) / 24 * 24) 24 := by
  obtain ⟨j, hj, rfl⟩ := vp_in_of h (by decide)
  have : ∀ j, j < 24 → vp_in (nI j + 1 - (nI j + 1) / 24 * 24) 24 := by unfold vp_in; decide
  exact this j hj
theorem dnF_wf {σ : CS} (w : Wf σ) (q : Nat → Int32) (a b c d : Bool) : Wf (dnF σ q a b c d) := by
  have e0 : cI (beF σ q a b c) 0 = cI σ 0 := beF_I0 _ _ _ _ _
  have eP := beF_P σ q a b c
  have eQ := beF_Q σ q a b c
  have eF := beF_F σ q a b c
  unfold dnF
  dsimp only
  split
  · refine ⟨?_, ?_, ?_, ?_, ?_⟩
    · show vp_in (if d = true then flm (q 4) 24 else cI (beF σ q a b c) 0 + 1 - (cI (beF σ q a b c) 0 + 1) / 24 * 24) 24
      split
      · exact flm_in _
      · rw [e0]; exact nx_in w.1
    · show ∀ i, i < 24 → cP (beF σ q a b c) 0 i < 24
      rw [eP]; exact w.2.1
    · show ∀ i, i < 24 → okQ (cQ (beF σ q a b c) i)
      rw [eQ]; exact w.2.2.1
    · show ∀ j, j < 48 → fp_fin (cF (beF σ q a b c) 0 j)
      rw [eF]; exact w.2.2.2.1
    · show ∀ j, j < 4 → fp_fin (cF (beF σ q a b c) 1 j)
      rw [eF]; exact w.2.2.2.2
  · refine ⟨?_, ?_, ?_, ?_, ?_⟩
    · show vp_in (cI (beF σ q a b c) 0) 24
      rw [e0]; exact w.1
    · show ∀ i, i < 24 → cP (beF σ q a b c) 0 i < 24
      rw [eP]; exact w.2.1
    · show ∀ i, i < 24 → okQ (cQ (beF σ q a b c) i)
      rw [eQ]; exact w.2.2.1
    · show ∀ j, j < 48 → fp_fin (cF (beF σ q a b c) 0 j)
      rw [eF]; exact w.2.2.2.1
    · show ∀ j, j < 4 → fp_fin (cF (beF σ q a b c) 1 j)
      rw [eF]; exact w.2.2.2.2
theorem wf_of {σ τ : CS} (w : Wf σ) (h0 : cI τ 0 = cI σ 0) (hP : cP τ = cP σ) (hQ : cQ τ = cQ σ) (hF : Ff τ) : Wf τ :=
  ⟨by rw [h0]; exact w.1, by rw [hP]; exact w.2.1, by rw [hQ]; exact w.2.2.1, hF.1, hF.2⟩
theorem doF_wf {σ : CS} (w : Wf σ) : Wf (doF σ).2 := by
  have ff : Ff σ := ⟨w.2.2.2.1, w.2.2.2.2⟩
  have w1 : Wf (cmF σ (cI σ 0 / 4)).2 := wf_of w (cmF_I0 _ _) (cmF_P _ _) (cmF_Q _ _) (ff.eq (cmF_F _ _))
  have hq : okQ (doQ σ) := by unfold doQ; rw [cmF_Q]; exact w.2.2.1 _ (w.2.1 _ (vp_lt w.1))
  unfold doF
  dsimp only
  generalize (cmF σ (cI σ 0 / 4)).2 = τ at w1 ⊢
  generalize doQ σ = q at hq ⊢
  have ft : Ff τ := ⟨w1.2.2.2.1, w1.2.2.2.2⟩
  unfold doG
  split
  · split
    · exact wf_of (σ := τ) (τ := sI τ 1 1) w1 rfl rfl rfl ft
    · rename_i hb
      refine dnF_wf (wf_of w1 ?_ ?_ ?_ ?_) _ _ _ _ _
      · rw [dmF_I0, mvF_I0]
      · rw [dmF_P, mvF_P]
      · rw [dmF_Q, mvF_Q]
      · exact (mvF_ff ft hq (by simpa using hb)).eq (dmF_F _ _)
  · split
    · split
      · exact dnF_wf w1 _ _ _ _ _
      · exact dnF_wf (wf_of w1 (gwF_I0 _ _ _) (gwF_P _ _ _) (gwF_Q _ _ _) (ft.eq (gwF_F _ _ _))) _ _ _ _ _
    · split
      · exact dnF_wf (σ := sI τ 1 1) (wf_of (σ := τ) (τ := sI τ 1 1) w1 rfl rfl rfl ft) _ _ _ _ _
      · split
        · exact wf_of (σ := τ) (τ := sI τ 1 1) w1 rfl rfl rfl ft
        · rename_i hc
          exact dnF_wf (wf_of w1 (cpF_I0 _ _) (cpF_P _ _) (cpF_Q _ _) (cpF_ff ft hq (by simpa using hc))) _ _ _ _ _
end Wf
end
