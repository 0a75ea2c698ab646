section
-- ===== PART A: goes FIRST, ahead of the names: the tables' words, and 'selects' of the private methods out of them =====
/-- a private method of a class that the tables say can be made, by its rows of tables_1 -/
def lw_okq (q : MethodName × Nat) : Prop := (q.1.cls ≠ "java/lang/invoke/MethodHandle" ∧ q.1.cls ≠ "java/lang/invoke/VarHandle") ∧ Cond.instantiable q.1.cls q.2 ∈ tables_1 ∧ Cond.privateMethod q.1 ∈ tables_1 ∧ Cond.instanceMethod q.1 ∈ tables_1
theorem lw_p0 : lw_okq (⟨"FootprintNet$Miner", "prepareSets", "(LFootprintNet$Log;)V"⟩, 5) := ⟨⟨by decide +kernel, by decide +kernel⟩, List.mem_of_getElem? (i := 74) (by decide +kernel), List.mem_of_getElem? (i := 234) (by decide +kernel), List.mem_of_getElem? (i := 235) (by decide +kernel)⟩
theorem lw_p1 : lw_okq (⟨"FootprintNet$Miner", "addPairsOf", "(I)Z"⟩, 5) := ⟨⟨by decide +kernel, by decide +kernel⟩, List.mem_of_getElem? (i := 74) (by decide +kernel), List.mem_of_getElem? (i := 245) (by decide +kernel), List.mem_of_getElem? (i := 246) (by decide +kernel)⟩
theorem lw_p2 : lw_okq (⟨"FootprintNet$Miner", "isCausal", "(II)Z"⟩, 5) := ⟨⟨by decide +kernel, by decide +kernel⟩, List.mem_of_getElem? (i := 74) (by decide +kernel), List.mem_of_getElem? (i := 249) (by decide +kernel), List.mem_of_getElem? (i := 250) (by decide +kernel)⟩
theorem lw_p3 : lw_okq (⟨"FootprintNet$Miner", "isGreatest", "(II)Z"⟩, 5) := ⟨⟨by decide +kernel, by decide +kernel⟩, List.mem_of_getElem? (i := 74) (by decide +kernel), List.mem_of_getElem? (i := 253) (by decide +kernel), List.mem_of_getElem? (i := 254) (by decide +kernel)⟩
theorem lw_p4 : lw_okq (⟨"FootprintNet$Net", "prepareFiring", "()V"⟩, 9) := ⟨⟨by decide +kernel, by decide +kernel⟩, List.mem_of_getElem? (i := 39) (by decide +kernel), List.mem_of_getElem? (i := 269) (by decide +kernel), List.mem_of_getElem? (i := 270) (by decide +kernel)⟩
theorem lw_p5 : lw_okq (⟨"FootprintNet$Net", "connect", "(IIJ)V"⟩, 9) := ⟨⟨by decide +kernel, by decide +kernel⟩, List.mem_of_getElem? (i := 39) (by decide +kernel), List.mem_of_getElem? (i := 276) (by decide +kernel), List.mem_of_getElem? (i := 277) (by decide +kernel)⟩
theorem lw_p6 : lw_okq (⟨"FootprintNet", "netOf", "(I)LFootprintNet$Net;"⟩, 6) := ⟨⟨by decide +kernel, by decide +kernel⟩, List.mem_of_getElem? (i := 11) (by decide +kernel), List.mem_of_getElem? (i := 333) (by decide +kernel), List.mem_of_getElem? (i := 334) (by decide +kernel)⟩
theorem lw_p7 : lw_okq (⟨"FootprintNet", "replays", "(LFootprintNet$Net;I)Z"⟩, 6) := ⟨⟨by decide +kernel, by decide +kernel⟩, List.mem_of_getElem? (i := 11) (by decide +kernel), List.mem_of_getElem? (i := 365) (by decide +kernel), List.mem_of_getElem? (i := 366) (by decide +kernel)⟩
theorem lw_p8 : lw_okq (⟨"FootprintNet$Reach", "indexOf", "(J)I"⟩, 6) := ⟨⟨by decide +kernel, by decide +kernel⟩, List.mem_of_getElem? (i := 97) (by decide +kernel), List.mem_of_getElem? (i := 390) (by decide +kernel), List.mem_of_getElem? (i := 391) (by decide +kernel)⟩
theorem lw_p9 : lw_okq (⟨"FootprintNet$Reach", "addAt", "(IJ)I"⟩, 6) := ⟨⟨by decide +kernel, by decide +kernel⟩, List.mem_of_getElem? (i := 97) (by decide +kernel), List.mem_of_getElem? (i := 395) (by decide +kernel), List.mem_of_getElem? (i := 396) (by decide +kernel)⟩
theorem lw_p10 : lw_okq (⟨"FootprintNet$Reach", "addNextOf", "(LFootprintNet$Net;I)Z"⟩, 6) := ⟨⟨by decide +kernel, by decide +kernel⟩, List.mem_of_getElem? (i := 97) (by decide +kernel), List.mem_of_getElem? (i := 399) (by decide +kernel), List.mem_of_getElem? (i := 400) (by decide +kernel)⟩
theorem lw_p11 : lw_okq (⟨"FootprintNet$Reach", "sinkMeansFinal", "()Z"⟩, 6) := ⟨⟨by decide +kernel, by decide +kernel⟩, List.mem_of_getElem? (i := 97) (by decide +kernel), List.mem_of_getElem? (i := 423) (by decide +kernel), List.mem_of_getElem? (i := 424) (by decide +kernel)⟩
theorem lw_p12 : lw_okq (⟨"FootprintNet$Reach", "allCanEnd", "()Z"⟩, 6) := ⟨⟨by decide +kernel, by decide +kernel⟩, List.mem_of_getElem? (i := 97) (by decide +kernel), List.mem_of_getElem? (i := 429) (by decide +kernel), List.mem_of_getElem? (i := 430) (by decide +kernel)⟩
theorem lw_p13 : lw_okq (⟨"FootprintNet$Reach", "spreadEnding", "()I"⟩, 6) := ⟨⟨by decide +kernel, by decide +kernel⟩, List.mem_of_getElem? (i := 97) (by decide +kernel), List.mem_of_getElem? (i := 433) (by decide +kernel), List.mem_of_getElem? (i := 434) (by decide +kernel)⟩
theorem lw_p14 : lw_okq (⟨"FootprintNet$Reach", "leadsToEnding", "(I)Z"⟩, 6) := ⟨⟨by decide +kernel, by decide +kernel⟩, List.mem_of_getElem? (i := 97) (by decide +kernel), List.mem_of_getElem? (i := 437) (by decide +kernel), List.mem_of_getElem? (i := 438) (by decide +kernel)⟩
theorem lw_p15 : lw_okq (⟨"FootprintNet$Net", "sharesOutputs", "(II)Z"⟩, 9) := ⟨⟨by decide +kernel, by decide +kernel⟩, List.mem_of_getElem? (i := 39) (by decide +kernel), List.mem_of_getElem? (i := 463) (by decide +kernel), List.mem_of_getElem? (i := 464) (by decide +kernel)⟩
def lw_privs_1 : List (MethodName × Nat) := [(⟨"FootprintNet$Miner", "prepareSets", "(LFootprintNet$Log;)V"⟩, 5), (⟨"FootprintNet$Miner", "addPairsOf", "(I)Z"⟩, 5), (⟨"FootprintNet$Miner", "isCausal", "(II)Z"⟩, 5), (⟨"FootprintNet$Miner", "isGreatest", "(II)Z"⟩, 5), (⟨"FootprintNet$Net", "prepareFiring", "()V"⟩, 9), (⟨"FootprintNet$Net", "connect", "(IIJ)V"⟩, 9), (⟨"FootprintNet", "netOf", "(I)LFootprintNet$Net;"⟩, 6), (⟨"FootprintNet", "replays", "(LFootprintNet$Net;I)Z"⟩, 6), (⟨"FootprintNet$Reach", "indexOf", "(J)I"⟩, 6), (⟨"FootprintNet$Reach", "addAt", "(IJ)I"⟩, 6), (⟨"FootprintNet$Reach", "addNextOf", "(LFootprintNet$Net;I)Z"⟩, 6), (⟨"FootprintNet$Reach", "sinkMeansFinal", "()Z"⟩, 6), (⟨"FootprintNet$Reach", "allCanEnd", "()Z"⟩, 6), (⟨"FootprintNet$Reach", "spreadEnding", "()I"⟩, 6), (⟨"FootprintNet$Reach", "leadsToEnding", "(I)Z"⟩, 6), (⟨"FootprintNet$Net", "sharesOutputs", "(II)Z"⟩, 9)]
theorem lw_r1 : ∀ q ∈ lw_privs_1, lw_okq q := List.forall_mem_cons.mpr ⟨lw_p0, List.forall_mem_cons.mpr ⟨lw_p1, List.forall_mem_cons.mpr ⟨lw_p2, List.forall_mem_cons.mpr ⟨lw_p3, List.forall_mem_cons.mpr ⟨lw_p4, List.forall_mem_cons.mpr ⟨lw_p5, List.forall_mem_cons.mpr ⟨lw_p6, List.forall_mem_cons.mpr ⟨lw_p7, List.forall_mem_cons.mpr ⟨lw_p8, List.forall_mem_cons.mpr ⟨lw_p9, List.forall_mem_cons.mpr ⟨lw_p10, List.forall_mem_cons.mpr ⟨lw_p11, List.forall_mem_cons.mpr ⟨lw_p12, List.forall_mem_cons.mpr ⟨lw_p13, List.forall_mem_cons.mpr ⟨lw_p14, List.forall_mem_cons.mpr ⟨lw_p15, fun _ h => absurd h List.not_mem_nil⟩⟩⟩⟩⟩⟩⟩⟩⟩⟩⟩⟩⟩⟩⟩⟩
theorem lw_p16 : lw_okq (⟨"FootprintNetModel", "followed", "(II)Z"⟩, 19) := ⟨⟨by decide +kernel, by decide +kernel⟩, List.mem_of_getElem? (i := 502) (by decide +kernel), List.mem_of_getElem? (i := 592) (by decide +kernel), List.mem_of_getElem? (i := 593) (by decide +kernel)⟩
theorem lw_p17 : lw_okq (⟨"FootprintNetModel", "causal", "(II)Z"⟩, 19) := ⟨⟨by decide +kernel, by decide +kernel⟩, List.mem_of_getElem? (i := 502) (by decide +kernel), List.mem_of_getElem? (i := 601) (by decide +kernel), List.mem_of_getElem? (i := 602) (by decide +kernel)⟩
theorem lw_p18 : lw_okq (⟨"FootprintNetModel", "greatest", "(II)Z"⟩, 19) := ⟨⟨by decide +kernel, by decide +kernel⟩, List.mem_of_getElem? (i := 502) (by decide +kernel), List.mem_of_getElem? (i := 608) (by decide +kernel), List.mem_of_getElem? (i := 609) (by decide +kernel)⟩
theorem lw_p19 : lw_okq (⟨"FootprintNetModel", "initial", "()V"⟩, 19) := ⟨⟨by decide +kernel, by decide +kernel⟩, List.mem_of_getElem? (i := 502) (by decide +kernel), List.mem_of_getElem? (i := 643) (by decide +kernel), List.mem_of_getElem? (i := 644) (by decide +kernel)⟩
theorem lw_p20 : lw_okq (⟨"FootprintNetModel", "enabled", "(II)Z"⟩, 19) := ⟨⟨by decide +kernel, by decide +kernel⟩, List.mem_of_getElem? (i := 502) (by decide +kernel), List.mem_of_getElem? (i := 647) (by decide +kernel), List.mem_of_getElem? (i := 648) (by decide +kernel)⟩
theorem lw_p21 : lw_okq (⟨"FootprintNetModel", "activities", "(I)I"⟩, 19) := ⟨⟨by decide +kernel, by decide +kernel⟩, List.mem_of_getElem? (i := 502) (by decide +kernel), List.mem_of_getElem? (i := 651) (by decide +kernel), List.mem_of_getElem? (i := 652) (by decide +kernel)⟩
theorem lw_p22 : lw_okq (⟨"FootprintNetModel", "takes", "(III)Z"⟩, 19) := ⟨⟨by decide +kernel, by decide +kernel⟩, List.mem_of_getElem? (i := 502) (by decide +kernel), List.mem_of_getElem? (i := 655) (by decide +kernel), List.mem_of_getElem? (i := 656) (by decide +kernel)⟩
theorem lw_p23 : lw_okq (⟨"FootprintNetModel", "fire", "(II)V"⟩, 19) := ⟨⟨by decide +kernel, by decide +kernel⟩, List.mem_of_getElem? (i := 502) (by decide +kernel), List.mem_of_getElem? (i := 659) (by decide +kernel), List.mem_of_getElem? (i := 660) (by decide +kernel)⟩
theorem lw_p24 : lw_okq (⟨"FootprintNetModel", "gives", "(III)Z"⟩, 19) := ⟨⟨by decide +kernel, by decide +kernel⟩, List.mem_of_getElem? (i := 502) (by decide +kernel), List.mem_of_getElem? (i := 663) (by decide +kernel), List.mem_of_getElem? (i := 664) (by decide +kernel)⟩
theorem lw_p25 : lw_okq (⟨"FootprintNetModel", "isFinal", "()Z"⟩, 19) := ⟨⟨by decide +kernel, by decide +kernel⟩, List.mem_of_getElem? (i := 502) (by decide +kernel), List.mem_of_getElem? (i := 667) (by decide +kernel), List.mem_of_getElem? (i := 668) (by decide +kernel)⟩
theorem lw_p26 : lw_okq (⟨"FootprintNetModel", "explore", "(I)V"⟩, 19) := ⟨⟨by decide +kernel, by decide +kernel⟩, List.mem_of_getElem? (i := 502) (by decide +kernel), List.mem_of_getElem? (i := 675) (by decide +kernel), List.mem_of_getElem? (i := 676) (by decide +kernel)⟩
theorem lw_p27 : lw_okq (⟨"FootprintNetModel", "number", "()I"⟩, 19) := ⟨⟨by decide +kernel, by decide +kernel⟩, List.mem_of_getElem? (i := 502) (by decide +kernel), List.mem_of_getElem? (i := 679) (by decide +kernel), List.mem_of_getElem? (i := 680) (by decide +kernel)⟩
theorem lw_p28 : lw_okq (⟨"FootprintNetModel", "load", "(I)V"⟩, 19) := ⟨⟨by decide +kernel, by decide +kernel⟩, List.mem_of_getElem? (i := 502) (by decide +kernel), List.mem_of_getElem? (i := 683) (by decide +kernel), List.mem_of_getElem? (i := 684) (by decide +kernel)⟩
theorem lw_p29 : lw_okq (⟨"FootprintNetModel", "loops", "(I)Z"⟩, 19) := ⟨⟨by decide +kernel, by decide +kernel⟩, List.mem_of_getElem? (i := 502) (by decide +kernel), List.mem_of_getElem? (i := 695) (by decide +kernel), List.mem_of_getElem? (i := 696) (by decide +kernel)⟩
theorem lw_p30 : lw_okq (⟨"FootprintNetModel", "mixed", "(I)Z"⟩, 19) := ⟨⟨by decide +kernel, by decide +kernel⟩, List.mem_of_getElem? (i := 502) (by decide +kernel), List.mem_of_getElem? (i := 699) (by decide +kernel), List.mem_of_getElem? (i := 700) (by decide +kernel)⟩
def lw_privs_2 : List (MethodName × Nat) := [(⟨"FootprintNetModel", "followed", "(II)Z"⟩, 19), (⟨"FootprintNetModel", "causal", "(II)Z"⟩, 19), (⟨"FootprintNetModel", "greatest", "(II)Z"⟩, 19), (⟨"FootprintNetModel", "initial", "()V"⟩, 19), (⟨"FootprintNetModel", "enabled", "(II)Z"⟩, 19), (⟨"FootprintNetModel", "activities", "(I)I"⟩, 19), (⟨"FootprintNetModel", "takes", "(III)Z"⟩, 19), (⟨"FootprintNetModel", "fire", "(II)V"⟩, 19), (⟨"FootprintNetModel", "gives", "(III)Z"⟩, 19), (⟨"FootprintNetModel", "isFinal", "()Z"⟩, 19), (⟨"FootprintNetModel", "explore", "(I)V"⟩, 19), (⟨"FootprintNetModel", "number", "()I"⟩, 19), (⟨"FootprintNetModel", "load", "(I)V"⟩, 19), (⟨"FootprintNetModel", "loops", "(I)Z"⟩, 19), (⟨"FootprintNetModel", "mixed", "(I)Z"⟩, 19)]
theorem lw_r2 : ∀ q ∈ lw_privs_2, lw_okq q := List.forall_mem_cons.mpr ⟨lw_p16, List.forall_mem_cons.mpr ⟨lw_p17, List.forall_mem_cons.mpr ⟨lw_p18, List.forall_mem_cons.mpr ⟨lw_p19, List.forall_mem_cons.mpr ⟨lw_p20, List.forall_mem_cons.mpr ⟨lw_p21, List.forall_mem_cons.mpr ⟨lw_p22, List.forall_mem_cons.mpr ⟨lw_p23, List.forall_mem_cons.mpr ⟨lw_p24, List.forall_mem_cons.mpr ⟨lw_p25, List.forall_mem_cons.mpr ⟨lw_p26, List.forall_mem_cons.mpr ⟨lw_p27, List.forall_mem_cons.mpr ⟨lw_p28, List.forall_mem_cons.mpr ⟨lw_p29, List.forall_mem_cons.mpr ⟨lw_p30, fun _ h => absurd h List.not_mem_nil⟩⟩⟩⟩⟩⟩⟩⟩⟩⟩⟩⟩⟩⟩⟩
def lw_privs : List (MethodName × Nat) := lw_privs_1 ++ (lw_privs_2)
def lw_tbl : List Cond := k2_sels lw_privs ++ tables_1
theorem lw_privs_ok : ∀ q ∈ lw_privs, lw_okq q := by
  show ∀ q ∈ lw_privs_1 ++ (lw_privs_2), lw_okq q
  exact List.forall_mem_append.mpr ⟨lw_r1, lw_r2⟩
end
section
/-! names: classes, fields, methods -/
abbrev fR_F : String := "FootprintNet"
def fF_F : u_T := fun k => match k with
  | 0 => ("FootprintNet", "log", "LFootprintNet$Log;", true)
  | 1 => ("FootprintNet", "given", "LFootprintNet$Net;", true)
  | 2 => ("FootprintNet", "found", "LFootprintNet$Net;", true)
  | 3 => ("FootprintNet", "miner", "LFootprintNet$Miner;", true)
  | 4 => ("FootprintNet", "reach", "LFootprintNet$Reach;", true)
  | _ => ("FootprintNet", "player", "LFootprintNet$Player;", true)
def fT_F : Nat → FieldType := fun k => match k with
  | 0 => .object "FootprintNet$Log"
  | 1 => .object "FootprintNet$Net"
  | 2 => .object "FootprintNet$Net"
  | 3 => .object "FootprintNet$Miner"
  | 4 => .object "FootprintNet$Reach"
  | _ => .object "FootprintNet$Player"
theorem fT_F_ok : ∀ k, k < 6 → parseFieldDescriptor (fF_F k).2.2.1 = some (fT_F k) := by decide +kernel
theorem fT_F_nm : ∀ a, a < 6 → ∀ b, b < 6 → a ≠ b → (fF_F a).2.1 ≠ (fF_F b).2.1 := by decide +kernel
abbrev fR_Lg : String := "FootprintNet$Log"
def fF_Lg : u_T := fun k => match k with
  | 0 => ("FootprintNet$Log", "lengths", "[I", true)
  | 1 => ("FootprintNet$Log", "events", "[I", true)
  | 2 => ("FootprintNet$Log", "followers", "[I", true)
  | _ => ("FootprintNet$Log", "traces", "I", false)
def fT_Lg : Nat → FieldType := fun k => match k with
  | 0 => .array .int
  | 1 => .array .int
  | 2 => .array .int
  | _ => .int
theorem fT_Lg_ok : ∀ k, k < 4 → parseFieldDescriptor (fF_Lg k).2.2.1 = some (fT_Lg k) := by decide +kernel
theorem fT_Lg_nm : ∀ a, a < 4 → ∀ b, b < 4 → a ≠ b → (fF_Lg a).2.1 ≠ (fF_Lg b).2.1 := by decide +kernel
abbrev fR_Nt : String := "FootprintNet$Net"
def fF_Nt : u_T := fun k => match k with
  | 0 => ("FootprintNet$Net", "ins", "[I", true)
  | 1 => ("FootprintNet$Net", "outs", "[I", true)
  | 2 => ("FootprintNet$Net", "takes", "[J", true)
  | 3 => ("FootprintNet$Net", "puts", "[J", true)
  | 4 => ("FootprintNet$Net", "count", "I", false)
  | 5 => ("FootprintNet$Net", "first", "I", false)
  | 6 => ("FootprintNet$Net", "last", "I", false)
  | 7 => ("FootprintNet$Net", "loose", "I", false)
  | _ => ("FootprintNet$Net", "members", "I", false)
def fT_Nt : Nat → FieldType := fun k => match k with
  | 0 => .array .int
  | 1 => .array .int
  | 2 => .array .long
  | 3 => .array .long
  | 4 => .int
  | 5 => .int
  | 6 => .int
  | 7 => .int
  | _ => .int
theorem fT_Nt_ok : ∀ k, k < 9 → parseFieldDescriptor (fF_Nt k).2.2.1 = some (fT_Nt k) := by decide +kernel
theorem fT_Nt_nm : ∀ a, a < 9 → ∀ b, b < 9 → a ≠ b → (fF_Nt a).2.1 ≠ (fF_Nt b).2.1 := by decide +kernel
abbrev fR_Mi : String := "FootprintNet$Miner"
def fF_Mi : u_T := fun k => match k with
  | 0 => ("FootprintNet$Miner", "effects", "[I", true)
  | 1 => ("FootprintNet$Miner", "strange", "[Z", true)
  | 2 => ("FootprintNet$Miner", "pairIns", "[I", true)
  | 3 => ("FootprintNet$Miner", "pairOuts", "[I", true)
  | _ => ("FootprintNet$Miner", "pairs", "I", false)
def fT_Mi : Nat → FieldType := fun k => match k with
  | 0 => .array .int
  | 1 => .array .boolean
  | 2 => .array .int
  | 3 => .array .int
  | _ => .int
theorem fT_Mi_ok : ∀ k, k < 5 → parseFieldDescriptor (fF_Mi k).2.2.1 = some (fT_Mi k) := by decide +kernel
theorem fT_Mi_nm : ∀ a, a < 5 → ∀ b, b < 5 → a ≠ b → (fF_Mi a).2.1 ≠ (fF_Mi b).2.1 := by decide +kernel
abbrev fR_Re : String := "FootprintNet$Reach"
def fF_Re : u_T := fun k => match k with
  | 0 => ("FootprintNet$Reach", "seen", "[J", true)
  | 1 => ("FootprintNet$Reach", "slots", "[I", true)
  | 2 => ("FootprintNet$Reach", "next", "[I", true)
  | 3 => ("FootprintNet$Reach", "ending", "[Z", true)
  | 4 => ("FootprintNet$Reach", "count", "I", false)
  | _ => ("FootprintNet$Reach", "everEnabled", "I", false)
def fT_Re : Nat → FieldType := fun k => match k with
  | 0 => .array .long
  | 1 => .array .int
  | 2 => .array .int
  | 3 => .array .boolean
  | 4 => .int
  | _ => .int
theorem fT_Re_ok : ∀ k, k < 6 → parseFieldDescriptor (fF_Re k).2.2.1 = some (fT_Re k) := by decide +kernel
theorem fT_Re_nm : ∀ a, a < 6 → ∀ b, b < 6 → a ≠ b → (fF_Re a).2.1 ≠ (fF_Re b).2.1 := by decide +kernel
abbrev fR_Pl : String := "FootprintNet$Player"
def fF_Pl : u_T := fun k => match k with
  | 0 => ("FootprintNet$Player", "fired", "[I", true)
  | _ => ("FootprintNet$Player", "count", "I", false)
def fT_Pl : Nat → FieldType := fun k => match k with
  | 0 => .array .int
  | _ => .int
theorem fT_Pl_ok : ∀ k, k < 2 → parseFieldDescriptor (fF_Pl k).2.2.1 = some (fT_Pl k) := by decide +kernel
theorem fT_Pl_nm : ∀ a, a < 2 → ∀ b, b < 2 → a ≠ b → (fF_Pl a).2.1 ≠ (fF_Pl b).2.1 := by decide +kernel
abbrev fR_Md : String := "FootprintNetModel"
def fF_Md : u_T := fun k => match k with
  | 0 => ("FootprintNetModel", "traces", "I", false)
  | 1 => ("FootprintNetModel", "lengths", "[I", true)
  | 2 => ("FootprintNetModel", "log", "[I", true)
  | 3 => ("FootprintNetModel", "count", "[I", true)
  | 4 => ("FootprintNetModel", "ins", "[I", true)
  | 5 => ("FootprintNetModel", "outs", "[I", true)
  | 6 => ("FootprintNetModel", "first", "[I", true)
  | 7 => ("FootprintNetModel", "last", "[I", true)
  | 8 => ("FootprintNetModel", "acts", "[I", true)
  | 9 => ("FootprintNetModel", "table", "[I", true)
  | 10 => ("FootprintNetModel", "found", "I", false)
  | 11 => ("FootprintNetModel", "foundIn", "[I", true)
  | 12 => ("FootprintNetModel", "foundOut", "[I", true)
  | 13 => ("FootprintNetModel", "tokens", "[I", true)
  | 14 => ("FootprintNetModel", "many", "I", false)
  | 15 => ("FootprintNetModel", "wide", "Z", false)
  | 16 => ("FootprintNetModel", "marks", "[B", true)
  | 17 => ("FootprintNetModel", "next", "[S", true)
  | _ => ("FootprintNetModel", "good", "[Z", true)
def fT_Md : Nat → FieldType := fun k => match k with
  | 0 => .int
  | 1 => .array .int
  | 2 => .array .int
  | 3 => .array .int
  | 4 => .array .int
  | 5 => .array .int
  | 6 => .array .int
  | 7 => .array .int
  | 8 => .array .int
  | 9 => .array .int
  | 10 => .int
  | 11 => .array .int
  | 12 => .array .int
  | 13 => .array .int
  | 14 => .int
  | 15 => .boolean
  | 16 => .array .byte
  | 17 => .array .short
  | _ => .array .boolean
theorem fT_Md_ok : ∀ k, k < 19 → parseFieldDescriptor (fF_Md k).2.2.1 = some (fT_Md k) := by decide +kernel
theorem fT_Md_nm : ∀ a, a < 19 → ∀ b, b < 19 → a ≠ b → (fF_Md a).2.1 ≠ (fF_Md b).2.1 := by decide +kernel
abbrev fk_cl : List vw_C := [(fR_F, fF_F, 6), (fR_Lg, fF_Lg, 4), (fR_Nt, fF_Nt, 9), (fR_Mi, fF_Mi, 5), (fR_Re, fF_Re, 6), (fR_Pl, fF_Pl, 2), (fR_Md, fF_Md, 19)]
def fy_F_init : MethodName := ⟨"FootprintNet", "<init>", "()V"⟩
def fy_F_at : MethodName := ⟨"FootprintNet", "at", "(II)I"⟩
def fy_F_begin : MethodName := ⟨"FootprintNet", "begin", "()I"⟩
def fy_F_clear : MethodName := ⟨"FootprintNet", "clear", "()V"⟩
def fy_F_ends : MethodName := ⟨"FootprintNet", "ends", "(II)Z"⟩
def fy_F_event : MethodName := ⟨"FootprintNet", "event", "(I)Z"⟩
def fy_F_fits : MethodName := ⟨"FootprintNet", "fits", "(II)Z"⟩
def fy_F_inputs : MethodName := ⟨"FootprintNet", "inputs", "(II)I"⟩
def fy_F_isActivity : MethodName := ⟨"FootprintNet", "isActivity", "(I)Z"⟩
def fy_F_isIn : MethodName := ⟨"FootprintNet", "isIn", "(II)Z"⟩
def fy_F_isSet : MethodName := ⟨"FootprintNet", "isSet", "(I)Z"⟩
def fy_F_length : MethodName := ⟨"FootprintNet", "length", "(I)I"⟩
def fy_F_markings : MethodName := ⟨"FootprintNet", "markings", "(I)I"⟩
def fy_F_mine : MethodName := ⟨"FootprintNet", "mine", "()I"⟩
def fy_F_netOf : MethodName := ⟨"FootprintNet", "netOf", "(I)LFootprintNet$Net;"⟩
def fy_F_outputs : MethodName := ⟨"FootprintNet", "outputs", "(II)I"⟩
def fy_F_place : MethodName := ⟨"FootprintNet", "place", "(II)I"⟩
def fy_F_places : MethodName := ⟨"FootprintNet", "places", "(I)I"⟩
def fy_F_play : MethodName := ⟨"FootprintNet", "play", "(J)I"⟩
def fy_F_relation : MethodName := ⟨"FootprintNet", "relation", "(II)I"⟩
def fy_F_replays : MethodName := ⟨"FootprintNet", "replays", "(LFootprintNet$Net;I)Z"⟩
def fy_F_reset : MethodName := ⟨"FootprintNet", "reset", "()V"⟩
def fy_F_same : MethodName := ⟨"FootprintNet", "same", "()Z"⟩
def fy_F_shape : MethodName := ⟨"FootprintNet", "shape", "(I)I"⟩
def fy_F_sound : MethodName := ⟨"FootprintNet", "sound", "(I)I"⟩
def fy_Lg_init : MethodName := ⟨"FootprintNet$Log", "<init>", "()V"⟩
def fy_Lg_activityAt : MethodName := ⟨"FootprintNet$Log", "activityAt", "(II)I"⟩
def fy_Lg_addTrace : MethodName := ⟨"FootprintNet$Log", "addTrace", "()I"⟩
def fy_Lg_append : MethodName := ⟨"FootprintNet$Log", "append", "(I)Z"⟩
def fy_Lg_beginners : MethodName := ⟨"FootprintNet$Log", "beginners", "()I"⟩
def fy_Lg_enders : MethodName := ⟨"FootprintNet$Log", "enders", "()I"⟩
def fy_Lg_hasEvent : MethodName := ⟨"FootprintNet$Log", "hasEvent", "(II)Z"⟩
def fy_Lg_hasTrace : MethodName := ⟨"FootprintNet$Log", "hasTrace", "(I)Z"⟩
def fy_Lg_isFollowed : MethodName := ⟨"FootprintNet$Log", "isFollowed", "(II)Z"⟩
def fy_Lg_isFull : MethodName := ⟨"FootprintNet$Log", "isFull", "()Z"⟩
def fy_Lg_lengthOf : MethodName := ⟨"FootprintNet$Log", "lengthOf", "(I)I"⟩
def fy_Lg_occurring : MethodName := ⟨"FootprintNet$Log", "occurring", "()I"⟩
def fy_Lg_removeTraces : MethodName := ⟨"FootprintNet$Log", "removeTraces", "()V"⟩
def fy_Mi_init : MethodName := ⟨"FootprintNet$Miner", "<init>", "()V"⟩
def fy_Mi_addPairsOf : MethodName := ⟨"FootprintNet$Miner", "addPairsOf", "(I)Z"⟩
def fy_Mi_causedBy : MethodName := ⟨"FootprintNet$Miner", "causedBy", "(LFootprintNet$Log;I)I"⟩
def fy_Mi_findPairs : MethodName := ⟨"FootprintNet$Miner", "findPairs", "(LFootprintNet$Log;)Z"⟩
def fy_Mi_isCausal : MethodName := ⟨"FootprintNet$Miner", "isCausal", "(II)Z"⟩
def fy_Mi_isGreatest : MethodName := ⟨"FootprintNet$Miner", "isGreatest", "(II)Z"⟩
def fy_Mi_knownTo : MethodName := ⟨"FootprintNet$Miner", "knownTo", "(LFootprintNet$Log;I)I"⟩
def fy_Mi_prepareSets : MethodName := ⟨"FootprintNet$Miner", "prepareSets", "(LFootprintNet$Log;)V"⟩
def fy_Mi_writeNet : MethodName := ⟨"FootprintNet$Miner", "writeNet", "(LFootprintNet$Log;LFootprintNet$Net;)V"⟩
def fy_Nt_init : MethodName := ⟨"FootprintNet$Net", "<init>", "()V"⟩
def fy_Nt_activitySet : MethodName := ⟨"FootprintNet$Net", "activitySet", "()I"⟩
def fy_Nt_addPlace : MethodName := ⟨"FootprintNet$Net", "addPlace", "(II)Z"⟩
def fy_Nt_afterFiring : MethodName := ⟨"FootprintNet$Net", "afterFiring", "(JI)J"⟩
def fy_Nt_connect : MethodName := ⟨"FootprintNet$Net", "connect", "(IIJ)V"⟩
def fy_Nt_enabledIn : MethodName := ⟨"FootprintNet$Net", "enabledIn", "(J)I"⟩
def fy_Nt_firstOnes : MethodName := ⟨"FootprintNet$Net", "firstOnes", "()I"⟩
def fy_Nt_hasMixedChoice : MethodName := ⟨"FootprintNet$Net", "hasMixedChoice", "()Z"⟩
def fy_Nt_hasPlace : MethodName := ⟨"FootprintNet$Net", "hasPlace", "(II)Z"⟩
def fy_Nt_hasSelfLoop : MethodName := ⟨"FootprintNet$Net", "hasSelfLoop", "()Z"⟩
def fy_Nt_hasShortLoop : MethodName := ⟨"FootprintNet$Net", "hasShortLoop", "()Z"⟩
def fy_Nt_inputsOf : MethodName := ⟨"FootprintNet$Net", "inputsOf", "(I)I"⟩
def fy_Nt_isLike : MethodName := ⟨"FootprintNet$Net", "isLike", "(LFootprintNet$Net;)Z"⟩
def fy_Nt_lastOnes : MethodName := ⟨"FootprintNet$Net", "lastOnes", "()I"⟩
def fy_Nt_outputsOf : MethodName := ⟨"FootprintNet$Net", "outputsOf", "(I)I"⟩
def fy_Nt_placeCount : MethodName := ⟨"FootprintNet$Net", "placeCount", "()I"⟩
def fy_Nt_prepareFiring : MethodName := ⟨"FootprintNet$Net", "prepareFiring", "()V"⟩
def fy_Nt_removeAll : MethodName := ⟨"FootprintNet$Net", "removeAll", "()V"⟩
def fy_Nt_setEnds : MethodName := ⟨"FootprintNet$Net", "setEnds", "(II)V"⟩
def fy_Nt_setLoose : MethodName := ⟨"FootprintNet$Net", "setLoose", "(I)V"⟩
def fy_Nt_sharesOutputs : MethodName := ⟨"FootprintNet$Net", "sharesOutputs", "(II)Z"⟩
def fy_Pl_init : MethodName := ⟨"FootprintNet$Player", "<init>", "()V"⟩
def fy_Pl_chosenOf : MethodName := ⟨"FootprintNet$Player", "chosenOf", "(II)I"⟩
def fy_Pl_firedAt : MethodName := ⟨"FootprintNet$Player", "firedAt", "(I)I"⟩
def fy_Pl_firedCount : MethodName := ⟨"FootprintNet$Player", "firedCount", "()I"⟩
def fy_Pl_reachesFinal : MethodName := ⟨"FootprintNet$Player", "reachesFinal", "(LFootprintNet$Net;J)Z"⟩
def fy_Re_init : MethodName := ⟨"FootprintNet$Reach", "<init>", "()V"⟩
def fy_Re_addAt : MethodName := ⟨"FootprintNet$Reach", "addAt", "(IJ)I"⟩
def fy_Re_addNextOf : MethodName := ⟨"FootprintNet$Reach", "addNextOf", "(LFootprintNet$Net;I)Z"⟩
def fy_Re_allCanEnd : MethodName := ⟨"FootprintNet$Reach", "allCanEnd", "()Z"⟩
def fy_Re_explore : MethodName := ⟨"FootprintNet$Reach", "explore", "(LFootprintNet$Net;)Z"⟩
def fy_Re_indexOf : MethodName := ⟨"FootprintNet$Reach", "indexOf", "(J)I"⟩
def fy_Re_leadsToEnding : MethodName := ⟨"FootprintNet$Reach", "leadsToEnding", "(I)Z"⟩
def fy_Re_markingCount : MethodName := ⟨"FootprintNet$Reach", "markingCount", "()I"⟩
def fy_Re_provesSound : MethodName := ⟨"FootprintNet$Reach", "provesSound", "(LFootprintNet$Net;)Z"⟩
def fy_Re_sinkMeansFinal : MethodName := ⟨"FootprintNet$Reach", "sinkMeansFinal", "()Z"⟩
def fy_Re_spreadEnding : MethodName := ⟨"FootprintNet$Reach", "spreadEnding", "()I"⟩
def fy_Md_init : MethodName := ⟨"FootprintNetModel", "<init>", "()V"⟩
def fy_Md_activities : MethodName := ⟨"FootprintNetModel", "activities", "(I)I"⟩
def fy_Md_at : MethodName := ⟨"FootprintNetModel", "at", "(II)I"⟩
def fy_Md_begin : MethodName := ⟨"FootprintNetModel", "begin", "()I"⟩
def fy_Md_causal : MethodName := ⟨"FootprintNetModel", "causal", "(II)Z"⟩
def fy_Md_clear : MethodName := ⟨"FootprintNetModel", "clear", "()V"⟩
def fy_Md_enabled : MethodName := ⟨"FootprintNetModel", "enabled", "(II)Z"⟩
def fy_Md_ends : MethodName := ⟨"FootprintNetModel", "ends", "(II)Z"⟩
def fy_Md_event : MethodName := ⟨"FootprintNetModel", "event", "(I)Z"⟩
def fy_Md_explore : MethodName := ⟨"FootprintNetModel", "explore", "(I)V"⟩
def fy_Md_fire : MethodName := ⟨"FootprintNetModel", "fire", "(II)V"⟩
def fy_Md_fits : MethodName := ⟨"FootprintNetModel", "fits", "(II)Z"⟩
def fy_Md_followed : MethodName := ⟨"FootprintNetModel", "followed", "(II)Z"⟩
def fy_Md_gives : MethodName := ⟨"FootprintNetModel", "gives", "(III)Z"⟩
def fy_Md_greatest : MethodName := ⟨"FootprintNetModel", "greatest", "(II)Z"⟩
def fy_Md_has : MethodName := ⟨"FootprintNetModel", "has", "(II)Z"⟩
def fy_Md_initial : MethodName := ⟨"FootprintNetModel", "initial", "()V"⟩
def fy_Md_inputs : MethodName := ⟨"FootprintNetModel", "inputs", "(II)I"⟩
def fy_Md_isFinal : MethodName := ⟨"FootprintNetModel", "isFinal", "()Z"⟩
def fy_Md_length : MethodName := ⟨"FootprintNetModel", "length", "(I)I"⟩
def fy_Md_load : MethodName := ⟨"FootprintNetModel", "load", "(I)V"⟩
def fy_Md_loops : MethodName := ⟨"FootprintNetModel", "loops", "(I)Z"⟩
def fy_Md_markings : MethodName := ⟨"FootprintNetModel", "markings", "(I)I"⟩
def fy_Md_mine : MethodName := ⟨"FootprintNetModel", "mine", "()I"⟩
def fy_Md_mixed : MethodName := ⟨"FootprintNetModel", "mixed", "(I)Z"⟩
def fy_Md_notNet : MethodName := ⟨"FootprintNetModel", "notNet", "(I)Z"⟩
def fy_Md_number : MethodName := ⟨"FootprintNetModel", "number", "()I"⟩
def fy_Md_outputs : MethodName := ⟨"FootprintNetModel", "outputs", "(II)I"⟩
def fy_Md_place : MethodName := ⟨"FootprintNetModel", "place", "(II)I"⟩
def fy_Md_places : MethodName := ⟨"FootprintNetModel", "places", "(I)I"⟩
def fy_Md_play : MethodName := ⟨"FootprintNetModel", "play", "(J)I"⟩
def fy_Md_relation : MethodName := ⟨"FootprintNetModel", "relation", "(II)I"⟩
def fy_Md_reset : MethodName := ⟨"FootprintNetModel", "reset", "()V"⟩
def fy_Md_same : MethodName := ⟨"FootprintNetModel", "same", "()Z"⟩
def fy_Md_shape : MethodName := ⟨"FootprintNetModel", "shape", "(I)I"⟩
def fy_Md_sound : MethodName := ⟨"FootprintNetModel", "sound", "(I)I"⟩
def fy_Md_takes : MethodName := ⟨"FootprintNetModel", "takes", "(III)Z"⟩
def fy_It_bitCount : MethodName := ⟨"java/lang/Integer", "bitCount", "(I)I"⟩
def fy_Ob_init : MethodName := ⟨"java/lang/Object", "<init>", "()V"⟩
def fy_Ar_fillI : MethodName := ⟨"java/util/Arrays", "fill", "([II)V"⟩
def fy_Ar_fillJ : MethodName := ⟨"java/util/Arrays", "fill", "([JJ)V"⟩
end
section
/-! numbers: naturals in ints and longs -/
theorem fn_and (a b : Nat) : nI a &&& nI b = nI (a &&& b) := by
  apply Int32.toBitVec_inj.1
  show BitVec.ofNat 32 a &&& BitVec.ofNat 32 b = BitVec.ofNat 32 (a &&& b)
  apply BitVec.eq_of_getLsbD_eq
  intro i hi
  simp [hi]
theorem fn_or (a b : Nat) : nI a ||| nI b = nI (a ||| b) := by
  apply Int32.toBitVec_inj.1
  show BitVec.ofNat 32 a ||| BitVec.ofNat 32 b = BitVec.ofNat 32 (a ||| b)
  apply BitVec.eq_of_getLsbD_eq
  intro i hi
  simp [hi]
theorem fn_sl : ∀ n, n < 32 → ((nI n &&& 31).toBitVec.smod 32).toNat = n := by decide +kernel
theorem fn_shl {a b : Nat} (hb : b < 32) (h : a * 2 ^ b < 2 ^ 32) : nI a <<< (nI b &&& 31) = nI (a * 2 ^ b) := pk_shlN _ b (fn_sl b hb) h
theorem fn_shr {a b : Nat} (hb : b < 32) (h : a < 2 ^ 31) : nI a >>> (nI b &&& 31) = nI (a / 2 ^ b) := pk_shrN h _ b (fn_sl b hb)
theorem fn_dec {a : Nat} (h : 0 < a) : nI a + Int32.ofInt (-1) = nI (a - 1) := by
  obtain ⟨k, rfl⟩ : ∃ k, a = k + 1 := ⟨a - 1, by omega⟩
  rw [show Int32.ofInt (-1) = -1 from by decide +kernel, Nat.add_sub_cancel]
  exact pk_m1 k
theorem fn_rt {b : Bool} (h : b = true) : nI 1 = nI b.toNat := by rw [h]; rfl
theorem fn_rf {b : Bool} (h : b = false) : nI 0 = nI b.toNat := by rw [h]; rfl
theorem fn_eqJ {a b : Nat} (ha : a < 2 ^ 31) (hb : b < 2 ^ 31) : nI a - 1 = nI b - 1 ↔ a = b := by
  constructor
  · intro h
    have h1 := congrArg (fun x => x + 1) h
    simp only [Int32.sub_add_cancel] at h1
    exact (nI_eq ha hb).mp h1
  · intro h
    rw [h]
theorem fn_jt {a : Nat} (ha : a < 2 ^ 31) : (nI a - 1).toInt = (a : Int) - 1 := by
  rcases Nat.eq_zero_or_pos a with h | h
  · subst h
    decide +kernel
  · obtain ⟨k, rfl⟩ : ∃ k, a = k + 1 := ⟨a - 1, by omega⟩
    rw [nI_pred, nI_toInt (by omega)]
    omega
theorem fn_ltJ {a : Nat} (ha : a < 2 ^ 31) : nI a - 1 < 0 ↔ a = 0 := by
  rw [Int32.lt_iff_toInt_lt, fn_jt ha, show (0 : Int32).toInt = 0 from rfl]
  omega
theorem fn_geJ {a : Nat} (ha : a < 2 ^ 31) : 0 ≤ nI a - 1 ↔ 0 < a := by
  rw [Int32.le_iff_toInt_le, fn_jt ha, show (0 : Int32).toInt = 0 from rfl]
  omega
theorem fn_tb (n : Nat) : (lN n).toBitVec = BitVec.ofNat 64 n := rfl
theorem fn_linj {a b : Int64} (h : a.toBitVec = b.toBitVec) : a = b := Int64.toBitVec_inj.mp h
theorem fn_leq {a b : Nat} (ha : a < 2 ^ 64) (hb : b < 2 ^ 64) : lN a = lN b ↔ a = b := by
  constructor
  · intro h
    have h1 := congrArg (fun x : Int64 => x.toBitVec.toNat) h
    simp only [fn_tb, BitVec.toNat_ofNat] at h1
    rwa [Nat.mod_eq_of_lt ha, Nat.mod_eq_of_lt hb] at h1
  · intro h
    rw [h]
theorem fn_cmp0 (x y : Int64) : lg_cmp x y = 0 ↔ x = y := by
  unfold lg_cmp
  constructor
  · intro h
    split at h
    · exact absurd h (by decide)
    · split at h
      · assumption
      · exact absurd h (by decide)
  · intro h
    subst h
    simp
theorem fn_cmp {a b : Nat} (ha : a < 2 ^ 64) (hb : b < 2 ^ 64) : lg_cmp (lN a) (lN b) = 0 ↔ a = b := (fn_cmp0 _ _).trans (fn_leq ha hb)
theorem fn_ladd {a b : Nat} : lN a + lN b = lN (a + b) := lN_add a b
theorem fn_lsub {a b : Nat} (h : b ≤ a) : lN a - lN b = lN (a - b) := lN_sub h
theorem fn_land {a b : Nat} (ha : a < 2 ^ 64) (hb : b < 2 ^ 64) : lN a &&& lN b = lN (a &&& b) := by
  apply fn_linj
  rw [Int64.toBitVec_and, fn_tb, fn_tb, fn_tb]
  apply BitVec.eq_of_toNat_eq
  rw [BitVec.toNat_and, BitVec.toNat_ofNat, BitVec.toNat_ofNat, BitVec.toNat_ofNat, Nat.mod_eq_of_lt ha, Nat.mod_eq_of_lt hb, Nat.mod_eq_of_lt (Nat.and_lt_two_pow _ hb)]
theorem fn_lor {a b : Nat} (ha : a < 2 ^ 64) (hb : b < 2 ^ 64) : lN a ||| lN b = lN (a ||| b) := by
  apply fn_linj
  rw [Int64.toBitVec_or, fn_tb, fn_tb, fn_tb]
  apply BitVec.eq_of_toNat_eq
  rw [BitVec.toNat_or, BitVec.toNat_ofNat, BitVec.toNat_ofNat, BitVec.toNat_ofNat, Nat.mod_eq_of_lt ha, Nat.mod_eq_of_lt hb, Nat.mod_eq_of_lt (Nat.or_lt_two_pow ha hb)]
theorem fn_cu : ∀ k, k < 64 → ((nI k).toInt64.toUInt64 &&& Int64.toUInt64 63) = UInt64.ofNat k := by decide +kernel
theorem fn_cc : ∀ k, k < 64 → ((nI k).toInt64 &&& 63) = lN k := by decide +kernel
theorem fn_sm : ∀ k, k < 64 → (BitVec.ofNat 64 k).smod 64 = BitVec.ofNat 64 k := by decide +kernel
theorem fn_lushr {a k : Nat} (ha : a < 2 ^ 64) (hk : k < 64) : ((lN a).toUInt64 >>> ((nI k).toInt64.toUInt64 &&& Int64.toUInt64 63)).toInt64 = lN (a / 2 ^ k) := by
  rw [fn_cu k hk]
  apply fn_linj
  apply BitVec.eq_of_toNat_eq
  show ((lN a).toUInt64 >>> UInt64.ofNat k).toNat = (BitVec.ofNat 64 _).toNat
  have h1 : (UInt64.ofNat k).toNat = k := by
    show (BitVec.ofNat 64 k).toNat = k
    rw [BitVec.toNat_ofNat, Nat.mod_eq_of_lt (by omega)]
  have h2 : (lN a).toUInt64.toNat = a := by
    show (BitVec.ofNat 64 a).toNat = a
    rw [BitVec.toNat_ofNat, Nat.mod_eq_of_lt ha]
  rw [UInt64.toNat_shiftRight, h1, h2, Nat.mod_eq_of_lt hk, Nat.shiftRight_eq_div_pow, BitVec.toNat_ofNat, Nat.mod_eq_of_lt (Nat.lt_of_le_of_lt (Nat.div_le_self _ _) ha)]
theorem fn_lshl {a k : Nat} (hk : k < 64) : lN a <<< ((nI k).toInt64 &&& 63) = lN (a * 2 ^ k) := by
  rw [fn_cc k hk]
  apply fn_linj
  rw [Int64.toBitVec_shiftLeft, fn_tb, fn_tb, fn_tb, fn_sm k hk]
  apply BitVec.eq_of_toNat_eq
  rw [BitVec.shiftLeft_eq', BitVec.toNat_shiftLeft, BitVec.toNat_ofNat, BitVec.toNat_ofNat, BitVec.toNat_ofNat, Nat.mod_eq_of_lt (show k < 2 ^ 64 by omega), Nat.shiftLeft_eq, Nat.mul_mod, Nat.mod_mod, ← Nat.mul_mod]
theorem fn_iushr {a k : Nat} (ha : a < 2 ^ 32) (hk : k < 32) : ((nI a).toUInt32 >>> ((nI k).toUInt32 &&& Int32.toUInt32 31)).toInt32 = nI (a / 2 ^ k) :=
  pk_ushrN ha _ k ((by decide +kernel : ∀ n, n < 32 → (((nI n).toUInt32 &&& Int32.toUInt32 31).toBitVec % 32).toNat = n) k hk)
theorem fn_lof (x : Int64) : ∃ k, k < 2 ^ 64 ∧ x = lN k := ⟨x.toBitVec.toNat, x.toBitVec.isLt, fn_linj (by rw [fn_tb]; simp)⟩
theorem fn_iof (x : Int32) : ∃ k, k < 2 ^ 32 ∧ x = nI k := ⟨x.toBitVec.toNat, x.toBitVec.isLt, Int32.toBitVec_inj.mp (by show _ = BitVec.ofNat 32 _; simp)⟩
theorem fn_i2b {a : Nat} (h : a < 128) : (nI a).toInt8.toInt32 = nI a := (by decide +kernel : ∀ a, a < 128 → (nI a).toInt8.toInt32 = nI a) a h
theorem fn_nb {a : Nat} (h : a < 128) : vp_nar .byte (nI a) = nI a := fn_i2b h
end
section
/-! The judgement fk_V: from a symbolic state (world w, program counter, locals lv, stack st) the method comes to its end. Its rows. -/
def fk_isN : Cond → Bool
  | .fieldLinkNest .. => true
  | .methodLinkNest .. => true
  | _ => false
def fk_G : List Cond := lw_tbl.filter goodWord
def fk_N : List Cond := lw_tbl.filter fk_isN
theorem fk_in {w : Cond} (h : w ∈ lw_tbl) (g : goodWord w = true) : w ∈ fk_G := List.mem_filter.mpr ⟨h, g⟩
theorem fk_inN {w : Cond} (h : w ∈ lw_tbl) (g : fk_isN w = true) : w ∈ fk_N := List.mem_filter.mpr ⟨h, g⟩
theorem fk_good : ∀ w ∈ fk_G, (w.onTables && w.keeps) = true ∨ ∃ ty, w = .arrayClass ty := fun _ h => good_of_word (List.mem_filter.mp h).2
theorem fk_nW {s U : State} (hW : s.WarmedH U.vm) : ∀ w ∈ fk_N, va_Nw w s → va_Nw w U := by
  intro w hw h
  have h1 := (List.mem_filter.mp hw).2
  cases w <;> first | exact va_Nw.warmF hW h | exact va_Nw.warmM hW h | (exact absurd h1 (by decide)) | (simp [fk_isN] at h1)
theorem fk_nS {u U : State} (e : u.vm = U.vm) : ∀ w ∈ fk_N, va_Nw w u → va_Nw w U := by
  intro w hw h
  have h1 := (List.mem_filter.mp hw).2
  cases w <;> first | exact va_Nw.same rfl e h | (exact absurd h1 (by decide)) | (simp [fk_isN] at h1)
abbrev fk_E : Type := va_G × (Nat → ClassId)
abbrev fk_ty (E : fk_E) : List (ClassId × FieldType) := [(E.2 0, .int), (E.2 1, .long), (E.2 2, .boolean), (E.2 3, .byte), (E.2 4, .short)]
abbrev fk_M : Type := ByteArray × String × Nat × Room
abbrev fk_rm (d mc ms : Nat) : Room := { frames := d, cells := mc, slots := ms, locals := 40 * d }
abbrev fk_K : Type := Program × Launch × Env × State × MethodId × Array Value × List Frame × Method × Code × (State → Prop) × (Nat → Prop)
def fk_Fix (E : fk_E) (M : fk_M) (K : fk_K) : Prop := match K with
  | (p, _, _, s, m, args, _, _, c, _, A) => p.tables.exec = Jvm.exec ∧ c.code = M.1 ∧ c.maxLocals = M.2.2.1 ∧ s.vm.findClass M.2.1 = some m.cls ∧ (∀ w ∈ fk_G, w.before args s = true) ∧ va_K E.1 fk_cl (fk_ty E) s ∧ (∀ q, s.heap.size ≤ q → A q) ∧ (∀ w ∈ fk_N, va_Nw w s)
def fk_V (E : fk_E) (M : fk_M) (K : fk_K) (n : Nat × Nat) (w : va_W) (pc : Nat) (lv : List (Nat × Value)) (st : List Value) : Prop := match K with
  | (p, l, e, s, m, args, below, meth, c, Q, A) => fk_Fix E M (p, l, e, s, m, args, below, meth, c, Q, A) → n.1 ≤ M.2.2.2.cells → n.2 ≤ M.2.2.2.slots → ∀ (H : Heap) (locs : List Loc) (ls : Array Slot), lv_has ls M.2.2.1 lv → va_P E.1 fk_cl w H → va_D A w → va_S A s.heap H locs → W p l e M.2.2.2 s m args below meth c H locs n.1 n.2 Q (F0 m pc ls st)
section FKV
variable {E : fk_E} {M : fk_M} {K : fk_K} {n : Nat × Nat} {w : va_W} {pc : Nat} {lv : List (Nat × Value)} {st : List Value}
theorem fk_top {x y : Int32} (h : x = y) (kk : fk_V E M K n w pc lv (.int y :: st)) : fk_V E M K n w pc lv (.int x :: st) := h ▸ kk
theorem fk_topl {x y : Int64} (h : x = y) (kk : fk_V E M K n w pc lv (.long y :: st)) : fk_V E M K n w pc lv (.long x :: st) := h ▸ kk
theorem fk_wd {w' : va_W} (h : w = w') (kk : fk_V E M K n w' pc lv st) : fk_V E M K n w pc lv st := h ▸ kk
theorem fk_lv {lv' : List (Nat × Value)} (ks : List Nat) (h : lv_pick lv ks = lv') (kk : fk_V E M K n w pc lv' st) : fk_V E M K n w pc lv st := by
  obtain ⟨p, l, e, s, m, args, below, meth, c, Q, A⟩ := K
  intro F h1 h2 H locs ls hl hP hD hS
  exact kk F h1 h2 H locs ls (lv_sub hl ks h) hP hD hS
theorem fk_ws {w' : va_W} (is : List Nat) (hn : va_nd is = true) (h : is.map (fun i => w[i]?) = w'.map some) (kk : fk_V E M K n w' pc lv st) : fk_V E M K n w pc lv st := by
  obtain ⟨p, l, e, s, m, args, below, meth, c, Q, A⟩ := K
  intro F h1 h2 H locs ls hl hP hD hS
  have hs : is.filterMap (fun i => w[i]?) = w' := by
    have e1 : is.filterMap (fun i => w[i]?) = (is.map (fun i => w[i]?)).filterMap id := by rw [List.filterMap_map]; rfl
    rw [e1, h, List.filterMap_map]
    show List.filterMap (fun x => some x) w' = w'
    exact List.filterMap_some ..
  exact kk F h1 h2 H locs ls hl (hP.sub is hs) (hD.sub is hn h) hS
theorem fk_iconst {k : Int} {v : Int32} (d : decode M.1 pc = .ok (.iconst k, 1)) (hv : Int32.ofInt k = v) (kk : fk_V E M K n w (pc + 1) lv (.int v :: st)) : fk_V E M K n w pc lv st := by
  obtain ⟨p, l, e, s, m, args, below, meth, c, Q, A⟩ := K
  intro F h1 h2 H locs ls hl hP hD hS
  exact lv_iconst F.1 F.2.1 d hv (kk F h1 h2 H locs ls hl hP hD hS)
theorem fk_bipush {k : Int} {v : Int32} (d : decode M.1 pc = .ok (.bipush k, 2)) (hv : (Int8.ofInt k).toInt32 = v) (kk : fk_V E M K n w (pc + 2) lv (.int v :: st)) : fk_V E M K n w pc lv st := by
  obtain ⟨p, l, e, s, m, args, below, meth, c, Q, A⟩ := K
  intro F h1 h2 H locs ls hl hP hD hS
  exact lv_bipush F.1 F.2.1 d hv (kk F h1 h2 H locs ls hl hP hD hS)
theorem fk_sipush {k : Int} {v : Int32} (d : decode M.1 pc = .ok (.sipush k, 3)) (hv : (Int16.ofInt k).toInt32 = v) (kk : fk_V E M K n w (pc + 3) lv (.int v :: st)) : fk_V E M K n w pc lv st := by
  obtain ⟨p, l, e, s, m, args, below, meth, c, Q, A⟩ := K
  intro F h1 h2 H locs ls hl hP hD hS
  exact lv_sipush F.1 F.2.1 d hv (kk F h1 h2 H locs ls hl hP hD hS)
theorem fk_lconst {k : Fin 2} {v : Int64} (d : decode M.1 pc = .ok (.lconst k, 1)) (hv : Int64.ofNat (k : Nat) = v) (kk : fk_V E M K n w (pc + 1) lv (.long v :: st)) : fk_V E M K n w pc lv st := by
  obtain ⟨p, l, e, s, m, args, below, meth, c, Q, A⟩ := K
  intro F h1 h2 H locs ls hl hP hD hS
  exact lv_lconst F.1 F.2.1 d hv (kk F h1 h2 H locs ls hl hP hD hS)
theorem fk_null  (d : decode M.1 pc = .ok (.aconst_null, 1))  (kk : fk_V E M K n w (pc + 1) lv (.null :: st)) : fk_V E M K n w pc lv st := by
  obtain ⟨p, l, e, s, m, args, below, meth, c, Q, A⟩ := K
  intro F h1 h2 H locs ls hl hP hD hS
  exact lv_null F.1 F.2.1 d (kk F h1 h2 H locs ls hl hP hD hS)
theorem fk_ldc {i : Nat} {v : Int32} (d : decode M.1 pc = .ok (.ldc i, 2)) (hv : Cond.constant M.2.1 i v ∈ fk_G) (kk : fk_V E M K n w (pc + 2) lv (.int v :: st)) : fk_V E M K n w pc lv st := by
  obtain ⟨p, l, e, s, m, args, below, meth, c, Q, A⟩ := K
  intro F h1 h2 H locs ls hl hP hD hS
  exact lv_ldc F.1 F.2.1 F.2.2.2.1 (F.2.2.2.2.1 _ hv) d (kk F h1 h2 H locs ls hl hP hD hS)
theorem fk_ldc2 {i : Nat} {v : Int64} (d : decode M.1 pc = .ok (.ldc2_w i, 3)) (hv : Cond.constantLong M.2.1 i v ∈ fk_G) (kk : fk_V E M K n w (pc + 3) lv (.long v :: st)) : fk_V E M K n w pc lv st := by
  obtain ⟨p, l, e, s, m, args, below, meth, c, Q, A⟩ := K
  intro F h1 h2 H locs ls hl hP hD hS
  exact lv_ldc2 F.1 F.2.1 F.2.2.2.1 (F.2.2.2.2.1 _ hv) d (kk F h1 h2 H locs ls hl hP hD hS)
theorem fk_iload_n {k : Fin 4} {x : Int32} (j : Nat) (d : decode M.1 pc = .ok (.iload_n k, 1)) (h : lv[j]? = some ((k : Nat), .int x)) (kk : fk_V E M K n w (pc + 1) lv (.int x :: st)) : fk_V E M K n w pc lv st := by
  obtain ⟨p, l, e, s, m, args, below, meth, c, Q, A⟩ := K
  intro F h1 h2 H locs ls hl hP hD hS
  exact lv_iload_n F.1 F.2.1 d rfl (lv_at hl j h) (kk F h1 h2 H locs ls hl hP hD hS)
theorem fk_iload {i : Nat} {x : Int32} (j : Nat) (d : decode M.1 pc = .ok (.iload i, 2)) (h : lv[j]? = some (i, .int x)) (kk : fk_V E M K n w (pc + 2) lv (.int x :: st)) : fk_V E M K n w pc lv st := by
  obtain ⟨p, l, e, s, m, args, below, meth, c, Q, A⟩ := K
  intro F h1 h2 H locs ls hl hP hD hS
  exact lv_iload F.1 F.2.1 d (lv_at hl j h) (kk F h1 h2 H locs ls hl hP hD hS)
theorem fk_istore_n {k : Fin 4} {i : Nat} {x : Int32} {lv' : List (Nat × Value)} (d : decode M.1 pc = .ok (.istore_n k, 1)) (hi : (k : Nat) = i) (hn : i < M.2.2.1) (ks : List Nat) (h : lv_pick ((i, Value.int x) :: lv.filter (fun q => !(q.1 == i) && !(q.1 + 1 == i && q.2.category == 2))) ks = lv') (kk : fk_V E M K n w (pc + 1) lv' st) : fk_V E M K n w pc lv (.int x :: st) := by
  obtain ⟨p, l, e, s, m, args, below, meth, c, Q, A⟩ := K
  intro F h1 h2 H locs ls hl hP hD hS
  exact lv_istore_n F.1 F.2.1 d hi hl hn rfl (fun ls' hl' => kk F h1 h2 H locs ls' (lv_sub hl' ks h) hP hD hS)
theorem fk_istore {i : Nat} {x : Int32} {lv' : List (Nat × Value)} (d : decode M.1 pc = .ok (.istore i, 2)) (hn : i < M.2.2.1) (ks : List Nat) (h : lv_pick ((i, Value.int x) :: lv.filter (fun q => !(q.1 == i) && !(q.1 + 1 == i && q.2.category == 2))) ks = lv') (kk : fk_V E M K n w (pc + 2) lv' st) : fk_V E M K n w pc lv (.int x :: st) := by
  obtain ⟨p, l, e, s, m, args, below, meth, c, Q, A⟩ := K
  intro F h1 h2 H locs ls hl hP hD hS
  exact lv_istore F.1 F.2.1 d hl hn rfl (fun ls' hl' => kk F h1 h2 H locs ls' (lv_sub hl' ks h) hP hD hS)
theorem fk_lload_n {k : Fin 4} {x : Int64} (j : Nat) (d : decode M.1 pc = .ok (.lload_n k, 1)) (h : lv[j]? = some ((k : Nat), .long x)) (kk : fk_V E M K n w (pc + 1) lv (.long x :: st)) : fk_V E M K n w pc lv st := by
  obtain ⟨p, l, e, s, m, args, below, meth, c, Q, A⟩ := K
  intro F h1 h2 H locs ls hl hP hD hS
  exact lv_lload_n F.1 F.2.1 d rfl (lv_at hl j h) (kk F h1 h2 H locs ls hl hP hD hS)
theorem fk_lload {i : Nat} {x : Int64} (j : Nat) (d : decode M.1 pc = .ok (.lload i, 2)) (h : lv[j]? = some (i, .long x)) (kk : fk_V E M K n w (pc + 2) lv (.long x :: st)) : fk_V E M K n w pc lv st := by
  obtain ⟨p, l, e, s, m, args, below, meth, c, Q, A⟩ := K
  intro F h1 h2 H locs ls hl hP hD hS
  exact lv_lload F.1 F.2.1 d (lv_at hl j h) (kk F h1 h2 H locs ls hl hP hD hS)
theorem fk_lstore_n {k : Fin 4} {i : Nat} {x : Int64} {lv' : List (Nat × Value)} (d : decode M.1 pc = .ok (.lstore_n k, 1)) (hi : (k : Nat) = i) (hn : i + 1 < M.2.2.1) (ks : List Nat) (h : lv_pick ((i, Value.long x) :: lv.filter (fun q => !(q.1 == i) && (!(q.1 == i + 1) && !(q.1 + 1 == i && q.2.category == 2)))) ks = lv') (kk : fk_V E M K n w (pc + 1) lv' st) : fk_V E M K n w pc lv (.long x :: st) := by
  obtain ⟨p, l, e, s, m, args, below, meth, c, Q, A⟩ := K
  intro F h1 h2 H locs ls hl hP hD hS
  exact lv_lstore_n F.1 F.2.1 d hi hl hn rfl (fun ls' hl' => kk F h1 h2 H locs ls' (lv_sub hl' ks h) hP hD hS)
theorem fk_lstore {i : Nat} {x : Int64} {lv' : List (Nat × Value)} (d : decode M.1 pc = .ok (.lstore i, 2)) (hn : i + 1 < M.2.2.1) (ks : List Nat) (h : lv_pick ((i, Value.long x) :: lv.filter (fun q => !(q.1 == i) && (!(q.1 == i + 1) && !(q.1 + 1 == i && q.2.category == 2)))) ks = lv') (kk : fk_V E M K n w (pc + 2) lv' st) : fk_V E M K n w pc lv (.long x :: st) := by
  obtain ⟨p, l, e, s, m, args, below, meth, c, Q, A⟩ := K
  intro F h1 h2 H locs ls hl hP hD hS
  exact lv_lstore F.1 F.2.1 d hl hn rfl (fun ls' hl' => kk F h1 h2 H locs ls' (lv_sub hl' ks h) hP hD hS)
theorem fk_aload_n {k : Fin 4} {x : Nat} (j : Nat) (d : decode M.1 pc = .ok (.aload_n k, 1)) (h : lv[j]? = some ((k : Nat), .ref x)) (kk : fk_V E M K n w (pc + 1) lv (.ref x :: st)) : fk_V E M K n w pc lv st := by
  obtain ⟨p, l, e, s, m, args, below, meth, c, Q, A⟩ := K
  intro F h1 h2 H locs ls hl hP hD hS
  exact lv_aload_n F.1 F.2.1 d rfl (lv_at hl j h) (kk F h1 h2 H locs ls hl hP hD hS)
theorem fk_aload {i : Nat} {x : Nat} (j : Nat) (d : decode M.1 pc = .ok (.aload i, 2)) (h : lv[j]? = some (i, .ref x)) (kk : fk_V E M K n w (pc + 2) lv (.ref x :: st)) : fk_V E M K n w pc lv st := by
  obtain ⟨p, l, e, s, m, args, below, meth, c, Q, A⟩ := K
  intro F h1 h2 H locs ls hl hP hD hS
  exact lv_aload F.1 F.2.1 d (lv_at hl j h) (kk F h1 h2 H locs ls hl hP hD hS)
theorem fk_astore_n {k : Fin 4} {i : Nat} {x : Nat} {lv' : List (Nat × Value)} (d : decode M.1 pc = .ok (.astore_n k, 1)) (hi : (k : Nat) = i) (hn : i < M.2.2.1) (ks : List Nat) (h : lv_pick ((i, Value.ref x) :: lv.filter (fun q => !(q.1 == i) && !(q.1 + 1 == i && q.2.category == 2))) ks = lv') (kk : fk_V E M K n w (pc + 1) lv' st) : fk_V E M K n w pc lv (.ref x :: st) := by
  obtain ⟨p, l, e, s, m, args, below, meth, c, Q, A⟩ := K
  intro F h1 h2 H locs ls hl hP hD hS
  exact lv_astore_n F.1 F.2.1 d hi hl hn rfl (fun ls' hl' => kk F h1 h2 H locs ls' (lv_sub hl' ks h) hP hD hS)
theorem fk_astore {i : Nat} {x : Nat} {lv' : List (Nat × Value)} (d : decode M.1 pc = .ok (.astore i, 2)) (hn : i < M.2.2.1) (ks : List Nat) (h : lv_pick ((i, Value.ref x) :: lv.filter (fun q => !(q.1 == i) && !(q.1 + 1 == i && q.2.category == 2))) ks = lv') (kk : fk_V E M K n w (pc + 2) lv' st) : fk_V E M K n w pc lv (.ref x :: st) := by
  obtain ⟨p, l, e, s, m, args, below, meth, c, Q, A⟩ := K
  intro F h1 h2 H locs ls hl hP hD hS
  exact lv_astore F.1 F.2.1 d hl hn rfl (fun ls' hl' => kk F h1 h2 H locs ls' (lv_sub hl' ks h) hP hD hS)
theorem fk_iinc {i j a : Nat} {k : Int} {lv' : List (Nat × Value)} (b : Nat) (d : decode M.1 pc = .ok (.iinc i k, 3)) (hk : lv[j]? = some (i, .int (nI a))) (hv : nI a + Int32.ofInt k = nI b) (hn : i < M.2.2.1) (ks : List Nat) (h : lv_pick ((i, Value.int (nI b)) :: lv.filter (fun q => !(q.1 == i) && !(q.1 + 1 == i && q.2.category == 2))) ks = lv') (kk : fk_V E M K n w (pc + 3) lv' st) : fk_V E M K n w pc lv st := by
  obtain ⟨p, l, e, s, m, args, below, meth, c, Q, A⟩ := K
  intro F h1 h2 H locs ls hl hP hD hS
  exact lv_iinc F.1 F.2.1 d hl hk hv hn rfl (fun ls' hl' => kk F h1 h2 H locs ls' (lv_sub hl' ks h) hP hD hS)
theorem fk_iaddR {x y : Int32} (d : decode M.1 pc = .ok (.iadd, 1))  (kk : fk_V E M K n w (pc + 1) lv (.int (x + y) :: st)) : fk_V E M K n w pc lv (.int y :: .int x :: st) := by
  obtain ⟨p, l, e, s, m, args, below, meth, c, Q, A⟩ := K
  intro F h1 h2 H locs ls hl hP hD hS
  exact lv_iadd F.1 F.2.1 d (kk F h1 h2 H locs ls hl hP hD hS)
theorem fk_isubR {x y : Int32} (d : decode M.1 pc = .ok (.isub, 1))  (kk : fk_V E M K n w (pc + 1) lv (.int (x - y) :: st)) : fk_V E M K n w pc lv (.int y :: .int x :: st) := by
  obtain ⟨p, l, e, s, m, args, below, meth, c, Q, A⟩ := K
  intro F h1 h2 H locs ls hl hP hD hS
  exact lv_isub F.1 F.2.1 d (kk F h1 h2 H locs ls hl hP hD hS)
theorem fk_imulR {x y : Int32} (d : decode M.1 pc = .ok (.imul, 1))  (kk : fk_V E M K n w (pc + 1) lv (.int (x * y) :: st)) : fk_V E M K n w pc lv (.int y :: .int x :: st) := by
  obtain ⟨p, l, e, s, m, args, below, meth, c, Q, A⟩ := K
  intro F h1 h2 H locs ls hl hP hD hS
  exact lv_imul F.1 F.2.1 d (kk F h1 h2 H locs ls hl hP hD hS)
theorem fk_iandR {x y : Int32} (d : decode M.1 pc = .ok (.iand, 1))  (kk : fk_V E M K n w (pc + 1) lv (.int (x &&& y) :: st)) : fk_V E M K n w pc lv (.int y :: .int x :: st) := by
  obtain ⟨p, l, e, s, m, args, below, meth, c, Q, A⟩ := K
  intro F h1 h2 H locs ls hl hP hD hS
  exact lv_iand F.1 F.2.1 d (kk F h1 h2 H locs ls hl hP hD hS)
theorem fk_iorR {x y : Int32} (d : decode M.1 pc = .ok (.ior, 1))  (kk : fk_V E M K n w (pc + 1) lv (.int (x ||| y) :: st)) : fk_V E M K n w pc lv (.int y :: .int x :: st) := by
  obtain ⟨p, l, e, s, m, args, below, meth, c, Q, A⟩ := K
  intro F h1 h2 H locs ls hl hP hD hS
  exact lv_ior F.1 F.2.1 d (kk F h1 h2 H locs ls hl hP hD hS)
theorem fk_ixorR {x y : Int32} (d : decode M.1 pc = .ok (.ixor, 1))  (kk : fk_V E M K n w (pc + 1) lv (.int (x ^^^ y) :: st)) : fk_V E M K n w pc lv (.int y :: .int x :: st) := by
  obtain ⟨p, l, e, s, m, args, below, meth, c, Q, A⟩ := K
  intro F h1 h2 H locs ls hl hP hD hS
  exact lv_ixor F.1 F.2.1 d (kk F h1 h2 H locs ls hl hP hD hS)
theorem fk_ishlR {x y : Int32} (d : decode M.1 pc = .ok (.ishl, 1))  (kk : fk_V E M K n w (pc + 1) lv (.int (x <<< (y &&& 31)) :: st)) : fk_V E M K n w pc lv (.int y :: .int x :: st) := by
  obtain ⟨p, l, e, s, m, args, below, meth, c, Q, A⟩ := K
  intro F h1 h2 H locs ls hl hP hD hS
  exact lv_ishl F.1 F.2.1 d (kk F h1 h2 H locs ls hl hP hD hS)
theorem fk_ishrR {x y : Int32} (d : decode M.1 pc = .ok (.ishr, 1))  (kk : fk_V E M K n w (pc + 1) lv (.int (x >>> (y &&& 31)) :: st)) : fk_V E M K n w pc lv (.int y :: .int x :: st) := by
  obtain ⟨p, l, e, s, m, args, below, meth, c, Q, A⟩ := K
  intro F h1 h2 H locs ls hl hP hD hS
  exact lv_ishr F.1 F.2.1 d (kk F h1 h2 H locs ls hl hP hD hS)
theorem fk_laddR {x y : Int64} (d : decode M.1 pc = .ok (.ladd, 1))  (kk : fk_V E M K n w (pc + 1) lv (.long (x + y) :: st)) : fk_V E M K n w pc lv (.long y :: .long x :: st) := by
  obtain ⟨p, l, e, s, m, args, below, meth, c, Q, A⟩ := K
  intro F h1 h2 H locs ls hl hP hD hS
  exact lv_ladd F.1 F.2.1 d (kk F h1 h2 H locs ls hl hP hD hS)
theorem fk_lsubR {x y : Int64} (d : decode M.1 pc = .ok (.lsub, 1))  (kk : fk_V E M K n w (pc + 1) lv (.long (x - y) :: st)) : fk_V E M K n w pc lv (.long y :: .long x :: st) := by
  obtain ⟨p, l, e, s, m, args, below, meth, c, Q, A⟩ := K
  intro F h1 h2 H locs ls hl hP hD hS
  exact lv_lsub F.1 F.2.1 d (kk F h1 h2 H locs ls hl hP hD hS)
theorem fk_lmulR {x y : Int64} (d : decode M.1 pc = .ok (.lmul, 1))  (kk : fk_V E M K n w (pc + 1) lv (.long (x * y) :: st)) : fk_V E M K n w pc lv (.long y :: .long x :: st) := by
  obtain ⟨p, l, e, s, m, args, below, meth, c, Q, A⟩ := K
  intro F h1 h2 H locs ls hl hP hD hS
  exact lv_lmul F.1 F.2.1 d (kk F h1 h2 H locs ls hl hP hD hS)
theorem fk_landR {x y : Int64} (d : decode M.1 pc = .ok (.land, 1))  (kk : fk_V E M K n w (pc + 1) lv (.long (x &&& y) :: st)) : fk_V E M K n w pc lv (.long y :: .long x :: st) := by
  obtain ⟨p, l, e, s, m, args, below, meth, c, Q, A⟩ := K
  intro F h1 h2 H locs ls hl hP hD hS
  exact lv_land F.1 F.2.1 d (kk F h1 h2 H locs ls hl hP hD hS)
theorem fk_lorR {x y : Int64} (d : decode M.1 pc = .ok (.lor, 1))  (kk : fk_V E M K n w (pc + 1) lv (.long (x ||| y) :: st)) : fk_V E M K n w pc lv (.long y :: .long x :: st) := by
  obtain ⟨p, l, e, s, m, args, below, meth, c, Q, A⟩ := K
  intro F h1 h2 H locs ls hl hP hD hS
  exact lv_lor F.1 F.2.1 d (kk F h1 h2 H locs ls hl hP hD hS)
theorem fk_lxorR {x y : Int64} (d : decode M.1 pc = .ok (.lxor, 1))  (kk : fk_V E M K n w (pc + 1) lv (.long (x ^^^ y) :: st)) : fk_V E M K n w pc lv (.long y :: .long x :: st) := by
  obtain ⟨p, l, e, s, m, args, below, meth, c, Q, A⟩ := K
  intro F h1 h2 H locs ls hl hP hD hS
  exact lv_lxor F.1 F.2.1 d (kk F h1 h2 H locs ls hl hP hD hS)
theorem fk_iremR {x y : Int32} (d : decode M.1 pc = .ok (.irem, 1)) (hne : ¬ y = 0) (kk : fk_V E M K n w (pc + 1) lv (.int (x - x / y * y) :: st)) : fk_V E M K n w pc lv (.int y :: .int x :: st) := by
  obtain ⟨p, l, e, s, m, args, below, meth, c, Q, A⟩ := K
  intro F h1 h2 H locs ls hl hP hD hS
  exact lv_irem F.1 F.2.1 d hne (kk F h1 h2 H locs ls hl hP hD hS)
theorem fk_idivR {x y : Int32} (d : decode M.1 pc = .ok (.idiv, 1)) (hne : ¬ y = 0) (kk : fk_V E M K n w (pc + 1) lv (.int (x / y) :: st)) : fk_V E M K n w pc lv (.int y :: .int x :: st) := by
  obtain ⟨p, l, e, s, m, args, below, meth, c, Q, A⟩ := K
  intro F h1 h2 H locs ls hl hP hD hS
  exact lv_idiv F.1 F.2.1 d hne (kk F h1 h2 H locs ls hl hP hD hS)
theorem fk_i2l {x : Int32} {v : Int64} (d : decode M.1 pc = .ok (.i2l, 1)) (hv : x.toInt64 = v) (kk : fk_V E M K n w (pc + 1) lv (.long v :: st)) : fk_V E M K n w pc lv (.int x :: st) := by
  obtain ⟨p, l, e, s, m, args, below, meth, c, Q, A⟩ := K
  intro F h1 h2 H locs ls hl hP hD hS
  exact lv_i2l F.1 F.2.1 d hv (kk F h1 h2 H locs ls hl hP hD hS)
theorem fk_l2i {x : Int64} {v : Int32} (d : decode M.1 pc = .ok (.l2i, 1)) (hv : x.toInt32 = v) (kk : fk_V E M K n w (pc + 1) lv (.int v :: st)) : fk_V E M K n w pc lv (.long x :: st) := by
  obtain ⟨p, l, e, s, m, args, below, meth, c, Q, A⟩ := K
  intro F h1 h2 H locs ls hl hP hD hS
  exact lv_l2i F.1 F.2.1 d hv (kk F h1 h2 H locs ls hl hP hD hS)
theorem fk_i2b {x : Int32} {v : Int32} (d : decode M.1 pc = .ok (.i2b, 1)) (hv : x.toInt8.toInt32 = v) (kk : fk_V E M K n w (pc + 1) lv (.int v :: st)) : fk_V E M K n w pc lv (.int x :: st) := by
  obtain ⟨p, l, e, s, m, args, below, meth, c, Q, A⟩ := K
  intro F h1 h2 H locs ls hl hP hD hS
  exact lv_i2b F.1 F.2.1 d hv (kk F h1 h2 H locs ls hl hP hD hS)
theorem fk_i2s {x : Int32} {v : Int32} (d : decode M.1 pc = .ok (.i2s, 1)) (hv : x.toInt16.toInt32 = v) (kk : fk_V E M K n w (pc + 1) lv (.int v :: st)) : fk_V E M K n w pc lv (.int x :: st) := by
  obtain ⟨p, l, e, s, m, args, below, meth, c, Q, A⟩ := K
  intro F h1 h2 H locs ls hl hP hD hS
  exact lv_i2s F.1 F.2.1 d hv (kk F h1 h2 H locs ls hl hP hD hS)
theorem fk_iushr {x y v : Int32} (d : decode M.1 pc = .ok (.iushr, 1)) (hv : (x.toUInt32 >>> (y.toUInt32 &&& Int32.toUInt32 31)).toInt32 = v) (kk : fk_V E M K n w (pc + 1) lv (.int v :: st)) : fk_V E M K n w pc lv (.int y :: .int x :: st) := by
  obtain ⟨p, l, e, s, m, args, below, meth, c, Q, A⟩ := K
  intro F h1 h2 H locs ls hl hP hD hS
  exact lv_iushr F.1 F.2.1 d hv (kk F h1 h2 H locs ls hl hP hD hS)
theorem fk_lushr {x v : Int64} {y : Int32} (d : decode M.1 pc = .ok (.lushr, 1)) (hv : (x.toUInt64 >>> (y.toInt64.toUInt64 &&& Int64.toUInt64 63)).toInt64 = v) (kk : fk_V E M K n w (pc + 1) lv (.long v :: st)) : fk_V E M K n w pc lv (.int y :: .long x :: st) := by
  obtain ⟨p, l, e, s, m, args, below, meth, c, Q, A⟩ := K
  intro F h1 h2 H locs ls hl hP hD hS
  exact lv_lushr F.1 F.2.1 d hv (kk F h1 h2 H locs ls hl hP hD hS)
theorem fk_lshl {x v : Int64} {y : Int32} (d : decode M.1 pc = .ok (.lshl, 1)) (hv : x <<< (y.toInt64 &&& 63) = v) (kk : fk_V E M K n w (pc + 1) lv (.long v :: st)) : fk_V E M K n w pc lv (.int y :: .long x :: st) := by
  obtain ⟨p, l, e, s, m, args, below, meth, c, Q, A⟩ := K
  intro F h1 h2 H locs ls hl hP hD hS
  exact lv_lshl F.1 F.2.1 d hv (kk F h1 h2 H locs ls hl hP hD hS)
theorem fk_lshr {x v : Int64} {y : Int32} (d : decode M.1 pc = .ok (.lshr, 1)) (hv : x >>> (y.toInt64 &&& 63) = v) (kk : fk_V E M K n w (pc + 1) lv (.long v :: st)) : fk_V E M K n w pc lv (.int y :: .long x :: st) := by
  obtain ⟨p, l, e, s, m, args, below, meth, c, Q, A⟩ := K
  intro F h1 h2 H locs ls hl hP hD hS
  exact lv_lshr F.1 F.2.1 d hv (kk F h1 h2 H locs ls hl hP hD hS)
theorem fk_dup {v : Value} (d : decode M.1 pc = .ok (.dup, 1)) (h : v.category = 1) (kk : fk_V E M K n w (pc + 1) lv (v :: v :: st)) : fk_V E M K n w pc lv (v :: st) := by
  obtain ⟨p, l, e, s, m, args, below, meth, c, Q, A⟩ := K
  intro F h1 h2 H locs ls hl hP hD hS
  exact lv_dup F.1 F.2.1 d h (kk F h1 h2 H locs ls hl hP hD hS)
theorem fk_pop {v : Value} (d : decode M.1 pc = .ok (.pop, 1)) (h : v.category = 1) (kk : fk_V E M K n w (pc + 1) lv st) : fk_V E M K n w pc lv (v :: st) := by
  obtain ⟨p, l, e, s, m, args, below, meth, c, Q, A⟩ := K
  intro F h1 h2 H locs ls hl hP hD hS
  exact lv_pop F.1 F.2.1 d h (kk F h1 h2 H locs ls hl hP hD hS)
theorem fk_dup_x1 {v u : Value} (d : decode M.1 pc = .ok (.dup_x1, 1)) (h : v.category = 1) (h9 : u.category = 1) (kk : fk_V E M K n w (pc + 1) lv (v :: u :: v :: st)) : fk_V E M K n w pc lv (v :: u :: st) := by
  obtain ⟨p, l, e, s, m, args, below, meth, c, Q, A⟩ := K
  intro F h1 h2 H locs ls hl hP hD hS
  exact lv_dup_x1 F.1 F.2.1 d h h9 (kk F h1 h2 H locs ls hl hP hD hS)
theorem fk_dup2 {v u : Value} (d : decode M.1 pc = .ok (.dup2, 1)) (h : v.category = 1) (h9 : u.category = 1) (kk : fk_V E M K n w (pc + 1) lv (v :: u :: v :: u :: st)) : fk_V E M K n w pc lv (v :: u :: st) := by
  obtain ⟨p, l, e, s, m, args, below, meth, c, Q, A⟩ := K
  intro F h1 h2 H locs ls hl hP hD hS
  exact lv_dup2_11 F.1 F.2.1 d h h9 (kk F h1 h2 H locs ls hl hP hD hS)
theorem fk_lcmpR {x y : Int64} (d : decode M.1 pc = .ok (.lcmp, 1))  (kk : fk_V E M K n w (pc + 1) lv (.int (lg_cmp x y) :: st)) : fk_V E M K n w pc lv (.long y :: .long x :: st) := by
  obtain ⟨p, l, e, s, m, args, below, meth, c, Q, A⟩ := K
  intro F h1 h2 H locs ls hl hP hD hS
  exact W.lcmp F.1 F.2.1 d (kk F h1 h2 H locs ls hl hP hD hS)
theorem fk_iadd {a b : Nat} (d : decode M.1 pc = .ok (.iadd, 1))  (kk : fk_V E M K n w (pc + 1) lv (.int (nI (a + b)) :: st)) : fk_V E M K n w pc lv (.int (nI b) :: .int (nI a) :: st) := fk_iaddR d (fk_top (nI_add a b) kk)
theorem fk_imul {a b : Nat} (d : decode M.1 pc = .ok (.imul, 1))  (kk : fk_V E M K n w (pc + 1) lv (.int (nI (a * b)) :: st)) : fk_V E M K n w pc lv (.int (nI b) :: .int (nI a) :: st) := fk_imulR d (fk_top (pk_mul a b) kk)
theorem fk_isub {a b : Nat} (d : decode M.1 pc = .ok (.isub, 1)) (h : b ≤ a) (kk : fk_V E M K n w (pc + 1) lv (.int (nI (a - b)) :: st)) : fk_V E M K n w pc lv (.int (nI b) :: .int (nI a) :: st) := fk_isubR d (fk_top (pk_sub h) kk)
theorem fk_iand {a b : Nat} (d : decode M.1 pc = .ok (.iand, 1))  (kk : fk_V E M K n w (pc + 1) lv (.int (nI (a &&& b)) :: st)) : fk_V E M K n w pc lv (.int (nI b) :: .int (nI a) :: st) := fk_iandR d (fk_top (fn_and a b) kk)
theorem fk_ior {a b : Nat} (d : decode M.1 pc = .ok (.ior, 1))  (kk : fk_V E M K n w (pc + 1) lv (.int (nI (a ||| b)) :: st)) : fk_V E M K n w pc lv (.int (nI b) :: .int (nI a) :: st) := fk_iorR d (fk_top (fn_or a b) kk)
theorem fk_irem {a b : Nat} (d : decode M.1 pc = .ok (.irem, 1)) (ha : a < 2 ^ 31) (h0 : 0 < b) (hb : b < 2 ^ 31) (kk : fk_V E M K n w (pc + 1) lv (.int (nI (a % b)) :: st)) : fk_V E M K n w pc lv (.int (nI b) :: .int (nI a) :: st) := fk_iremR d (nI_ne0 h0 hb) (fk_top (pk_rem ha h0 hb) kk)
theorem fk_idiv {a b : Nat} (d : decode M.1 pc = .ok (.idiv, 1)) (ha : a < 2 ^ 31) (h0 : 0 < b) (hb : b < 2 ^ 31) (kk : fk_V E M K n w (pc + 1) lv (.int (nI (a / b)) :: st)) : fk_V E M K n w pc lv (.int (nI b) :: .int (nI a) :: st) := fk_idivR d (nI_ne0 h0 hb) (fk_top (pk_div ha h0 hb) kk)
theorem fk_ishl {a b : Nat} (d : decode M.1 pc = .ok (.ishl, 1)) (hb : b < 32) (h : a * 2 ^ b < 2 ^ 32) (kk : fk_V E M K n w (pc + 1) lv (.int (nI (a * 2 ^ b)) :: st)) : fk_V E M K n w pc lv (.int (nI b) :: .int (nI a) :: st) := fk_ishlR d (fk_top (fn_shl hb h) kk)
theorem fk_ishr {a b : Nat} (d : decode M.1 pc = .ok (.ishr, 1)) (hb : b < 32) (h : a < 2 ^ 31) (kk : fk_V E M K n w (pc + 1) lv (.int (nI (a / 2 ^ b)) :: st)) : fk_V E M K n w pc lv (.int (nI b) :: .int (nI a) :: st) := fk_ishrR d (fk_top (fn_shr hb h) kk)
theorem fk_if_eqR {x : Int32} {off : Int} {tgt : Nat} (d : decode M.1 pc = .ok (.ifCond .eq off, 3)) (ht : (pc : Int) + off = (tgt : Int)) (kt : x = 0 → fk_V E M K n w tgt lv st) (kf : ¬ x = 0 → fk_V E M K n w (pc + 3) lv st) : fk_V E M K n w pc lv (.int x :: st) := by
  obtain ⟨p, l, e, s, m, args, below, meth, c, Q, A⟩ := K
  intro F h1 h2 H locs ls hl hP hD hS
  exact lv_if_eq F.1 F.2.1 d ht (fun q => kt q F h1 h2 H locs ls hl hP hD hS) (fun q => kf q F h1 h2 H locs ls hl hP hD hS)
theorem fk_icmp_eqR {x y : Int32} {off : Int} {tgt : Nat} (d : decode M.1 pc = .ok (.if_icmp .eq off, 3)) (ht : (pc : Int) + off = (tgt : Int)) (kt : x = y → fk_V E M K n w tgt lv st) (kf : ¬ x = y → fk_V E M K n w (pc + 3) lv st) : fk_V E M K n w pc lv (.int y :: .int x :: st) := by
  obtain ⟨p, l, e, s, m, args, below, meth, c, Q, A⟩ := K
  intro F h1 h2 H locs ls hl hP hD hS
  exact lv_icmp_eq F.1 F.2.1 d ht (fun q => kt q F h1 h2 H locs ls hl hP hD hS) (fun q => kf q F h1 h2 H locs ls hl hP hD hS)
theorem fk_if_neR {x : Int32} {off : Int} {tgt : Nat} (d : decode M.1 pc = .ok (.ifCond .ne off, 3)) (ht : (pc : Int) + off = (tgt : Int)) (kt : ¬ x = 0 → fk_V E M K n w tgt lv st) (kf : x = 0 → fk_V E M K n w (pc + 3) lv st) : fk_V E M K n w pc lv (.int x :: st) := by
  obtain ⟨p, l, e, s, m, args, below, meth, c, Q, A⟩ := K
  intro F h1 h2 H locs ls hl hP hD hS
  exact lv_if_ne F.1 F.2.1 d ht (fun q => kt q F h1 h2 H locs ls hl hP hD hS) (fun q => kf q F h1 h2 H locs ls hl hP hD hS)
theorem fk_icmp_neR {x y : Int32} {off : Int} {tgt : Nat} (d : decode M.1 pc = .ok (.if_icmp .ne off, 3)) (ht : (pc : Int) + off = (tgt : Int)) (kt : ¬ x = y → fk_V E M K n w tgt lv st) (kf : x = y → fk_V E M K n w (pc + 3) lv st) : fk_V E M K n w pc lv (.int y :: .int x :: st) := by
  obtain ⟨p, l, e, s, m, args, below, meth, c, Q, A⟩ := K
  intro F h1 h2 H locs ls hl hP hD hS
  exact lv_icmp_ne F.1 F.2.1 d ht (fun q => kt q F h1 h2 H locs ls hl hP hD hS) (fun q => kf q F h1 h2 H locs ls hl hP hD hS)
theorem fk_if_ltR {x : Int32} {off : Int} {tgt : Nat} (d : decode M.1 pc = .ok (.ifCond .lt off, 3)) (ht : (pc : Int) + off = (tgt : Int)) (kt : x < 0 → fk_V E M K n w tgt lv st) (kf : ¬ x < 0 → fk_V E M K n w (pc + 3) lv st) : fk_V E M K n w pc lv (.int x :: st) := by
  obtain ⟨p, l, e, s, m, args, below, meth, c, Q, A⟩ := K
  intro F h1 h2 H locs ls hl hP hD hS
  exact lv_if_lt F.1 F.2.1 d ht (fun q => kt q F h1 h2 H locs ls hl hP hD hS) (fun q => kf q F h1 h2 H locs ls hl hP hD hS)
theorem fk_icmp_ltR {x y : Int32} {off : Int} {tgt : Nat} (d : decode M.1 pc = .ok (.if_icmp .lt off, 3)) (ht : (pc : Int) + off = (tgt : Int)) (kt : x < y → fk_V E M K n w tgt lv st) (kf : ¬ x < y → fk_V E M K n w (pc + 3) lv st) : fk_V E M K n w pc lv (.int y :: .int x :: st) := by
  obtain ⟨p, l, e, s, m, args, below, meth, c, Q, A⟩ := K
  intro F h1 h2 H locs ls hl hP hD hS
  exact lv_icmp_lt F.1 F.2.1 d ht (fun q => kt q F h1 h2 H locs ls hl hP hD hS) (fun q => kf q F h1 h2 H locs ls hl hP hD hS)
theorem fk_if_geR {x : Int32} {off : Int} {tgt : Nat} (d : decode M.1 pc = .ok (.ifCond .ge off, 3)) (ht : (pc : Int) + off = (tgt : Int)) (kt : 0 ≤ x → fk_V E M K n w tgt lv st) (kf : ¬ 0 ≤ x → fk_V E M K n w (pc + 3) lv st) : fk_V E M K n w pc lv (.int x :: st) := by
  obtain ⟨p, l, e, s, m, args, below, meth, c, Q, A⟩ := K
  intro F h1 h2 H locs ls hl hP hD hS
  exact lv_if_ge F.1 F.2.1 d ht (fun q => kt q F h1 h2 H locs ls hl hP hD hS) (fun q => kf q F h1 h2 H locs ls hl hP hD hS)
theorem fk_icmp_geR {x y : Int32} {off : Int} {tgt : Nat} (d : decode M.1 pc = .ok (.if_icmp .ge off, 3)) (ht : (pc : Int) + off = (tgt : Int)) (kt : y ≤ x → fk_V E M K n w tgt lv st) (kf : ¬ y ≤ x → fk_V E M K n w (pc + 3) lv st) : fk_V E M K n w pc lv (.int y :: .int x :: st) := by
  obtain ⟨p, l, e, s, m, args, below, meth, c, Q, A⟩ := K
  intro F h1 h2 H locs ls hl hP hD hS
  exact lv_icmp_ge F.1 F.2.1 d ht (fun q => kt q F h1 h2 H locs ls hl hP hD hS) (fun q => kf q F h1 h2 H locs ls hl hP hD hS)
theorem fk_if_gtR {x : Int32} {off : Int} {tgt : Nat} (d : decode M.1 pc = .ok (.ifCond .gt off, 3)) (ht : (pc : Int) + off = (tgt : Int)) (kt : 0 < x → fk_V E M K n w tgt lv st) (kf : ¬ 0 < x → fk_V E M K n w (pc + 3) lv st) : fk_V E M K n w pc lv (.int x :: st) := by
  obtain ⟨p, l, e, s, m, args, below, meth, c, Q, A⟩ := K
  intro F h1 h2 H locs ls hl hP hD hS
  exact lv_if_gt F.1 F.2.1 d ht (fun q => kt q F h1 h2 H locs ls hl hP hD hS) (fun q => kf q F h1 h2 H locs ls hl hP hD hS)
theorem fk_icmp_gtR {x y : Int32} {off : Int} {tgt : Nat} (d : decode M.1 pc = .ok (.if_icmp .gt off, 3)) (ht : (pc : Int) + off = (tgt : Int)) (kt : y < x → fk_V E M K n w tgt lv st) (kf : ¬ y < x → fk_V E M K n w (pc + 3) lv st) : fk_V E M K n w pc lv (.int y :: .int x :: st) := by
  obtain ⟨p, l, e, s, m, args, below, meth, c, Q, A⟩ := K
  intro F h1 h2 H locs ls hl hP hD hS
  exact lv_icmp_gt F.1 F.2.1 d ht (fun q => kt q F h1 h2 H locs ls hl hP hD hS) (fun q => kf q F h1 h2 H locs ls hl hP hD hS)
theorem fk_if_leR {x : Int32} {off : Int} {tgt : Nat} (d : decode M.1 pc = .ok (.ifCond .le off, 3)) (ht : (pc : Int) + off = (tgt : Int)) (kt : x ≤ 0 → fk_V E M K n w tgt lv st) (kf : ¬ x ≤ 0 → fk_V E M K n w (pc + 3) lv st) : fk_V E M K n w pc lv (.int x :: st) := by
  obtain ⟨p, l, e, s, m, args, below, meth, c, Q, A⟩ := K
  intro F h1 h2 H locs ls hl hP hD hS
  exact lv_if_le F.1 F.2.1 d ht (fun q => kt q F h1 h2 H locs ls hl hP hD hS) (fun q => kf q F h1 h2 H locs ls hl hP hD hS)
theorem fk_icmp_leR {x y : Int32} {off : Int} {tgt : Nat} (d : decode M.1 pc = .ok (.if_icmp .le off, 3)) (ht : (pc : Int) + off = (tgt : Int)) (kt : x ≤ y → fk_V E M K n w tgt lv st) (kf : ¬ x ≤ y → fk_V E M K n w (pc + 3) lv st) : fk_V E M K n w pc lv (.int y :: .int x :: st) := by
  obtain ⟨p, l, e, s, m, args, below, meth, c, Q, A⟩ := K
  intro F h1 h2 H locs ls hl hP hD hS
  exact lv_icmp_le F.1 F.2.1 d ht (fun q => kt q F h1 h2 H locs ls hl hP hD hS) (fun q => kf q F h1 h2 H locs ls hl hP hD hS)
theorem fk_icmp_eq {a b : Nat} {off : Int} {tgt : Nat} (ha : a < 2 ^ 31) (hb : b < 2 ^ 31) (d : decode M.1 pc = .ok (.if_icmp .eq off, 3)) (ht : (pc : Int) + off = (tgt : Int)) (kt : a = b → fk_V E M K n w tgt lv st) (kf : a ≠ b → fk_V E M K n w (pc + 3) lv st) : fk_V E M K n w pc lv (.int (nI b) :: .int (nI a) :: st) :=
  fk_icmp_eqR d ht (fun q => kt ((nI_eq ha hb).mp q)) (fun q => kf (fun z => q ((nI_eq ha hb).mpr z)))
theorem fk_icmp_ne {a b : Nat} {off : Int} {tgt : Nat} (ha : a < 2 ^ 31) (hb : b < 2 ^ 31) (d : decode M.1 pc = .ok (.if_icmp .ne off, 3)) (ht : (pc : Int) + off = (tgt : Int)) (kt : a ≠ b → fk_V E M K n w tgt lv st) (kf : a = b → fk_V E M K n w (pc + 3) lv st) : fk_V E M K n w pc lv (.int (nI b) :: .int (nI a) :: st) :=
  fk_icmp_neR d ht (fun q => kt (fun z => q ((nI_eq ha hb).mpr z))) (fun q => kf ((nI_eq ha hb).mp q))
theorem fk_icmp_lt {a b : Nat} {off : Int} {tgt : Nat} (ha : a < 2 ^ 31) (hb : b < 2 ^ 31) (d : decode M.1 pc = .ok (.if_icmp .lt off, 3)) (ht : (pc : Int) + off = (tgt : Int)) (kt : a < b → fk_V E M K n w tgt lv st) (kf : b ≤ a → fk_V E M K n w (pc + 3) lv st) : fk_V E M K n w pc lv (.int (nI b) :: .int (nI a) :: st) :=
  fk_icmp_ltR d ht (fun q => kt ((nI_ltI ha hb).mp q)) (fun q => kf (Nat.not_lt.mp (fun z => q ((nI_ltI ha hb).mpr z))))
theorem fk_icmp_ge {a b : Nat} {off : Int} {tgt : Nat} (ha : a < 2 ^ 31) (hb : b < 2 ^ 31) (d : decode M.1 pc = .ok (.if_icmp .ge off, 3)) (ht : (pc : Int) + off = (tgt : Int)) (kt : b ≤ a → fk_V E M K n w tgt lv st) (kf : a < b → fk_V E M K n w (pc + 3) lv st) : fk_V E M K n w pc lv (.int (nI b) :: .int (nI a) :: st) :=
  fk_icmp_geR d ht (fun q => kt ((nI_leI hb ha).mp q)) (fun q => kf (Nat.not_le.mp (fun z => q ((nI_leI hb ha).mpr z))))
theorem fk_icmp_gt {a b : Nat} {off : Int} {tgt : Nat} (ha : a < 2 ^ 31) (hb : b < 2 ^ 31) (d : decode M.1 pc = .ok (.if_icmp .gt off, 3)) (ht : (pc : Int) + off = (tgt : Int)) (kt : b < a → fk_V E M K n w tgt lv st) (kf : a ≤ b → fk_V E M K n w (pc + 3) lv st) : fk_V E M K n w pc lv (.int (nI b) :: .int (nI a) :: st) :=
  fk_icmp_gtR d ht (fun q => kt ((nI_ltI hb ha).mp q)) (fun q => kf (Nat.not_lt.mp (fun z => q ((nI_ltI hb ha).mpr z))))
theorem fk_icmp_le {a b : Nat} {off : Int} {tgt : Nat} (ha : a < 2 ^ 31) (hb : b < 2 ^ 31) (d : decode M.1 pc = .ok (.if_icmp .le off, 3)) (ht : (pc : Int) + off = (tgt : Int)) (kt : a ≤ b → fk_V E M K n w tgt lv st) (kf : b < a → fk_V E M K n w (pc + 3) lv st) : fk_V E M K n w pc lv (.int (nI b) :: .int (nI a) :: st) :=
  fk_icmp_leR d ht (fun q => kt ((nI_leI ha hb).mp q)) (fun q => kf (Nat.not_le.mp (fun z => q ((nI_leI ha hb).mpr z))))
theorem fk_if_eq {a : Nat} {off : Int} {tgt : Nat} (ha : a < 2 ^ 31) (d : decode M.1 pc = .ok (.ifCond .eq off, 3)) (ht : (pc : Int) + off = (tgt : Int)) (kt : a = 0 → fk_V E M K n w tgt lv st) (kf : a ≠ 0 → fk_V E M K n w (pc + 3) lv st) : fk_V E M K n w pc lv (.int (nI a) :: st) :=
  fk_if_eqR d ht (fun q => kt (Nat.eq_zero_of_not_pos (fun z => nI_ne0 z ha q))) (fun q => kf (fun z => q (by rw [z]; exact nI_0)))
theorem fk_if_ne {a : Nat} {off : Int} {tgt : Nat} (ha : a < 2 ^ 31) (d : decode M.1 pc = .ok (.ifCond .ne off, 3)) (ht : (pc : Int) + off = (tgt : Int)) (kt : a ≠ 0 → fk_V E M K n w tgt lv st) (kf : a = 0 → fk_V E M K n w (pc + 3) lv st) : fk_V E M K n w pc lv (.int (nI a) :: st) :=
  fk_if_neR d ht (fun q => kt (fun z => q (by rw [z]; exact nI_0))) (fun q => kf (Nat.eq_zero_of_not_pos (fun z => nI_ne0 z ha q)))
theorem fk_if_lt {a : Nat} {off : Int} {tgt : Nat} (ha : a < 2 ^ 31) (d : decode M.1 pc = .ok (.ifCond .lt off, 3)) (ht : (pc : Int) + off = (tgt : Int)) (kf : fk_V E M K n w (pc + 3) lv st) : fk_V E M K n w pc lv (.int (nI a) :: st) :=
  fk_if_ltR d ht (fun q => absurd q (nI_pos ha)) (fun _ => kf)
theorem fk_if_ge {a : Nat} {off : Int} {tgt : Nat} (ha : a < 2 ^ 31) (d : decode M.1 pc = .ok (.ifCond .ge off, 3)) (ht : (pc : Int) + off = (tgt : Int)) (kt : fk_V E M K n w tgt lv st) : fk_V E M K n w pc lv (.int (nI a) :: st) :=
  fk_if_geR d ht (fun _ => kt) (fun q => absurd (nI_pos' ha) q)
theorem fk_if_gt {a : Nat} {off : Int} {tgt : Nat} (ha : a < 2 ^ 31) (d : decode M.1 pc = .ok (.ifCond .gt off, 3)) (ht : (pc : Int) + off = (tgt : Int)) (kt : 0 < a → fk_V E M K n w tgt lv st) (kf : a = 0 → fk_V E M K n w (pc + 3) lv st) : fk_V E M K n w pc lv (.int (nI a) :: st) :=
  fk_if_gtR d ht (fun q => kt (Nat.pos_of_ne_zero (fun z => absurd q (by rw [z]; decide)))) (fun q => kf (Nat.eq_zero_of_not_pos (fun z => q (by rw [← nI_0]; exact nI_lt z ha))))
theorem fk_if_le {a : Nat} {off : Int} {tgt : Nat} (ha : a < 2 ^ 31) (d : decode M.1 pc = .ok (.ifCond .le off, 3)) (ht : (pc : Int) + off = (tgt : Int)) (kt : a = 0 → fk_V E M K n w tgt lv st) (kf : 0 < a → fk_V E M K n w (pc + 3) lv st) : fk_V E M K n w pc lv (.int (nI a) :: st) :=
  fk_if_leR d ht (fun q => kt (Nat.eq_zero_of_not_pos (fun z => nI_nle z ha q))) (fun q => kf (Nat.pos_of_ne_zero (fun z => q (by rw [z]; decide))))
theorem fk_if_eqB {b : Bool} {off : Int} {tgt : Nat} (d : decode M.1 pc = .ok (.ifCond .eq off, 3)) (ht : (pc : Int) + off = (tgt : Int)) (kt : b = false → fk_V E M K n w tgt lv st) (kf : b = true → fk_V E M K n w (pc + 3) lv st) : fk_V E M K n w pc lv (.int (nI b.toNat) :: st) :=
  fk_if_eq (by cases b <;> decide) d ht (fun q => kt (by cases b <;> first | rfl | exact absurd q (by decide))) (fun q => kf (by cases b <;> first | rfl | exact absurd rfl q))
theorem fk_if_neB {b : Bool} {off : Int} {tgt : Nat} (d : decode M.1 pc = .ok (.ifCond .ne off, 3)) (ht : (pc : Int) + off = (tgt : Int)) (kt : b = true → fk_V E M K n w tgt lv st) (kf : b = false → fk_V E M K n w (pc + 3) lv st) : fk_V E M K n w pc lv (.int (nI b.toNat) :: st) :=
  fk_if_ne (by cases b <;> decide) d ht (fun q => kt (by cases b <;> first | rfl | exact absurd rfl q)) (fun q => kf (by cases b <;> first | rfl | exact absurd q (by decide)))
theorem fk_goto {off : Int} {tgt : Nat} (d : decode M.1 pc = .ok (.goto off, 3)) (ht : (pc : Int) + off = (tgt : Int)) (kk : fk_V E M K n w tgt lv st) : fk_V E M K n w pc lv st := by
  obtain ⟨p, l, e, s, m, args, below, meth, c, Q, A⟩ := K
  intro F h1 h2 H locs ls hl hP hD hS
  exact lv_goto F.1 F.2.1 d ht (kk F h1 h2 H locs ls hl hP hD hS)
theorem fk_ifnonnull {x : Nat} {off : Int} {tgt : Nat} (d : decode M.1 pc = .ok (.ifnonnull off, 3)) (ht : (pc : Int) + off = (tgt : Int)) (kk : fk_V E M K n w tgt lv st) : fk_V E M K n w pc lv (.ref x :: st) := by
  obtain ⟨p, l, e, s, m, args, below, meth, c, Q, A⟩ := K
  intro F h1 h2 H locs ls hl hP hD hS
  exact lv_ifnonnull F.1 F.2.1 d ht (kk F h1 h2 H locs ls hl hP hD hS)
theorem fk_ifnullN {off : Int} {tgt : Nat} (d : decode M.1 pc = .ok (.ifnull off, 3)) (ht : (pc : Int) + off = (tgt : Int)) (kk : fk_V E M K n w tgt lv st) : fk_V E M K n w pc lv (.null :: st) := by
  obtain ⟨p, l, e, s, m, args, below, meth, c, Q, A⟩ := K
  intro F h1 h2 H locs ls hl hP hD hS
  exact lv_ifnullN F.1 F.2.1 d ht (kk F h1 h2 H locs ls hl hP hD hS)
theorem fk_ifnull {x : Nat} {off : Int} (d : decode M.1 pc = .ok (.ifnull off, 3)) (kk : fk_V E M K n w (pc + 3) lv st) : fk_V E M K n w pc lv (.ref x :: st) := by
  obtain ⟨p, l, e, s, m, args, below, meth, c, Q, A⟩ := K
  intro F h1 h2 H locs ls hl hP hD hS
  exact lv_ifnull F.1 F.2.1 d (kk F h1 h2 H locs ls hl hP hD hS)
theorem fk_ifnonnullN {off : Int} (d : decode M.1 pc = .ok (.ifnonnull off, 3)) (kk : fk_V E M K n w (pc + 3) lv st) : fk_V E M K n w pc lv (.null :: st) := by
  obtain ⟨p, l, e, s, m, args, below, meth, c, Q, A⟩ := K
  intro F h1 h2 H locs ls hl hP hD hS
  exact lv_ifnonnullN F.1 F.2.1 d (kk F h1 h2 H locs ls hl hP hD hS)
theorem fk_tabOut {dflt lo hi : Int} {offs : Array Int} {len : Nat} {x : Int32} {tgt : Nat} (d : decode M.1 pc = .ok (.tableswitch dflt lo hi offs, len)) (h : x.toInt < lo ∨ hi < x.toInt) (ht : (pc : Int) + dflt = (tgt : Int)) (kk : fk_V E M K n w tgt lv st) : fk_V E M K n w pc lv (.int x :: st) := by
  obtain ⟨p, l, e, s, m, args, below, meth, c, Q, A⟩ := K
  intro F h1 h2 H locs ls hl hP hD hS
  exact lv_tableOut F.1 F.2.1 d h ht (kk F h1 h2 H locs ls hl hP hD hS)
theorem fk_tabIn {dflt lo hi : Int} {offs : Array Int} {len : Nat} {x : Int32} {off : Int} {tgt : Nat} (d : decode M.1 pc = .ok (.tableswitch dflt lo hi offs, len)) (q1 : ¬ x.toInt < lo) (q2 : ¬ hi < x.toInt) (ho : offs[(x.toInt - lo).toNat]? = some off) (ht : (pc : Int) + off = (tgt : Int)) (kk : fk_V E M K n w tgt lv st) : fk_V E M K n w pc lv (.int x :: st) := by
  obtain ⟨p, l, e, s, m, args, below, meth, c, Q, A⟩ := K
  intro F h1 h2 H locs ls hl hP hD hS
  exact lv_tableIn F.1 F.2.1 d q1 q2 ho ht (kk F h1 h2 H locs ls hl hP hD hS)
theorem fk_icmp_eqJ {a b : Nat} {off : Int} {tgt : Nat} (ha : a < 2 ^ 31) (hb : b < 2 ^ 31) (d : decode M.1 pc = .ok (.if_icmp .eq off, 3)) (ht : (pc : Int) + off = (tgt : Int)) (kt : a = b → fk_V E M K n w tgt lv st) (kf : a ≠ b → fk_V E M K n w (pc + 3) lv st) : fk_V E M K n w pc lv (.int (nI b - 1) :: .int (nI a - 1) :: st) :=
  fk_icmp_eqR d ht (fun q => kt ((fn_eqJ ha hb).mp q)) (fun q => kf (fun z => q ((fn_eqJ ha hb).mpr z)))
theorem fk_icmp_neJ {a b : Nat} {off : Int} {tgt : Nat} (ha : a < 2 ^ 31) (hb : b < 2 ^ 31) (d : decode M.1 pc = .ok (.if_icmp .ne off, 3)) (ht : (pc : Int) + off = (tgt : Int)) (kt : a ≠ b → fk_V E M K n w tgt lv st) (kf : a = b → fk_V E M K n w (pc + 3) lv st) : fk_V E M K n w pc lv (.int (nI b - 1) :: .int (nI a - 1) :: st) :=
  fk_icmp_neR d ht (fun q => kt (fun z => q ((fn_eqJ ha hb).mpr z))) (fun q => kf ((fn_eqJ ha hb).mp q))
theorem fk_if_ltJ {a : Nat} {off : Int} {tgt : Nat} (ha : a < 2 ^ 31) (d : decode M.1 pc = .ok (.ifCond .lt off, 3)) (ht : (pc : Int) + off = (tgt : Int)) (kt : a = 0 → fk_V E M K n w tgt lv st) (kf : 0 < a → fk_V E M K n w (pc + 3) lv st) : fk_V E M K n w pc lv (.int (nI a - 1) :: st) :=
  fk_if_ltR d ht (fun q => kt ((fn_ltJ ha).mp q)) (fun q => kf (Nat.pos_of_ne_zero (fun z => q ((fn_ltJ ha).mpr z))))
theorem fk_if_geJ {a : Nat} {off : Int} {tgt : Nat} (ha : a < 2 ^ 31) (d : decode M.1 pc = .ok (.ifCond .ge off, 3)) (ht : (pc : Int) + off = (tgt : Int)) (kt : 0 < a → fk_V E M K n w tgt lv st) (kf : a = 0 → fk_V E M K n w (pc + 3) lv st) : fk_V E M K n w pc lv (.int (nI a - 1) :: st) :=
  fk_if_geR d ht (fun q => kt ((fn_geJ ha).mp q)) (fun q => kf (Nat.eq_zero_of_not_pos (fun z => q ((fn_geJ ha).mpr z))))
theorem fk_cmp_eq {a b : Nat} {off : Int} {tgt : Nat} (ha : a < 2 ^ 64) (hb : b < 2 ^ 64) (d : decode M.1 pc = .ok (.ifCond .eq off, 3)) (ht : (pc : Int) + off = (tgt : Int)) (kt : a = b → fk_V E M K n w tgt lv st) (kf : a ≠ b → fk_V E M K n w (pc + 3) lv st) : fk_V E M K n w pc lv (.int (lg_cmp (lN a) (lN b)) :: st) :=
  fk_if_eqR d ht (fun q => kt ((fn_cmp ha hb).mp q)) (fun q => kf (fun z => q ((fn_cmp ha hb).mpr z)))
theorem fk_cmp_ne {a b : Nat} {off : Int} {tgt : Nat} (ha : a < 2 ^ 64) (hb : b < 2 ^ 64) (d : decode M.1 pc = .ok (.ifCond .ne off, 3)) (ht : (pc : Int) + off = (tgt : Int)) (kt : a ≠ b → fk_V E M K n w tgt lv st) (kf : a = b → fk_V E M K n w (pc + 3) lv st) : fk_V E M K n w pc lv (.int (lg_cmp (lN a) (lN b)) :: st) :=
  fk_if_neR d ht (fun q => kt (fun z => q ((fn_cmp ha hb).mpr z))) (fun q => kf ((fn_cmp ha hb).mp q))
theorem fk_aloadN_n {k : Fin 4} (j : Nat) (d : decode M.1 pc = .ok (.aload_n k, 1)) (h : lv[j]? = some ((k : Nat), .null)) (kk : fk_V E M K n w (pc + 1) lv (.null :: st)) : fk_V E M K n w pc lv st := by
  obtain ⟨p, l, e, s, m, args, below, meth, c, Q, A⟩ := K
  intro F h1 h2 H locs ls hl hP hD hS
  exact lv_aload_nN F.1 F.2.1 d rfl (lv_at hl j h) (kk F h1 h2 H locs ls hl hP hD hS)
theorem fk_aloadN {i : Nat} (j : Nat) (d : decode M.1 pc = .ok (.aload i, 2)) (h : lv[j]? = some (i, .null)) (kk : fk_V E M K n w (pc + 2) lv (.null :: st)) : fk_V E M K n w pc lv st := by
  obtain ⟨p, l, e, s, m, args, below, meth, c, Q, A⟩ := K
  intro F h1 h2 H locs ls hl hP hD hS
  exact lv_aloadN F.1 F.2.1 d (lv_at hl j h) (kk F h1 h2 H locs ls hl hP hD hS)
theorem fk_astoreN_n {k : Fin 4} {i : Nat} {lv' : List (Nat × Value)} (d : decode M.1 pc = .ok (.astore_n k, 1)) (hi : (k : Nat) = i) (hn : i < M.2.2.1) (ks : List Nat) (h : lv_pick ((i, Value.null) :: lv.filter (fun q => !(q.1 == i) && !(q.1 + 1 == i && q.2.category == 2))) ks = lv') (kk : fk_V E M K n w (pc + 1) lv' st) : fk_V E M K n w pc lv (.null :: st) := by
  obtain ⟨p, l, e, s, m, args, below, meth, c, Q, A⟩ := K
  intro F h1 h2 H locs ls hl hP hD hS
  exact lv_astore_nN F.1 F.2.1 d hi hl hn rfl (fun ls' hl' => kk F h1 h2 H locs ls' (lv_sub hl' ks h) hP hD hS)
theorem fk_get {a ci index : Nat} {C : String} {T : u_T} {N : Nat} {fs : List Value} {v : Value} (q0 k : Nat) (he : w[q0]? = some (a, .inr (ci, fs))) (hc : fk_cl[ci]? = some (C, T, N)) (hin : ∀ x ∈ u_ws C T N, x ∈ fk_G) (hk : k < N) (hlink : Cond.fieldLink M.2.1 index (T k).1 (T k).2.1 (T k).2.2.1 ∈ fk_G) (hv : fs[k]? = some v) (d : decode M.1 pc = .ok (.getfield index, 3)) (kk : fk_V E M K n w (pc + 3) lv (v :: st)) : fk_V E M K n w pc lv (.ref a :: st) := by
  obtain ⟨p, l, e, s, m, args, below, meth, c, Q, A⟩ := K
  intro F h1 h2 H locs ls hl hP hD hS
  exact va_get F.1 F.2.1 F.2.2.2.2.1 hin F.2.2.2.1 F.2.2.2.2.2.1 hP q0 he hc k hk (F.2.2.2.2.1 _ hlink) (fun _ h => h) hv d (kk F h1 h2 H locs ls hl hP hD hS)
theorem fk_put {a ci index : Nat} {C : String} {T : u_T} {N : Nat} {fs : List Value} {v : Value} {ty : FieldType} {w' : va_W} (q0 k : Nat) (ty0 : Nat → FieldType) (hty : ∀ k, k < N → parseFieldDescriptor (T k).2.2.1 = some (ty0 k)) (hnm : ∀ a, a < N → ∀ b, b < N → a ≠ b → (T a).2.1 ≠ (T b).2.1) (he : w[q0]? = some (a, .inr (ci, fs))) (hc : fk_cl[ci]? = some (C, T, N)) (hin : ∀ x ∈ u_ws C T N, x ∈ fk_G) (hk : k < N) (hlink : Cond.fieldLink M.2.1 index (T k).1 (T k).2.1 (T k).2.2.1 ∈ fk_G) (hfin : (T k).2.2.2 = false) (hd : parseFieldDescriptor (T k).2.2.1 = some ty) (hn : narrow ty v = v) (hfit : fits ty v = true) (hl0 : k < fs.length) (d : decode M.1 pc = .ok (.putfield index, 3)) (hw : w.set q0 (a, .inr (ci, fs.set k v)) = w') (kk : fk_V E M K n w' (pc + 3) lv st) : fk_V E M K n w pc lv (v :: .ref a :: st) := by
  obtain ⟨p, l, e, s, m, args, below, meth, c, Q, A⟩ := K
  intro F h1 h2 H locs ls hl hP hD hS
  exact va_put F.1 F.2.1 F.2.2.2.2.1 hin ty0 hty hnm F.2.2.2.1 F.2.2.2.2.2.1 hP hD hS q0 he hc k hk (F.2.2.2.2.1 _ hlink) (fun _ h => h) hfin hd hn hfit hl0 d (fun H1 locs1 hP1 hD1 hS1 => kk F h1 h2 H1 locs1 ls hl (hw ▸ hP1) (hw ▸ hD1) hS1)
def fk_isInit (K : fk_K) : Prop := match K with
  | (_, _, _, _, _, _, _, meth, _, _, _) => meth.name = "<init>"
theorem fk_putF {a ci index : Nat} {C : String} {T : u_T} {N : Nat} {fs : List Value} {v : Value} {ty : FieldType} {w' : va_W} (hini : fk_isInit K) (q0 k : Nat) (ty0 : Nat → FieldType) (hty : ∀ k, k < N → parseFieldDescriptor (T k).2.2.1 = some (ty0 k)) (hnm : ∀ a, a < N → ∀ b, b < N → a ≠ b → (T a).2.1 ≠ (T b).2.1) (he : w[q0]? = some (a, .inr (ci, fs))) (hc : fk_cl[ci]? = some (C, T, N)) (hin : ∀ x ∈ u_ws C T N, x ∈ fk_G) (hk : k < N) (hlink : Cond.fieldLink M.2.1 index (T k).1 (T k).2.1 (T k).2.2.1 ∈ fk_G) (hfin : (T k).2.2.2 = true) (hdecl : (T k).1 = M.2.1) (hd : parseFieldDescriptor (T k).2.2.1 = some ty) (hn : narrow ty v = v) (hfit : fits ty v = true) (hl0 : k < fs.length) (d : decode M.1 pc = .ok (.putfield index, 3)) (hw : w.set q0 (a, .inr (ci, fs.set k v)) = w') (kk : fk_V E M K n w' (pc + 3) lv st) : fk_V E M K n w pc lv (v :: .ref a :: st) := by
  obtain ⟨p, l, e, s, m, args, below, meth, c, Q, A⟩ := K
  intro F h1 h2 H locs ls hl hP hD hS
  exact va_putF F.1 F.2.1 F.2.2.2.2.1 hin ty0 hty hnm F.2.2.2.1 F.2.2.2.2.2.1 hP hD hS q0 he hc k hk (F.2.2.2.2.1 _ hlink) (fun _ h => h) hfin hini hdecl hd hn hfit hl0 d (fun H1 locs1 hP1 hD1 hS1 => kk F h1 h2 H1 locs1 ls hl (hw ▸ hP1) (hw ▸ hD1) hS1)
/-- arrays in cells: ints, longs, booleans, bytes by naturals; ints and shorts that may be -1 by a number one greater -/
abbrev fk_ai (E : fk_E) (a N : Nat) (g : Nat → Nat) : Nat × va_E := (a, .inl (E.2 0, N, .inl (fun k => nI (g k))))
abbrev fk_al (E : fk_E) (a N : Nat) (g : Nat → Nat) : Nat × va_E := (a, .inl (E.2 1, N, .inr (.inl (fun k => lN (g k)))))
abbrev fk_az (E : fk_E) (a N : Nat) (g : Nat → Bool) : Nat × va_E := (a, .inl (E.2 2, N, .inl (fun k => nI (g k).toNat)))
abbrev fk_ab (E : fk_E) (a N : Nat) (g : Nat → Nat) : Nat × va_E := (a, .inl (E.2 3, N, .inl (fun k => nI (g k))))
abbrev fk_aj (E : fk_E) (a N : Nat) (g : Nat → Nat) : Nat × va_E := (a, .inl (E.2 0, N, .inl (fun k => nI (g k) - 1)))
abbrev fk_as (E : fk_E) (a N : Nat) (g : Nat → Nat) : Nat × va_E := (a, .inl (E.2 4, N, .inl (fun k => nI (g k) - 1)))
theorem fk_ld_ai {a N i : Nat} {g : Nat → Nat} (q0 : Nat) (he : w[q0]? = some (fk_ai E a N g)) (hi : i < N) (hN : N < 2 ^ 31) (d : decode M.1 pc = .ok (.iaload, 1)) (kk : fk_V E M K n w (pc + 1) lv (.int (nI (g i)) :: st)) : fk_V E M K n w pc lv (.int (nI i) :: .ref a :: st) := by
  obtain ⟨p, l, e, s, m, args, below, meth, c, Q, A⟩ := K
  intro F h1 h2 H locs ls hl hP hD hS
  refine va_iald F.1 F.2.1 F.2.2.2.2.2.1 hP q0 0 he rfl (vp_in_nI hi hN) d ?_
  rw [nI_clamp (show i < 2 ^ 31 by omega)]
  exact kk F h1 h2 H locs ls hl hP hD hS
theorem fk_ld_aj {a N i : Nat} {g : Nat → Nat} (q0 : Nat) (he : w[q0]? = some (fk_aj E a N g)) (hi : i < N) (hN : N < 2 ^ 31) (d : decode M.1 pc = .ok (.iaload, 1)) (kk : fk_V E M K n w (pc + 1) lv (.int (nI (g i) - 1) :: st)) : fk_V E M K n w pc lv (.int (nI i) :: .ref a :: st) := by
  obtain ⟨p, l, e, s, m, args, below, meth, c, Q, A⟩ := K
  intro F h1 h2 H locs ls hl hP hD hS
  refine va_iald F.1 F.2.1 F.2.2.2.2.2.1 hP q0 0 he rfl (vp_in_nI hi hN) d ?_
  rw [nI_clamp (show i < 2 ^ 31 by omega)]
  exact kk F h1 h2 H locs ls hl hP hD hS
theorem fk_ld_al {a N i : Nat} {g : Nat → Nat} (q0 : Nat) (he : w[q0]? = some (fk_al E a N g)) (hi : i < N) (hN : N < 2 ^ 31) (d : decode M.1 pc = .ok (.laload, 1)) (kk : fk_V E M K n w (pc + 1) lv (.long (lN (g i)) :: st)) : fk_V E M K n w pc lv (.int (nI i) :: .ref a :: st) := by
  obtain ⟨p, l, e, s, m, args, below, meth, c, Q, A⟩ := K
  intro F h1 h2 H locs ls hl hP hD hS
  refine va_lald F.1 F.2.1 F.2.2.2.2.2.1 hP q0 1 he rfl (vp_in_nI hi hN) d ?_
  rw [nI_clamp (show i < 2 ^ 31 by omega)]
  exact kk F h1 h2 H locs ls hl hP hD hS
theorem fk_ld_az {a N i : Nat} {g : Nat → Bool} (q0 : Nat) (he : w[q0]? = some (fk_az E a N g)) (hi : i < N) (hN : N < 2 ^ 31) (d : decode M.1 pc = .ok (.baload, 1)) (kk : fk_V E M K n w (pc + 1) lv (.int (nI (g i).toNat) :: st)) : fk_V E M K n w pc lv (.int (nI i) :: .ref a :: st) := by
  obtain ⟨p, l, e, s, m, args, below, meth, c, Q, A⟩ := K
  intro F h1 h2 H locs ls hl hP hD hS
  refine va_zald F.1 F.2.1 F.2.2.2.2.2.1 hP q0 2 he rfl (vp_in_nI hi hN) d ?_
  rw [nI_clamp (show i < 2 ^ 31 by omega)]
  exact kk F h1 h2 H locs ls hl hP hD hS
theorem fk_ld_ab {a N i : Nat} {g : Nat → Nat} (q0 : Nat) (he : w[q0]? = some (fk_ab E a N g)) (hi : i < N) (hN : N < 2 ^ 31) (d : decode M.1 pc = .ok (.baload, 1)) (kk : fk_V E M K n w (pc + 1) lv (.int (nI (g i)) :: st)) : fk_V E M K n w pc lv (.int (nI i) :: .ref a :: st) := by
  obtain ⟨p, l, e, s, m, args, below, meth, c, Q, A⟩ := K
  intro F h1 h2 H locs ls hl hP hD hS
  refine va_bald F.1 F.2.1 F.2.2.2.2.2.1 hP q0 3 he rfl (vp_in_nI hi hN) d ?_
  rw [nI_clamp (show i < 2 ^ 31 by omega)]
  exact kk F h1 h2 H locs ls hl hP hD hS
theorem fk_ld_as {a N i : Nat} {g : Nat → Nat} (q0 : Nat) (he : w[q0]? = some (fk_as E a N g)) (hi : i < N) (hN : N < 2 ^ 31) (d : decode M.1 pc = .ok (.saload, 1)) (kk : fk_V E M K n w (pc + 1) lv (.int (nI (g i) - 1) :: st)) : fk_V E M K n w pc lv (.int (nI i) :: .ref a :: st) := by
  obtain ⟨p, l, e, s, m, args, below, meth, c, Q, A⟩ := K
  intro F h1 h2 H locs ls hl hP hD hS
  refine va_sald F.1 F.2.1 F.2.2.2.2.2.1 hP q0 4 he rfl (vp_in_nI hi hN) d ?_
  rw [nI_clamp (show i < 2 ^ 31 by omega)]
  exact kk F h1 h2 H locs ls hl hP hD hS
theorem fk_up {g : Nat → Nat} {i x : Nat} : upd (fun k => nI (g k)) i (nI x) = fun k => nI (va_up g i x k) := by
  funext k
  simp only [upd, va_up]
  split <;> rfl
theorem fk_upj {g : Nat → Nat} {i x : Nat} : upd (fun k => nI (g k) - 1) i (nI x - 1) = fun k => nI (va_up g i x k) - 1 := by
  funext k
  simp only [upd, va_up]
  split <;> rfl
theorem fk_upz {g : Nat → Bool} {i : Nat} {x : Bool} : upd (fun k => nI (g k).toNat) i (nI x.toNat) = fun k => nI (va_up g i x k).toNat := by
  funext k
  simp only [upd, va_up]
  split <;> rfl
theorem fk_upl {g : Nat → Nat} {i x : Nat} : vp_updL (fun k => lN (g k)) i (lN x) = fun k => lN (va_up g i x k) := by
  funext k
  simp only [vp_updL, va_up]
  split <;> rfl
theorem fk_st_ai {a N i : Nat} {x : Nat} {g : Nat → Nat} {w' : va_W} (q0 : Nat) (he : w[q0]? = some (fk_ai E a N g)) (hi : i < N) (hN : N < 2 ^ 31) (d : decode M.1 pc = .ok (.iastore, 1)) (hw : w.set q0 (fk_ai E a N (va_up g i x)) = w') (kk : fk_V E M K n w' (pc + 1) lv st) : fk_V E M K n w pc lv (.int (nI x) :: .int (nI i) :: .ref a :: st) := by
  obtain ⟨p, l, e, s, m, args, below, meth, c, Q, A⟩ := K
  intro F h1 h2 H locs ls hl hP hD hS
  refine va_iast F.1 F.2.1 F.2.2.2.2.2.1 hP hD hS q0 0 he rfl (vp_in_nI hi hN) d (fun H1 locs1 hP1 hD1 hS1 => ?_)
  rw [nI_clamp (show i < 2 ^ 31 by omega)] at hP1 hD1
  rw [fk_up] at hP1 hD1
  exact kk F h1 h2 H1 locs1 ls hl (hw ▸ hP1) (hw ▸ hD1) hS1
theorem fk_st_aj {a N i : Nat} {x : Nat} {g : Nat → Nat} {w' : va_W} (q0 : Nat) (he : w[q0]? = some (fk_aj E a N g)) (hi : i < N) (hN : N < 2 ^ 31) (d : decode M.1 pc = .ok (.iastore, 1)) (hw : w.set q0 (fk_aj E a N (va_up g i x)) = w') (kk : fk_V E M K n w' (pc + 1) lv st) : fk_V E M K n w pc lv (.int (nI x - 1) :: .int (nI i) :: .ref a :: st) := by
  obtain ⟨p, l, e, s, m, args, below, meth, c, Q, A⟩ := K
  intro F h1 h2 H locs ls hl hP hD hS
  refine va_iast F.1 F.2.1 F.2.2.2.2.2.1 hP hD hS q0 0 he rfl (vp_in_nI hi hN) d (fun H1 locs1 hP1 hD1 hS1 => ?_)
  rw [nI_clamp (show i < 2 ^ 31 by omega)] at hP1 hD1
  rw [fk_upj] at hP1 hD1
  exact kk F h1 h2 H1 locs1 ls hl (hw ▸ hP1) (hw ▸ hD1) hS1
theorem fk_st_al {a N i : Nat} {x : Nat} {g : Nat → Nat} {w' : va_W} (q0 : Nat) (he : w[q0]? = some (fk_al E a N g)) (hi : i < N) (hN : N < 2 ^ 31) (d : decode M.1 pc = .ok (.lastore, 1)) (hw : w.set q0 (fk_al E a N (va_up g i x)) = w') (kk : fk_V E M K n w' (pc + 1) lv st) : fk_V E M K n w pc lv (.long (lN x) :: .int (nI i) :: .ref a :: st) := by
  obtain ⟨p, l, e, s, m, args, below, meth, c, Q, A⟩ := K
  intro F h1 h2 H locs ls hl hP hD hS
  refine va_last F.1 F.2.1 F.2.2.2.2.2.1 hP hD hS q0 1 he rfl (vp_in_nI hi hN) d (fun H1 locs1 hP1 hD1 hS1 => ?_)
  rw [nI_clamp (show i < 2 ^ 31 by omega)] at hP1 hD1
  rw [fk_upl] at hP1 hD1
  exact kk F h1 h2 H1 locs1 ls hl (hw ▸ hP1) (hw ▸ hD1) hS1
theorem fk_st_az {a N i : Nat} {x : Bool} {g : Nat → Bool} {w' : va_W} (q0 : Nat) (he : w[q0]? = some (fk_az E a N g)) (hi : i < N) (hN : N < 2 ^ 31) (d : decode M.1 pc = .ok (.bastore, 1)) (hw : w.set q0 (fk_az E a N (va_up g i x)) = w') (kk : fk_V E M K n w' (pc + 1) lv st) : fk_V E M K n w pc lv (.int (nI x.toNat) :: .int (nI i) :: .ref a :: st) := by
  obtain ⟨p, l, e, s, m, args, below, meth, c, Q, A⟩ := K
  intro F h1 h2 H locs ls hl hP hD hS
  refine va_zast F.1 F.2.1 F.2.2.2.2.2.1 hP hD hS q0 2 he rfl (vp_in_nI hi hN) d (fun H1 locs1 hP1 hD1 hS1 => ?_)
  rw [nI_clamp (show i < 2 ^ 31 by omega)] at hP1 hD1
  rw [show vp_nar .boolean (nI x.toNat) = nI x.toNat by cases x <;> rfl] at hP1 hD1
  rw [fk_upz] at hP1 hD1
  exact kk F h1 h2 H1 locs1 ls hl (hw ▸ hP1) (hw ▸ hD1) hS1
theorem fk_st_ab {a N i : Nat} {x : Nat} {g : Nat → Nat} {w' : va_W} (q0 : Nat) (he : w[q0]? = some (fk_ab E a N g)) (hi : i < N) (hN : N < 2 ^ 31) (hx : vp_nar .byte (nI x) = nI x) (d : decode M.1 pc = .ok (.bastore, 1)) (hw : w.set q0 (fk_ab E a N (va_up g i x)) = w') (kk : fk_V E M K n w' (pc + 1) lv st) : fk_V E M K n w pc lv (.int (nI x) :: .int (nI i) :: .ref a :: st) := by
  obtain ⟨p, l, e, s, m, args, below, meth, c, Q, A⟩ := K
  intro F h1 h2 H locs ls hl hP hD hS
  refine va_bast F.1 F.2.1 F.2.2.2.2.2.1 hP hD hS q0 3 he rfl (vp_in_nI hi hN) d (fun H1 locs1 hP1 hD1 hS1 => ?_)
  rw [nI_clamp (show i < 2 ^ 31 by omega)] at hP1 hD1
  rw [hx] at hP1 hD1
  rw [fk_up] at hP1 hD1
  exact kk F h1 h2 H1 locs1 ls hl (hw ▸ hP1) (hw ▸ hD1) hS1
theorem fk_st_as {a N i : Nat} {x : Nat} {g : Nat → Nat} {w' : va_W} (q0 : Nat) (he : w[q0]? = some (fk_as E a N g)) (hi : i < N) (hN : N < 2 ^ 31) (hx : vp_nar .short (nI x - 1) = nI x - 1) (d : decode M.1 pc = .ok (.sastore, 1)) (hw : w.set q0 (fk_as E a N (va_up g i x)) = w') (kk : fk_V E M K n w' (pc + 1) lv st) : fk_V E M K n w pc lv (.int (nI x - 1) :: .int (nI i) :: .ref a :: st) := by
  obtain ⟨p, l, e, s, m, args, below, meth, c, Q, A⟩ := K
  intro F h1 h2 H locs ls hl hP hD hS
  refine va_sast F.1 F.2.1 F.2.2.2.2.2.1 hP hD hS q0 4 he rfl (vp_in_nI hi hN) d (fun H1 locs1 hP1 hD1 hS1 => ?_)
  rw [nI_clamp (show i < 2 ^ 31 by omega)] at hP1 hD1
  rw [hx] at hP1 hD1
  rw [fk_upj] at hP1 hD1
  exact kk F h1 h2 H1 locs1 ls hl (hw ▸ hP1) (hw ▸ hD1) hS1
theorem fk_alen {a t0 : Nat} {cA : ClassId} {x : vp_A} {ty : FieldType} (q0 : Nat) (he : w[q0]? = some (a, .inl (cA, x))) (ht : (fk_ty E)[t0]? = some (cA, ty)) (d : decode M.1 pc = .ok (.arraylength, 1)) (kk : fk_V E M K n w (pc + 1) lv (.int (nI x.1) :: st)) : fk_V E M K n w pc lv (.ref a :: st) := by
  obtain ⟨p, l, e, s, m, args, below, meth, c, Q, A⟩ := K
  intro F h1 h2 H locs ls hl hP hD hS
  exact va_alen F.1 F.2.1 F.2.2.2.2.2.1 hP q0 t0 he ht rfl d (kk F h1 h2 H locs ls hl hP hD hS)
end FKV
/-! contracts in one form: args as, world w, then for some u with post u: answer r u, world w' u -/
def fk_Pre (E : fk_E) (as : List Value) (w : va_W) (sz : Nat) : Array Value → State → Prop := va_Pc as (fun U => U.heap.size = sz ∧ va_P E.1 fk_cl w U.heap ∧ va_K E.1 fk_cl (fk_ty E) U ∧ va_D (fun _ => True) w ∧ ∀ q ∈ fk_N, va_Nw q U)
def fk_B (E : fk_E) (A : Nat → Prop) (w : va_W) (t : State) : Prop := va_P E.1 fk_cl w t.heap ∧ va_K E.1 fk_cl (fk_ty E) t ∧ va_D A w
def fk_Q {S : Type} (r : S → Option Value) (post : S → Prop) (B : S → State → Prop) (A : Nat → Prop) : Array Value → State → Outcome → State → Prop := fun _ st oc t => (∃ u : S, oc = .returned (r u) ∧ post u ∧ B u t) ∧ va_F A st t
def fk_C (E : fk_E) (y : MethodName) (cc : ByteArray) (nL : Nat) (ret : Option FieldType) (d mc ms : Nat) (as : List Value) (w : va_W) {S : Type} (r : S → Option Value) (post : S → Prop) (w' : S → va_W) : Prop :=
  ∀ (l : Launch) (sz : Nat), Met l y (Cond.code y cc nL ret :: fk_G) (fk_rm d mc ms) (fk_Pre E as w sz) (fk_Q r post (fun u => fk_B E (va_A w sz) (w' u)) (va_A w sz)) mc ms (va_A w sz)
theorem fk_pre {s : State} {H : Heap} {E : fk_E} {as : List Value} {wc : va_W} {A : Nat → Prop} (hP : va_P E.1 fk_cl wc H) (hK : va_K E.1 fk_cl (fk_ty E) s) (hD : va_D A wc) (hN : ∀ q ∈ fk_N, va_Nw q s) : PreS s H (fk_Pre E as wc H.size) as :=
  ⟨fun a U g mk q => by
    obtain ⟨q0, q1, qP, qK, qD, qN⟩ := q
    exact ⟨q0, q1, qP, va_K.moved (u := U) (U := U.calling g mk a) (Vm.Alike.refl U.vm) qK, qD, fun x hx => fk_nS (u := U) (U := U.calling g mk a) rfl x hx (qN x hx)⟩,
   fun U hU hW => ⟨rfl, by rw [hU], by rw [hU]; exact hP, va_K.moved hW.alike hK, hD.weaken (fun _ _ _ _ => trivial), fun q hq => fk_nW hW q hq (hN q hq)⟩⟩
section FKC
variable {p : Program} {l : Launch} {e : Env} {R : Room} {s : State} {m : MethodId} {args : Array Value} {below : List Frame} {meth : Method} {c : Code} {H : Heap} {locs : List Loc} {cells slots : Nat} {Q : State → Prop}
variable {pc : Nat} {ls : Array Slot} {rest st0 : List Value} {a : Array Value} {A0 A1 : Nat → Prop} {H0 : Heap} {mc ms : Nat} {free : Addr → Prop}
theorem fk_go {S : Type} {r : S → Option Value} {post : S → Prop} {B : S → State → Prop} (hr : va_Run p l e R s m args below meth c H locs cells slots mc ms (F0 m pc ls st0) rest (fk_Q r post B A1 a) free) (hS : va_S A0 H0 H locs) (hA : ∀ q, q < H.size → A1 q → A0 q) (hf : ∀ q, free q → A0 q)
    (kk : ∀ (u : S) (t : State) (H1 : Heap) (locs1 : List Loc), t.heap = H1 → s.vm.Alike t.vm → post u → B u t → H.size ≤ H1.size → (∀ q : Nat, q < H.size → ¬ A1 q → H1[q]? = H[q]?) → va_S A0 H0 H1 locs1 → W p l e R s m args below meth c H1 locs1 (cells + mc) (slots + ms) Q (F0 m (pc + 3) ls ((r u).toList ++ rest))) : W p l e R s m args below meth c H locs cells slots Q (F0 m pc ls st0) := by
  intro T hT X
  obtain ⟨v, st₀, t, T', L, h0, X', hL, e1, e2, ⟨⟨u, hv, hp, hb⟩, hz, hk⟩, st⟩ := hr T hT X
  cases hv
  rw [h0] at hz hk
  have hS1 : va_S A0 H0 T'.heap (locs ++ L) := ⟨Nat.le_trans hS.1 (by rw [e1]; exact hz), fun q h1 h2 => by
      rw [e1, hk q (Nat.lt_of_lt_of_le h1 hS.1) (fun z => h2 (hA q (Nat.lt_of_lt_of_le h1 hS.1) z))]
      exact hS.2.1 q h1 h2, fun q hq => by
      rcases List.mem_append.mp hq with h | h
      · exact hS.2.2 q h
      · exact hf _ (hL q h)⟩
  obtain ⟨t2, a1, b1⟩ := kk u t T'.heap (locs ++ L) e1.symm (by rw [← e2]; exact X'.warmed.alike) hp hb (by rw [e1]; exact hz) (fun q h1 h2 => by rw [e1]; exact hk q h1 h2) hS1 T' rfl X'
  exact ⟨t2, st t2 a1, b1⟩
theorem fk_core {E : fk_E} {A : Nat → Prop} {w wc wr : va_W} {S : Type} {r : S → Option Value} {post : S → Prop} {w1 w2 : S → va_W} {is ir ip : List Nat}
    (hr : va_Run p l e R s m args below meth c H locs cells slots mc ms (F0 m pc ls st0) rest (fk_Q r post (fun u => fk_B E (va_A wc H.size) (w1 u)) (va_A wc H.size) a) (va_A wc H.size))
    (hA : ∀ q, s.heap.size ≤ q → A q) (hP : va_P E.1 fk_cl w H) (hD : va_D A w) (hS : va_S A s.heap H locs)
    (hC : is.map (fun i => w[i]?) = wc.map some) (hR : ir.map (fun i => w[i]?) = wr.map some) (hn : va_nd ir = true) (hd : ∀ i ∈ ir, i ∉ is) (hp : ∀ u, ip.map (fun i => (wr ++ w1 u)[i]?) = (w2 u).map some) (hq : va_nd ip = true)
    (kk : ∀ u, post u → ∀ (H1 : Heap) (locs1 : List Loc), va_P E.1 fk_cl (w2 u) H1 → va_D A (w2 u) → va_S A s.heap H1 locs1 → W p l e R s m args below meth c H1 locs1 (cells + mc) (slots + ms) Q (F0 m (pc + 3) ls ((r u).toList ++ rest))) :
    W p l e R s m args below meth c H locs cells slots Q (F0 m pc ls st0) := by
  have hF := va_free (wc := wc) hD hS hA is hC
  refine fk_go hr hS (fun q _ h => hF q h) hF (fun u t H1 locs1 ht hvm hpu hB hz hk hS1 => ?_)
  obtain ⟨hP1, hK1, hD1⟩ := hB
  rw [ht] at hP1
  obtain ⟨hP2, hD2⟩ := va_join hP hD is ir hC hR hn hd hk hF hP1 hD1
  have hs : ip.filterMap (fun i => (wr ++ w1 u)[i]?) = w2 u := by
    have e1 : ip.filterMap (fun i => (wr ++ w1 u)[i]?) = (ip.map (fun i => (wr ++ w1 u)[i]?)).filterMap id := by rw [List.filterMap_map]; rfl
    rw [e1, hp u, List.filterMap_map]
    show List.filterMap (fun x => some x) (w2 u) = w2 u
    exact List.filterMap_some ..
  exact kk u hpu H1 locs1 (hP2.sub ip hs) (hD2.sub ip hq (hp u)) hS1
end FKC
section FKD
variable {E : fk_E} {M : fk_M} {K : fk_K} {n : Nat × Nat} {w : va_W} {pc : Nat} {lv : List (Nat × Value)} {st : List Value}
variable {y : MethodName} {cc : ByteArray} {nL d mc ms index : Nat} {ret : Option FieldType} {As rest : List Value} {wc wr : va_W} {S : Type} {r : S → Option Value} {post : S → Prop} {w1 w2 : S → va_W} {is ir ip : List Nat} {b : Nat} {host : String}
/-- a method is called rightly: its descriptor has k parameters, its code is known, its class ready -/
def fk_Y (y : MethodName) (cc : ByteArray) (nL : Nat) (ret : Option FieldType) (k : Nat) : Prop := Cond.code y cc nL ret ∈ fk_G ∧ Cond.initialized y.cls ∈ fk_G ∧ y.cls ≠ "java/lang/invoke/MethodHandle" ∧ y.cls ≠ "java/lang/invoke/VarHandle" ∧ (parseMethodDescriptor y.desc).map (fun d => d.parameters.length) = some k
/-- the places: callee's cells is, the rest ir, the order behind the call ip -/
def fk_Pl (w wc wr : va_W) {S : Type} (w1 w2 : S → va_W) (is ir ip : List Nat) : Prop := is.map (fun i => w[i]?) = wc.map some ∧ ir.map (fun i => w[i]?) = wr.map some ∧ va_nd is = true ∧ va_nd ir = true ∧ (∀ i ∈ ir, i ∉ is) ∧ (∀ u, ip.map (fun i => (wr ++ w1 u)[i]?) = (w2 u).map some) ∧ va_nd ip = true
theorem fk_goodC (hY : Cond.code y cc nL ret ∈ fk_G) : GoodIn fk_G (Cond.code y cc nL ret :: fk_G) := fun w hw => by
  rcases List.mem_cons.mp hw with h | h
  · exact ⟨h ▸ hY, fk_good _ (h ▸ hY)⟩
  · exact ⟨h, fk_good _ h⟩
theorem fk_subP {w wc : va_W} {H : Heap} {is : List Nat} (hP : va_P E.1 fk_cl w H) (h : is.map (fun i => w[i]?) = wc.map some) : va_P E.1 fk_cl wc H := by
  refine hP.sub is ?_
  have e1 : is.filterMap (fun i => w[i]?) = (is.map (fun i => w[i]?)).filterMap id := by rw [List.filterMap_map]; rfl
  rw [e1, h, List.filterMap_map]
  show List.filterMap (fun x => some x) wc = wc
  exact List.filterMap_some ..
theorem fk_callS (hC : fk_C E y cc nL ret d mc ms As wc r post w1) (dc : decode M.1 pc = .ok (.invokestatic index, 3)) (hY : fk_Y y cc nL ret As.length) (hL : Cond.methodLink M.2.1 index y ∈ fk_G) (hs : Cond.static y ∈ fk_G) (hR : d + 1 ≤ M.2.2.2.frames ∧ 8 + (nL + 11) + 40 * d ≤ M.2.2.2.locals) (hst : st = As.reverse ++ rest) (hrm : (rest.map fun v => v.category).sum ≤ 8) (hf : n.1 + mc ≤ M.2.2.2.cells ∧ n.2 + ms ≤ M.2.2.2.slots) (hpl : fk_Pl w wc wr w1 w2 is ir ip) (kk : ∀ u, post u → fk_V E M K (n.1 + mc, n.2 + ms) (w2 u) (pc + 3) lv ((r u).toList ++ rest)) : fk_V E M K n w pc lv st := by
  obtain ⟨p, l, e, s, m, args, below, meth, c, Q, A⟩ := K
  intro F h1 h2 H locs ls hl hP hD hS
  obtain ⟨p1, p2, p3, p4, p5, p6, p7⟩ := hpl
  have hPc := fk_subP hP p1
  have hDc := hD.sub is p3 p1
  have hPre : PreS s H (fk_Pre E As wc H.size) As := fk_pre hPc F.2.2.2.2.2.1 hDc F.2.2.2.2.2.2.2
  have hG := fk_goodC hY.1
  have hin := F.2.2.2.2.1
  have hrun : va_Run p l e M.2.2.2 s m args below meth c H locs n.1 n.2 mc ms (F0 m pc ls st) rest _ _ := va_runS ⟨F.1, F.2.1, F.2.2.1, F.2.2.2.1, hin⟩ (hC l H.size) ⟨callB_of As.length hin hG rfl rfl rfl (hin _ hY.2.1) (hin _ hL) ⟨hY.2.2.1, hY.2.2.2.1, hY.2.2.2.2⟩ hR, hin _ hs⟩ hPre rfl rfl hl.1 hst (lv_room hrm) dc hf
  exact fk_core hrun F.2.2.2.2.2.2.1 hP hD hS p1 p2 p4 p5 p6 p7 (fun u hu H1 locs1 hP1 hD1 hS1 => kk u hu F hf.1 hf.2 H1 locs1 ls hl hP1 hD1 hS1)
theorem fk_callSN (hC : fk_C E y cc nL ret d mc ms As wc r post w1) (dc : decode M.1 pc = .ok (.invokestatic index, 3)) (hY : fk_Y y cc nL ret As.length) (hL : Cond.methodLinkNest M.2.1 index y host ∈ fk_N) (hs : Cond.static y ∈ fk_G) (hR : d + 1 ≤ M.2.2.2.frames ∧ 8 + (nL + 11) + 40 * d ≤ M.2.2.2.locals) (hst : st = As.reverse ++ rest) (hrm : (rest.map fun v => v.category).sum ≤ 8) (hf : n.1 + mc ≤ M.2.2.2.cells ∧ n.2 + ms ≤ M.2.2.2.slots) (hpl : fk_Pl w wc wr w1 w2 is ir ip) (kk : ∀ u, post u → fk_V E M K (n.1 + mc, n.2 + ms) (w2 u) (pc + 3) lv ((r u).toList ++ rest)) : fk_V E M K n w pc lv st := by
  obtain ⟨p, l, e, s, m, args, below, meth, c, Q, A⟩ := K
  intro F h1 h2 H locs ls hl hP hD hS
  obtain ⟨p1, p2, p3, p4, p5, p6, p7⟩ := hpl
  have hPc := fk_subP hP p1
  have hDc := hD.sub is p3 p1
  have hPre : PreS s H (fk_Pre E As wc H.size) As := fk_pre hPc F.2.2.2.2.2.1 hDc F.2.2.2.2.2.2.2
  have hG := fk_goodC hY.1
  have hin := F.2.2.2.2.1
  have hrun : va_Run p l e M.2.2.2 s m args below meth c H locs n.1 n.2 mc ms (F0 m pc ls st) rest _ _ := va_runSN ⟨F.1, F.2.1, F.2.2.1, F.2.2.2.1, hin⟩ (hC l H.size) ⟨va_cnB As.length hin hG rfl rfl rfl (F.2.2.2.2.2.2.2 _ hL) (hin _ hY.2.1) ⟨hY.2.2.1, hY.2.2.2.1, hY.2.2.2.2⟩ hR, hin _ hs, trivial⟩ hPre rfl rfl hl.1 hst (lv_room hrm) dc hf
  exact fk_core hrun F.2.2.2.2.2.2.1 hP hD hS p1 p2 p4 p5 p6 p7 (fun u hu H1 locs1 hP1 hD1 hS1 => kk u hu F hf.1 hf.2 H1 locs1 ls hl hP1 hD1 hS1)
theorem fk_callV (hC : fk_C E y cc nL ret d mc ms (.ref b :: As) wc r post w1) (dc : decode M.1 pc = .ok (.invokevirtual index, 3)) (hY : fk_Y y cc nL ret As.length) (hL : Cond.methodLink M.2.1 index y ∈ fk_G) {q0 ci : Nat} {fs : List Value} {C : String} {T : u_T} {N : Nat} (hb : w[q0]? = some (b, .inr (ci, fs))) (hc : fk_cl[ci]? = some (C, T, N)) (hi : Cond.instanceMethod y ∈ fk_G) (hs : Cond.selects C y y ∈ fk_G) (hR : d + 1 ≤ M.2.2.2.frames ∧ 8 + (nL + 11) + 40 * d ≤ M.2.2.2.locals) (hst : st = As.reverse ++ .ref b :: rest) (hrm : (rest.map fun v => v.category).sum ≤ 8) (hf : n.1 + mc ≤ M.2.2.2.cells ∧ n.2 + ms ≤ M.2.2.2.slots) (hpl : fk_Pl w wc wr w1 w2 is ir ip) (kk : ∀ u, post u → fk_V E M K (n.1 + mc, n.2 + ms) (w2 u) (pc + 3) lv ((r u).toList ++ rest)) : fk_V E M K n w pc lv st := by
  obtain ⟨p, l, e, s, m, args, below, meth, c, Q, A⟩ := K
  intro F h1 h2 H locs ls hl hP hD hS
  obtain ⟨p1, p2, p3, p4, p5, p6, p7⟩ := hpl
  have hPc := fk_subP hP p1
  have hDc := hD.sub is p3 p1
  have hPre : PreS s H (fk_Pre E (.ref b :: As) wc H.size) (.ref b :: As) := fk_pre hPc F.2.2.2.2.2.1 hDc F.2.2.2.2.2.2.2
  have hG := fk_goodC hY.1
  have hin := F.2.2.2.2.1
  have hrun : va_Run p l e M.2.2.2 s m args below meth c H locs n.1 n.2 mc ms (F0 m pc ls st) rest _ _ := va_runV (C := C) ⟨F.1, F.2.1, F.2.2.1, F.2.2.2.1, hin⟩ (hC l H.size) ⟨callB_of As.length hin hG rfl rfl rfl (hin _ hY.2.1) (hin _ hL) ⟨hY.2.2.1, hY.2.2.2.1, hY.2.2.2.2⟩ hR, hin _ hi, hin _ hs⟩ ⟨hPre.1, va_recv F.2.2.2.2.2.1 hP hc hb, hPre.2⟩ rfl rfl hl.1 hst (lv_room hrm) dc hf
  exact fk_core hrun F.2.2.2.2.2.2.1 hP hD hS p1 p2 p4 p5 p6 p7 (fun u hu H1 locs1 hP1 hD1 hS1 => kk u hu F hf.1 hf.2 H1 locs1 ls hl hP1 hD1 hS1)
theorem fk_callVN (hC : fk_C E y cc nL ret d mc ms (.ref b :: As) wc r post w1) (dc : decode M.1 pc = .ok (.invokevirtual index, 3)) (hY : fk_Y y cc nL ret As.length) (hL : Cond.methodLinkNest M.2.1 index y host ∈ fk_N) {q0 ci : Nat} {fs : List Value} {C : String} {T : u_T} {N : Nat} (hb : w[q0]? = some (b, .inr (ci, fs))) (hc : fk_cl[ci]? = some (C, T, N)) (hi : Cond.instanceMethod y ∈ fk_G) (hs : Cond.selects C y y ∈ fk_G) (hR : d + 1 ≤ M.2.2.2.frames ∧ 8 + (nL + 11) + 40 * d ≤ M.2.2.2.locals) (hst : st = As.reverse ++ .ref b :: rest) (hrm : (rest.map fun v => v.category).sum ≤ 8) (hf : n.1 + mc ≤ M.2.2.2.cells ∧ n.2 + ms ≤ M.2.2.2.slots) (hpl : fk_Pl w wc wr w1 w2 is ir ip) (kk : ∀ u, post u → fk_V E M K (n.1 + mc, n.2 + ms) (w2 u) (pc + 3) lv ((r u).toList ++ rest)) : fk_V E M K n w pc lv st := by
  obtain ⟨p, l, e, s, m, args, below, meth, c, Q, A⟩ := K
  intro F h1 h2 H locs ls hl hP hD hS
  obtain ⟨p1, p2, p3, p4, p5, p6, p7⟩ := hpl
  have hPc := fk_subP hP p1
  have hDc := hD.sub is p3 p1
  have hPre : PreS s H (fk_Pre E (.ref b :: As) wc H.size) (.ref b :: As) := fk_pre hPc F.2.2.2.2.2.1 hDc F.2.2.2.2.2.2.2
  have hG := fk_goodC hY.1
  have hin := F.2.2.2.2.1
  have hrun : va_Run p l e M.2.2.2 s m args below meth c H locs n.1 n.2 mc ms (F0 m pc ls st) rest _ _ := va_runVN (C := C) ⟨F.1, F.2.1, F.2.2.1, F.2.2.2.1, hin⟩ (hC l H.size) ⟨va_cnB As.length hin hG rfl rfl rfl (F.2.2.2.2.2.2.2 _ hL) (hin _ hY.2.1) ⟨hY.2.2.1, hY.2.2.2.1, hY.2.2.2.2⟩ hR, hin _ hi, hin _ hs⟩ ⟨hPre.1, va_recv F.2.2.2.2.2.1 hP hc hb, hPre.2⟩ rfl rfl hl.1 hst (lv_room hrm) dc hf
  exact fk_core hrun F.2.2.2.2.2.2.1 hP hD hS p1 p2 p4 p5 p6 p7 (fun u hu H1 locs1 hP1 hD1 hS1 => kk u hu F hf.1 hf.2 H1 locs1 ls hl hP1 hD1 hS1)
end FKD
section FKI
variable {E : fk_E} {M : fk_M} {K : fk_K} {n : Nat × Nat} {w : va_W} {pc : Nat} {lv : List (Nat × Value)} {st : List Value}
variable {y : MethodName} {cc : ByteArray} {nL d mc ms index : Nat} {As rest : List Value} {wc wr : va_W} {S : Type} {r : S → Option Value} {post : S → Prop} {w1 w2 : S → va_W} {is ir ip : List Nat} {b : Nat} {host : String}
theorem fk_callI (hC : fk_C E y cc nL none d mc ms (.ref b :: As) wc r post w1) (dc : decode M.1 pc = .ok (.invokespecial index, 3)) (hY : fk_Y y cc nL none As.length) (hL : Cond.methodLink M.2.1 index y ∈ fk_G) (hnm : y.name = "<init>") (hi : Cond.instanceMethod y ∈ fk_G) (hR : d + 1 ≤ M.2.2.2.frames ∧ 8 + (nL + 11) + 40 * d ≤ M.2.2.2.locals) (hst : st = As.reverse ++ .ref b :: rest) (hrm : (rest.map fun v => v.category).sum ≤ 8) (hf : n.1 + mc ≤ M.2.2.2.cells ∧ n.2 + ms ≤ M.2.2.2.slots) (hpl : fk_Pl w wc wr w1 w2 is ir ip) (kk : ∀ u, post u → fk_V E M K (n.1 + mc, n.2 + ms) (w2 u) (pc + 3) lv ((r u).toList ++ rest)) : fk_V E M K n w pc lv st := by
  obtain ⟨p, l, e, s, m, args, below, meth, c, Q, A⟩ := K
  intro F h1 h2 H locs ls hl hP hD hS
  obtain ⟨p1, p2, p3, p4, p5, p6, p7⟩ := hpl
  have hPc := fk_subP hP p1
  have hDc := hD.sub is p3 p1
  have hPre : PreS s H (fk_Pre E (.ref b :: As) wc H.size) (.ref b :: As) := fk_pre hPc F.2.2.2.2.2.1 hDc F.2.2.2.2.2.2.2
  have hG := fk_goodC hY.1
  have hin := F.2.2.2.2.1
  have hrun : va_Run p l e M.2.2.2 s m args below meth c H locs n.1 n.2 mc ms (F0 m pc ls st) rest _ _ := va_runI ⟨F.1, F.2.1, F.2.2.1, F.2.2.2.1, hin⟩ (hC l H.size) ⟨callB_of As.length hin hG rfl rfl rfl (hin _ hY.2.1) (hin _ hL) ⟨hY.2.2.1, hY.2.2.2.1, hY.2.2.2.2⟩ hR, hnm, hin _ hi⟩ hPre rfl rfl hl.1 hst (lv_room hrm) dc hf
  exact fk_core hrun F.2.2.2.2.2.2.1 hP hD hS p1 p2 p4 p5 p6 p7 (fun u hu H1 locs1 hP1 hD1 hS1 => kk u hu F hf.1 hf.2 H1 locs1 ls hl hP1 hD1 hS1)
end FKI
theorem fk_enterI {E : fk_E} {y : MethodName} {cc : ByteArray} {nL d mc ms : Nat} {as : List Value} {w : va_W} {S : Type} {v : S → Int32} {post : S → Prop} {w' : S → va_W} {lv0 : List (Nat × Value)} (hy : plainName y.cls = true) (hlen : (lg_sl as).length ≤ nL) (hlv : lv_args 0 as = lv0)
    (body : ∀ K : fk_K, (y.name = "<init>" → fk_isInit K) → (∀ (n : Nat × Nat) (w : va_W) (pc : Nat) (lv : List (Nat × Value)) (u : S), decode cc pc = .ok (.ireturn, 1) → post u → w = w' u → fk_V E (cc, y.cls, nL, fk_rm d mc ms) K n w pc lv [.int (v u)]) → fk_V E (cc, y.cls, nL, fk_rm d mc ms) K (0, 0) w 0 lv0 []) :
    fk_C E y cc nL (some .int) d mc ms as w (fun u => some (.int (v u))) post w' := by
  intro l sz
  refine Met.ofW (cc := cc) (maxL := nL) (ret := (some .int)) hy rfl ?_
  intro p e s m args below meth c s₁ B hml hv
  obtain ⟨rfl, hsz, hP, hK, hD0, hN⟩ := hv
  subst hsz
  have hts := atoms_spec (ws := Cond.code y cc nL (some .int) :: fk_G) B.pre
  have hown : s.vm.findClass y.cls = some m.cls := findClass_of_methodNamed B.named
  have hlocks := B.notSynchronized
  have hD := hD0.self (sz := s.heap.size)
  have hl := lv_entry as (n := nL) hlen
  rw [hlv] at hl
  rw [lg_entry_eq]
  refine body (p, l, e, s, m, as.toArray, below, meth, c, MQ below (fk_Q (fun u => some (.int (v u))) post (fun u => fk_B E (va_A w s.heap.size) (w' u)) (va_A w s.heap.size)) as.toArray s mc ms (va_A w s.heap.size), va_A w s.heap.size) (fun h => by show meth.name = "<init>"; rw [← h]; exact (name_of_methodNamed B.named B.method).1) ?_ ⟨B.exec, B.bytes, hml, hown, fun q hq => hts q (List.mem_cons_of_mem _ hq), hK, fun q hq => Or.inr hq, hN⟩ (Nat.zero_le _) (Nat.zero_le _) s.heap [] _ hl hP hD va_S.rf
  intro n w9 pc lv u hdg hu hw F h1 h2 H locs ls hl hP hD hS
  subst hw
  refine W.widen (k := mc) (n := ms) h1 h2 ?_
  exact W.iret F.1 F.2.1 B.returns (fun t ht hW => ⟨⟨u, rfl, hu, by rw [ht]; exact hP, va_K.moved hW.alike F.2.2.2.2.2.1, hD⟩, hS.F ht⟩) hS.2.2 hdg
theorem fk_enterZ {E : fk_E} {y : MethodName} {cc : ByteArray} {nL d mc ms : Nat} {as : List Value} {w : va_W} {S : Type} {v : S → Bool} {post : S → Prop} {w' : S → va_W} {lv0 : List (Nat × Value)} (hy : plainName y.cls = true) (hlen : (lg_sl as).length ≤ nL) (hlv : lv_args 0 as = lv0)
    (body : ∀ K : fk_K, (y.name = "<init>" → fk_isInit K) → (∀ (n : Nat × Nat) (w : va_W) (pc : Nat) (lv : List (Nat × Value)) (u : S), decode cc pc = .ok (.ireturn, 1) → post u → w = w' u → fk_V E (cc, y.cls, nL, fk_rm d mc ms) K n w pc lv [.int (nI (v u).toNat)]) → fk_V E (cc, y.cls, nL, fk_rm d mc ms) K (0, 0) w 0 lv0 []) :
    fk_C E y cc nL (some .boolean) d mc ms as w (fun u => some (.int (nI (v u).toNat))) post w' := by
  intro l sz
  refine Met.ofW (cc := cc) (maxL := nL) (ret := (some .boolean)) hy rfl ?_
  intro p e s m args below meth c s₁ B hml hv
  obtain ⟨rfl, hsz, hP, hK, hD0, hN⟩ := hv
  subst hsz
  have hts := atoms_spec (ws := Cond.code y cc nL (some .boolean) :: fk_G) B.pre
  have hown : s.vm.findClass y.cls = some m.cls := findClass_of_methodNamed B.named
  have hlocks := B.notSynchronized
  have hD := hD0.self (sz := s.heap.size)
  have hl := lv_entry as (n := nL) hlen
  rw [hlv] at hl
  rw [lg_entry_eq]
  refine body (p, l, e, s, m, as.toArray, below, meth, c, MQ below (fk_Q (fun u => some (.int (nI (v u).toNat))) post (fun u => fk_B E (va_A w s.heap.size) (w' u)) (va_A w s.heap.size)) as.toArray s mc ms (va_A w s.heap.size), va_A w s.heap.size) (fun h => by show meth.name = "<init>"; rw [← h]; exact (name_of_methodNamed B.named B.method).1) ?_ ⟨B.exec, B.bytes, hml, hown, fun q hq => hts q (List.mem_cons_of_mem _ hq), hK, fun q hq => Or.inr hq, hN⟩ (Nat.zero_le _) (Nat.zero_le _) s.heap [] _ hl hP hD va_S.rf
  intro n w9 pc lv u hdg hu hw F h1 h2 H locs ls hl hP hD hS
  subst hw
  refine W.widen (k := mc) (n := ms) h1 h2 ?_
  exact W.zret F.1 F.2.1 B.returns (by cases v u <;> rfl) (fun t ht hW => ⟨⟨u, rfl, hu, by rw [ht]; exact hP, va_K.moved hW.alike F.2.2.2.2.2.1, hD⟩, hS.F ht⟩) hS.2.2 hdg
theorem fk_enterL {E : fk_E} {y : MethodName} {cc : ByteArray} {nL d mc ms : Nat} {as : List Value} {w : va_W} {S : Type} {v : S → Int64} {post : S → Prop} {w' : S → va_W} {lv0 : List (Nat × Value)} (hy : plainName y.cls = true) (hlen : (lg_sl as).length ≤ nL) (hlv : lv_args 0 as = lv0)
    (body : ∀ K : fk_K, (y.name = "<init>" → fk_isInit K) → (∀ (n : Nat × Nat) (w : va_W) (pc : Nat) (lv : List (Nat × Value)) (u : S), decode cc pc = .ok (.lreturn, 1) → post u → w = w' u → fk_V E (cc, y.cls, nL, fk_rm d mc ms) K n w pc lv [.long (v u)]) → fk_V E (cc, y.cls, nL, fk_rm d mc ms) K (0, 0) w 0 lv0 []) :
    fk_C E y cc nL (some .long) d mc ms as w (fun u => some (.long (v u))) post w' := by
  intro l sz
  refine Met.ofW (cc := cc) (maxL := nL) (ret := (some .long)) hy rfl ?_
  intro p e s m args below meth c s₁ B hml hv
  obtain ⟨rfl, hsz, hP, hK, hD0, hN⟩ := hv
  subst hsz
  have hts := atoms_spec (ws := Cond.code y cc nL (some .long) :: fk_G) B.pre
  have hown : s.vm.findClass y.cls = some m.cls := findClass_of_methodNamed B.named
  have hlocks := B.notSynchronized
  have hD := hD0.self (sz := s.heap.size)
  have hl := lv_entry as (n := nL) hlen
  rw [hlv] at hl
  rw [lg_entry_eq]
  refine body (p, l, e, s, m, as.toArray, below, meth, c, MQ below (fk_Q (fun u => some (.long (v u))) post (fun u => fk_B E (va_A w s.heap.size) (w' u)) (va_A w s.heap.size)) as.toArray s mc ms (va_A w s.heap.size), va_A w s.heap.size) (fun h => by show meth.name = "<init>"; rw [← h]; exact (name_of_methodNamed B.named B.method).1) ?_ ⟨B.exec, B.bytes, hml, hown, fun q hq => hts q (List.mem_cons_of_mem _ hq), hK, fun q hq => Or.inr hq, hN⟩ (Nat.zero_le _) (Nat.zero_le _) s.heap [] _ hl hP hD va_S.rf
  intro n w9 pc lv u hdg hu hw F h1 h2 H locs ls hl hP hD hS
  subst hw
  refine W.widen (k := mc) (n := ms) h1 h2 ?_
  exact W.lret F.1 F.2.1 B.returns (fun t ht hW => ⟨⟨u, rfl, hu, by rw [ht]; exact hP, va_K.moved hW.alike F.2.2.2.2.2.1, hD⟩, hS.F ht⟩) hS.2.2 hdg
theorem fk_enterV {E : fk_E} {y : MethodName} {cc : ByteArray} {nL d mc ms : Nat} {as : List Value} {w : va_W} {S : Type} {post : S → Prop} {w' : S → va_W} {lv0 : List (Nat × Value)} (hy : plainName y.cls = true) (hlen : (lg_sl as).length ≤ nL) (hlv : lv_args 0 as = lv0)
    (body : ∀ K : fk_K, (y.name = "<init>" → fk_isInit K) → (∀ (n : Nat × Nat) (w : va_W) (pc : Nat) (lv : List (Nat × Value)) (u : S), decode cc pc = .ok (.return_, 1) → post u → w = w' u → fk_V E (cc, y.cls, nL, fk_rm d mc ms) K n w pc lv []) → fk_V E (cc, y.cls, nL, fk_rm d mc ms) K (0, 0) w 0 lv0 []) :
    fk_C E y cc nL none d mc ms as w (fun _ => none) post w' := by
  intro l sz
  refine Met.ofW (cc := cc) (maxL := nL) (ret := none) hy rfl ?_
  intro p e s m args below meth c s₁ B hml hv
  obtain ⟨rfl, hsz, hP, hK, hD0, hN⟩ := hv
  subst hsz
  have hts := atoms_spec (ws := Cond.code y cc nL none :: fk_G) B.pre
  have hown : s.vm.findClass y.cls = some m.cls := findClass_of_methodNamed B.named
  have hlocks := B.notSynchronized
  have hD := hD0.self (sz := s.heap.size)
  have hl := lv_entry as (n := nL) hlen
  rw [hlv] at hl
  rw [lg_entry_eq]
  refine body (p, l, e, s, m, as.toArray, below, meth, c, MQ below (fk_Q (fun _ => none) post (fun u => fk_B E (va_A w s.heap.size) (w' u)) (va_A w s.heap.size)) as.toArray s mc ms (va_A w s.heap.size), va_A w s.heap.size) (fun h => by show meth.name = "<init>"; rw [← h]; exact (name_of_methodNamed B.named B.method).1) ?_ ⟨B.exec, B.bytes, hml, hown, fun q hq => hts q (List.mem_cons_of_mem _ hq), hK, fun q hq => Or.inr hq, hN⟩ (Nat.zero_le _) (Nat.zero_le _) s.heap [] _ hl hP hD va_S.rf
  intro n w9 pc lv u hdg hu hw F h1 h2 H locs ls hl hP hD hS
  subst hw
  refine W.widen (k := mc) (n := ms) h1 h2 ?_
  exact W.vret F.1 F.2.1 B.returns (fun t ht hW => ⟨⟨u, rfl, hu, by rw [ht]; exact hP, va_K.moved hW.alike F.2.2.2.2.2.1, hD⟩, hS.F ht⟩) hS.2.2 hdg
theorem fk_enterA {E : fk_E} {y : MethodName} {cc : ByteArray} {nL d mc ms : Nat} {as : List Value} {w : va_W} {S : Type} {v : S → Value} {C : String} {post : S → Prop} {w' : S → va_W} {lv0 : List (Nat × Value)} (hv9 : ∀ u, v u = .null ∨ ∃ a, v u = .ref a) (hy : plainName y.cls = true) (hlen : (lg_sl as).length ≤ nL) (hlv : lv_args 0 as = lv0)
    (body : ∀ K : fk_K, (y.name = "<init>" → fk_isInit K) → (∀ (n : Nat × Nat) (w : va_W) (pc : Nat) (lv : List (Nat × Value)) (u : S), decode cc pc = .ok (.areturn, 1) → post u → w = w' u → fk_V E (cc, y.cls, nL, fk_rm d mc ms) K n w pc lv [v u]) → fk_V E (cc, y.cls, nL, fk_rm d mc ms) K (0, 0) w 0 lv0 []) :
    fk_C E y cc nL (some (.object C)) d mc ms as w (fun u => some (v u)) post w' := by
  intro l sz
  refine Met.ofW (cc := cc) (maxL := nL) (ret := (some (.object C))) hy rfl ?_
  intro p e s m args below meth c s₁ B hml hv
  obtain ⟨rfl, hsz, hP, hK, hD0, hN⟩ := hv
  subst hsz
  have hts := atoms_spec (ws := Cond.code y cc nL (some (.object C)) :: fk_G) B.pre
  have hown : s.vm.findClass y.cls = some m.cls := findClass_of_methodNamed B.named
  have hlocks := B.notSynchronized
  have hD := hD0.self (sz := s.heap.size)
  have hl := lv_entry as (n := nL) hlen
  rw [hlv] at hl
  rw [lg_entry_eq]
  refine body (p, l, e, s, m, as.toArray, below, meth, c, MQ below (fk_Q (fun u => some (v u)) post (fun u => fk_B E (va_A w s.heap.size) (w' u)) (va_A w s.heap.size)) as.toArray s mc ms (va_A w s.heap.size), va_A w s.heap.size) (fun h => by show meth.name = "<init>"; rw [← h]; exact (name_of_methodNamed B.named B.method).1) ?_ ⟨B.exec, B.bytes, hml, hown, fun q hq => hts q (List.mem_cons_of_mem _ hq), hK, fun q hq => Or.inr hq, hN⟩ (Nat.zero_le _) (Nat.zero_le _) s.heap [] _ hl hP hD va_S.rf
  intro n w9 pc lv u hdg hu hw F h1 h2 H locs ls hl hP hD hS
  subst hw
  refine W.widen (k := mc) (n := ms) h1 h2 ?_
  exact W.aret F.1 F.2.1 B.returns (Or.inl ⟨_, rfl⟩) (hv9 u) (fun t ht hW => ⟨⟨u, rfl, hu, by rw [ht]; exact hP, va_K.moved hW.alike F.2.2.2.2.2.1, hD⟩, hS.F ht⟩) hS.2.2 hdg
end
section
/-! the words of the tables, a row each -/
theorem fk_tab {w : Cond} (h : w ∈ tables_1) : w ∈ lw_tbl := List.mem_append_right _ h
theorem fk_sel {q : MethodName × Nat} (h : q ∈ lw_privs) : Cond.selects q.1.cls q.1 q.1 ∈ fk_G := fk_in (List.mem_append_left _ (List.mem_map.mpr ⟨q, h, rfl⟩)) rfl
theorem fw_0 : Jvm.Cond.initialized "FootprintNetLaw" ∈ fk_G := fk_in (fk_tab (List.mem_of_getElem? (i := 0) (by decide +kernel))) rfl
theorem fw_1 : Jvm.Cond.initialized "FootprintNet" ∈ fk_G := fk_in (fk_tab (List.mem_of_getElem? (i := 1) (by decide +kernel))) rfl
theorem fw_2 : Jvm.Cond.initialized "FootprintNet$Log" ∈ fk_G := fk_in (fk_tab (List.mem_of_getElem? (i := 2) (by decide +kernel))) rfl
theorem fw_3 : Jvm.Cond.initialized "FootprintNet$Net" ∈ fk_G := fk_in (fk_tab (List.mem_of_getElem? (i := 3) (by decide +kernel))) rfl
theorem fw_4 : Jvm.Cond.initialized "FootprintNet$Miner" ∈ fk_G := fk_in (fk_tab (List.mem_of_getElem? (i := 4) (by decide +kernel))) rfl
theorem fw_5 : Jvm.Cond.initialized "FootprintNet$Reach" ∈ fk_G := fk_in (fk_tab (List.mem_of_getElem? (i := 5) (by decide +kernel))) rfl
theorem fw_6 : Jvm.Cond.initialized "FootprintNet$Player" ∈ fk_G := fk_in (fk_tab (List.mem_of_getElem? (i := 6) (by decide +kernel))) rfl
theorem fw_7 : Jvm.Cond.initialized "FootprintNetModel" ∈ fk_G := fk_in (fk_tab (List.mem_of_getElem? (i := 7) (by decide +kernel))) rfl
theorem fw_8 : Jvm.Cond.initialized "java/util/Arrays" ∈ fk_G := fk_in (fk_tab (List.mem_of_getElem? (i := 8) (by decide +kernel))) rfl
theorem fw_9 : Jvm.Cond.initialized "java/lang/Integer" ∈ fk_G := fk_in (fk_tab (List.mem_of_getElem? (i := 9) (by decide +kernel))) rfl
theorem fw_10 : Jvm.Cond.classLink "FootprintNetLaw" (7 : Nat) "FootprintNet" ∈ fk_G := fk_in (fk_tab (List.mem_of_getElem? (i := 10) (by decide +kernel))) rfl
theorem fw_11 : Jvm.Cond.instantiable "FootprintNet" (6 : Nat) ∈ fk_G := fk_in (fk_tab (List.mem_of_getElem? (i := 11) (by decide +kernel))) rfl
theorem fw_12 : Jvm.Cond.methodLink "FootprintNetLaw" (9 : Nat) fy_F_init ∈ fk_G := fk_in (fk_tab (List.mem_of_getElem? (i := 12) (by decide +kernel))) rfl
theorem fw_13 : Jvm.Cond.instanceMethod fy_F_init ∈ fk_G := fk_in (fk_tab (List.mem_of_getElem? (i := 13) (by decide +kernel))) rfl
theorem fw_14 : Jvm.Cond.code fy_F_init prog_1_method_1_code (1 : Nat) (Option.none : Option Jvm.ClassFile.FieldType) ∈ fk_G := fk_in (fk_tab (List.mem_of_getElem? (i := 14) (by decide +kernel))) rfl
theorem fw_15 : Jvm.Cond.methodLink "FootprintNet" (3 : Nat) fy_Ob_init ∈ fk_G := fk_in (fk_tab (List.mem_of_getElem? (i := 15) (by decide +kernel))) rfl
theorem fw_16 : Jvm.Cond.instanceMethod fy_Ob_init ∈ fk_G := fk_in (fk_tab (List.mem_of_getElem? (i := 16) (by decide +kernel))) rfl
theorem fw_17 : Jvm.Cond.code fy_Ob_init object_method_1_code (1 : Nat) (Option.none : Option Jvm.ClassFile.FieldType) ∈ fk_G := fk_in (fk_tab (List.mem_of_getElem? (i := 17) (by decide +kernel))) rfl
theorem fw_18 : Jvm.Cond.classLink "FootprintNet" (9 : Nat) "FootprintNet$Log" ∈ fk_G := fk_in (fk_tab (List.mem_of_getElem? (i := 18) (by decide +kernel))) rfl
theorem fw_19 : Jvm.Cond.instantiable "FootprintNet$Log" (4 : Nat) ∈ fk_G := fk_in (fk_tab (List.mem_of_getElem? (i := 19) (by decide +kernel))) rfl
theorem fw_20 : Jvm.Cond.methodLink "FootprintNet" (11 : Nat) fy_Lg_init ∈ fk_G := fk_in (fk_tab (List.mem_of_getElem? (i := 20) (by decide +kernel))) rfl
theorem fw_21 : Jvm.Cond.instanceMethod fy_Lg_init ∈ fk_G := fk_in (fk_tab (List.mem_of_getElem? (i := 21) (by decide +kernel))) rfl
theorem fw_22 : Jvm.Cond.code fy_Lg_init prog_2_method_1_code (1 : Nat) (Option.none : Option Jvm.ClassFile.FieldType) ∈ fk_G := fk_in (fk_tab (List.mem_of_getElem? (i := 22) (by decide +kernel))) rfl
theorem fw_23 : Jvm.Cond.methodLink "FootprintNet$Log" (3 : Nat) fy_Ob_init ∈ fk_G := fk_in (fk_tab (List.mem_of_getElem? (i := 23) (by decide +kernel))) rfl
theorem fw_24 : Jvm.Cond.fieldLink "FootprintNet$Log" (9 : Nat) "FootprintNet$Log" "lengths" "[I" ∈ fk_G := fk_in (fk_tab (List.mem_of_getElem? (i := 24) (by decide +kernel))) rfl
theorem fw_25 : Jvm.Cond.fieldLink "FootprintNet$Log" (15 : Nat) "FootprintNet$Log" "events" "[I" ∈ fk_G := fk_in (fk_tab (List.mem_of_getElem? (i := 25) (by decide +kernel))) rfl
theorem fw_26 : Jvm.Cond.fieldLink "FootprintNet$Log" (18 : Nat) "FootprintNet$Log" "followers" "[I" ∈ fk_G := fk_in (fk_tab (List.mem_of_getElem? (i := 26) (by decide +kernel))) rfl
theorem fw_27 : Jvm.Cond.fieldLink "FootprintNet$Log" (21 : Nat) "FootprintNet$Log" "traces" "I" ∈ fk_G := fk_in (fk_tab (List.mem_of_getElem? (i := 27) (by decide +kernel))) rfl
theorem fw_28 : Jvm.Cond.laysFinal "FootprintNet$Log" "FootprintNet$Log" "lengths" "[I" ∈ fk_G := fk_in (fk_tab (List.mem_of_getElem? (i := 28) (by decide +kernel))) rfl
theorem fw_29 : Jvm.Cond.soleField "FootprintNet$Log" "lengths" ∈ fk_G := fk_in (fk_tab (List.mem_of_getElem? (i := 29) (by decide +kernel))) rfl
theorem fw_30 : Jvm.Cond.laysFinal "FootprintNet$Log" "FootprintNet$Log" "events" "[I" ∈ fk_G := fk_in (fk_tab (List.mem_of_getElem? (i := 30) (by decide +kernel))) rfl
theorem fw_31 : Jvm.Cond.soleField "FootprintNet$Log" "events" ∈ fk_G := fk_in (fk_tab (List.mem_of_getElem? (i := 31) (by decide +kernel))) rfl
theorem fw_32 : Jvm.Cond.laysFinal "FootprintNet$Log" "FootprintNet$Log" "followers" "[I" ∈ fk_G := fk_in (fk_tab (List.mem_of_getElem? (i := 32) (by decide +kernel))) rfl
theorem fw_33 : Jvm.Cond.soleField "FootprintNet$Log" "followers" ∈ fk_G := fk_in (fk_tab (List.mem_of_getElem? (i := 33) (by decide +kernel))) rfl
theorem fw_34 : Jvm.Cond.lays "FootprintNet$Log" "FootprintNet$Log" "traces" "I" ∈ fk_G := fk_in (fk_tab (List.mem_of_getElem? (i := 34) (by decide +kernel))) rfl
theorem fw_35 : Jvm.Cond.soleField "FootprintNet$Log" "traces" ∈ fk_G := fk_in (fk_tab (List.mem_of_getElem? (i := 35) (by decide +kernel))) rfl
theorem fw_36 : Jvm.Cond.superclass "FootprintNet$Log" "java/lang/Object" ∈ fk_G := fk_in (fk_tab (List.mem_of_getElem? (i := 36) (by decide +kernel))) rfl
theorem fw_37 : Jvm.Cond.arrayClass Jvm.ClassFile.FieldType.int ∈ fk_G := fk_in (fk_tab (List.mem_of_getElem? (i := 37) (by decide +kernel))) rfl
theorem fw_38 : Jvm.Cond.classLink "FootprintNet" (16 : Nat) "FootprintNet$Net" ∈ fk_G := fk_in (fk_tab (List.mem_of_getElem? (i := 38) (by decide +kernel))) rfl
theorem fw_39 : Jvm.Cond.instantiable "FootprintNet$Net" (9 : Nat) ∈ fk_G := fk_in (fk_tab (List.mem_of_getElem? (i := 39) (by decide +kernel))) rfl
theorem fw_40 : Jvm.Cond.methodLink "FootprintNet" (18 : Nat) fy_Nt_init ∈ fk_G := fk_in (fk_tab (List.mem_of_getElem? (i := 40) (by decide +kernel))) rfl
theorem fw_41 : Jvm.Cond.instanceMethod fy_Nt_init ∈ fk_G := fk_in (fk_tab (List.mem_of_getElem? (i := 41) (by decide +kernel))) rfl
theorem fw_42 : Jvm.Cond.code fy_Nt_init prog_4_method_1_code (1 : Nat) (Option.none : Option Jvm.ClassFile.FieldType) ∈ fk_G := fk_in (fk_tab (List.mem_of_getElem? (i := 42) (by decide +kernel))) rfl
theorem fw_43 : Jvm.Cond.methodLink "FootprintNet$Net" (3 : Nat) fy_Ob_init ∈ fk_G := fk_in (fk_tab (List.mem_of_getElem? (i := 43) (by decide +kernel))) rfl
theorem fw_44 : Jvm.Cond.fieldLink "FootprintNet$Net" (9 : Nat) "FootprintNet$Net" "ins" "[I" ∈ fk_G := fk_in (fk_tab (List.mem_of_getElem? (i := 44) (by decide +kernel))) rfl
theorem fw_45 : Jvm.Cond.fieldLink "FootprintNet$Net" (15 : Nat) "FootprintNet$Net" "outs" "[I" ∈ fk_G := fk_in (fk_tab (List.mem_of_getElem? (i := 45) (by decide +kernel))) rfl
theorem fw_46 : Jvm.Cond.fieldLink "FootprintNet$Net" (18 : Nat) "FootprintNet$Net" "takes" "[J" ∈ fk_G := fk_in (fk_tab (List.mem_of_getElem? (i := 46) (by decide +kernel))) rfl
theorem fw_47 : Jvm.Cond.fieldLink "FootprintNet$Net" (22 : Nat) "FootprintNet$Net" "puts" "[J" ∈ fk_G := fk_in (fk_tab (List.mem_of_getElem? (i := 47) (by decide +kernel))) rfl
theorem fw_48 : Jvm.Cond.fieldLink "FootprintNet$Net" (25 : Nat) "FootprintNet$Net" "count" "I" ∈ fk_G := fk_in (fk_tab (List.mem_of_getElem? (i := 48) (by decide +kernel))) rfl
theorem fw_49 : Jvm.Cond.fieldLink "FootprintNet$Net" (29 : Nat) "FootprintNet$Net" "first" "I" ∈ fk_G := fk_in (fk_tab (List.mem_of_getElem? (i := 49) (by decide +kernel))) rfl
theorem fw_50 : Jvm.Cond.fieldLink "FootprintNet$Net" (32 : Nat) "FootprintNet$Net" "last" "I" ∈ fk_G := fk_in (fk_tab (List.mem_of_getElem? (i := 50) (by decide +kernel))) rfl
theorem fw_51 : Jvm.Cond.fieldLink "FootprintNet$Net" (35 : Nat) "FootprintNet$Net" "loose" "I" ∈ fk_G := fk_in (fk_tab (List.mem_of_getElem? (i := 51) (by decide +kernel))) rfl
theorem fw_52 : Jvm.Cond.fieldLink "FootprintNet$Net" (38 : Nat) "FootprintNet$Net" "members" "I" ∈ fk_G := fk_in (fk_tab (List.mem_of_getElem? (i := 52) (by decide +kernel))) rfl
theorem fw_53 : Jvm.Cond.laysFinal "FootprintNet$Net" "FootprintNet$Net" "ins" "[I" ∈ fk_G := fk_in (fk_tab (List.mem_of_getElem? (i := 53) (by decide +kernel))) rfl
theorem fw_54 : Jvm.Cond.soleField "FootprintNet$Net" "ins" ∈ fk_G := fk_in (fk_tab (List.mem_of_getElem? (i := 54) (by decide +kernel))) rfl
theorem fw_55 : Jvm.Cond.laysFinal "FootprintNet$Net" "FootprintNet$Net" "outs" "[I" ∈ fk_G := fk_in (fk_tab (List.mem_of_getElem? (i := 55) (by decide +kernel))) rfl
theorem fw_56 : Jvm.Cond.soleField "FootprintNet$Net" "outs" ∈ fk_G := fk_in (fk_tab (List.mem_of_getElem? (i := 56) (by decide +kernel))) rfl
theorem fw_57 : Jvm.Cond.laysFinal "FootprintNet$Net" "FootprintNet$Net" "takes" "[J" ∈ fk_G := fk_in (fk_tab (List.mem_of_getElem? (i := 57) (by decide +kernel))) rfl
theorem fw_58 : Jvm.Cond.soleField "FootprintNet$Net" "takes" ∈ fk_G := fk_in (fk_tab (List.mem_of_getElem? (i := 58) (by decide +kernel))) rfl
theorem fw_59 : Jvm.Cond.laysFinal "FootprintNet$Net" "FootprintNet$Net" "puts" "[J" ∈ fk_G := fk_in (fk_tab (List.mem_of_getElem? (i := 59) (by decide +kernel))) rfl
theorem fw_60 : Jvm.Cond.soleField "FootprintNet$Net" "puts" ∈ fk_G := fk_in (fk_tab (List.mem_of_getElem? (i := 60) (by decide +kernel))) rfl
theorem fw_61 : Jvm.Cond.lays "FootprintNet$Net" "FootprintNet$Net" "count" "I" ∈ fk_G := fk_in (fk_tab (List.mem_of_getElem? (i := 61) (by decide +kernel))) rfl
theorem fw_62 : Jvm.Cond.soleField "FootprintNet$Net" "count" ∈ fk_G := fk_in (fk_tab (List.mem_of_getElem? (i := 62) (by decide +kernel))) rfl
theorem fw_63 : Jvm.Cond.lays "FootprintNet$Net" "FootprintNet$Net" "first" "I" ∈ fk_G := fk_in (fk_tab (List.mem_of_getElem? (i := 63) (by decide +kernel))) rfl
theorem fw_64 : Jvm.Cond.soleField "FootprintNet$Net" "first" ∈ fk_G := fk_in (fk_tab (List.mem_of_getElem? (i := 64) (by decide +kernel))) rfl
theorem fw_65 : Jvm.Cond.lays "FootprintNet$Net" "FootprintNet$Net" "last" "I" ∈ fk_G := fk_in (fk_tab (List.mem_of_getElem? (i := 65) (by decide +kernel))) rfl
theorem fw_66 : Jvm.Cond.soleField "FootprintNet$Net" "last" ∈ fk_G := fk_in (fk_tab (List.mem_of_getElem? (i := 66) (by decide +kernel))) rfl
theorem fw_67 : Jvm.Cond.lays "FootprintNet$Net" "FootprintNet$Net" "loose" "I" ∈ fk_G := fk_in (fk_tab (List.mem_of_getElem? (i := 67) (by decide +kernel))) rfl
theorem fw_68 : Jvm.Cond.soleField "FootprintNet$Net" "loose" ∈ fk_G := fk_in (fk_tab (List.mem_of_getElem? (i := 68) (by decide +kernel))) rfl
theorem fw_69 : Jvm.Cond.lays "FootprintNet$Net" "FootprintNet$Net" "members" "I" ∈ fk_G := fk_in (fk_tab (List.mem_of_getElem? (i := 69) (by decide +kernel))) rfl
theorem fw_70 : Jvm.Cond.soleField "FootprintNet$Net" "members" ∈ fk_G := fk_in (fk_tab (List.mem_of_getElem? (i := 70) (by decide +kernel))) rfl
theorem fw_71 : Jvm.Cond.superclass "FootprintNet$Net" "java/lang/Object" ∈ fk_G := fk_in (fk_tab (List.mem_of_getElem? (i := 71) (by decide +kernel))) rfl
theorem fw_72 : Jvm.Cond.arrayClass Jvm.ClassFile.FieldType.long ∈ fk_G := fk_in (fk_tab (List.mem_of_getElem? (i := 72) (by decide +kernel))) rfl
theorem fw_73 : Jvm.Cond.classLink "FootprintNet" (26 : Nat) "FootprintNet$Miner" ∈ fk_G := fk_in (fk_tab (List.mem_of_getElem? (i := 73) (by decide +kernel))) rfl
theorem fw_74 : Jvm.Cond.instantiable "FootprintNet$Miner" (5 : Nat) ∈ fk_G := fk_in (fk_tab (List.mem_of_getElem? (i := 74) (by decide +kernel))) rfl
theorem fw_75 : Jvm.Cond.methodLink "FootprintNet" (28 : Nat) fy_Mi_init ∈ fk_G := fk_in (fk_tab (List.mem_of_getElem? (i := 75) (by decide +kernel))) rfl
theorem fw_76 : Jvm.Cond.instanceMethod fy_Mi_init ∈ fk_G := fk_in (fk_tab (List.mem_of_getElem? (i := 76) (by decide +kernel))) rfl
theorem fw_77 : Jvm.Cond.code fy_Mi_init prog_3_method_1_code (1 : Nat) (Option.none : Option Jvm.ClassFile.FieldType) ∈ fk_G := fk_in (fk_tab (List.mem_of_getElem? (i := 77) (by decide +kernel))) rfl
theorem fw_78 : Jvm.Cond.methodLink "FootprintNet$Miner" (3 : Nat) fy_Ob_init ∈ fk_G := fk_in (fk_tab (List.mem_of_getElem? (i := 78) (by decide +kernel))) rfl
theorem fw_79 : Jvm.Cond.fieldLink "FootprintNet$Miner" (9 : Nat) "FootprintNet$Miner" "effects" "[I" ∈ fk_G := fk_in (fk_tab (List.mem_of_getElem? (i := 79) (by decide +kernel))) rfl
theorem fw_80 : Jvm.Cond.fieldLink "FootprintNet$Miner" (15 : Nat) "FootprintNet$Miner" "strange" "[Z" ∈ fk_G := fk_in (fk_tab (List.mem_of_getElem? (i := 80) (by decide +kernel))) rfl
theorem fw_81 : Jvm.Cond.fieldLink "FootprintNet$Miner" (19 : Nat) "FootprintNet$Miner" "pairIns" "[I" ∈ fk_G := fk_in (fk_tab (List.mem_of_getElem? (i := 81) (by decide +kernel))) rfl
theorem fw_82 : Jvm.Cond.fieldLink "FootprintNet$Miner" (22 : Nat) "FootprintNet$Miner" "pairOuts" "[I" ∈ fk_G := fk_in (fk_tab (List.mem_of_getElem? (i := 82) (by decide +kernel))) rfl
theorem fw_83 : Jvm.Cond.fieldLink "FootprintNet$Miner" (25 : Nat) "FootprintNet$Miner" "pairs" "I" ∈ fk_G := fk_in (fk_tab (List.mem_of_getElem? (i := 83) (by decide +kernel))) rfl
theorem fw_84 : Jvm.Cond.laysFinal "FootprintNet$Miner" "FootprintNet$Miner" "effects" "[I" ∈ fk_G := fk_in (fk_tab (List.mem_of_getElem? (i := 84) (by decide +kernel))) rfl
theorem fw_85 : Jvm.Cond.soleField "FootprintNet$Miner" "effects" ∈ fk_G := fk_in (fk_tab (List.mem_of_getElem? (i := 85) (by decide +kernel))) rfl
theorem fw_86 : Jvm.Cond.laysFinal "FootprintNet$Miner" "FootprintNet$Miner" "strange" "[Z" ∈ fk_G := fk_in (fk_tab (List.mem_of_getElem? (i := 86) (by decide +kernel))) rfl
theorem fw_87 : Jvm.Cond.soleField "FootprintNet$Miner" "strange" ∈ fk_G := fk_in (fk_tab (List.mem_of_getElem? (i := 87) (by decide +kernel))) rfl
theorem fw_88 : Jvm.Cond.laysFinal "FootprintNet$Miner" "FootprintNet$Miner" "pairIns" "[I" ∈ fk_G := fk_in (fk_tab (List.mem_of_getElem? (i := 88) (by decide +kernel))) rfl
theorem fw_89 : Jvm.Cond.soleField "FootprintNet$Miner" "pairIns" ∈ fk_G := fk_in (fk_tab (List.mem_of_getElem? (i := 89) (by decide +kernel))) rfl
theorem fw_90 : Jvm.Cond.laysFinal "FootprintNet$Miner" "FootprintNet$Miner" "pairOuts" "[I" ∈ fk_G := fk_in (fk_tab (List.mem_of_getElem? (i := 90) (by decide +kernel))) rfl
theorem fw_91 : Jvm.Cond.soleField "FootprintNet$Miner" "pairOuts" ∈ fk_G := fk_in (fk_tab (List.mem_of_getElem? (i := 91) (by decide +kernel))) rfl
theorem fw_92 : Jvm.Cond.lays "FootprintNet$Miner" "FootprintNet$Miner" "pairs" "I" ∈ fk_G := fk_in (fk_tab (List.mem_of_getElem? (i := 92) (by decide +kernel))) rfl
theorem fw_93 : Jvm.Cond.soleField "FootprintNet$Miner" "pairs" ∈ fk_G := fk_in (fk_tab (List.mem_of_getElem? (i := 93) (by decide +kernel))) rfl
theorem fw_94 : Jvm.Cond.superclass "FootprintNet$Miner" "java/lang/Object" ∈ fk_G := fk_in (fk_tab (List.mem_of_getElem? (i := 94) (by decide +kernel))) rfl
theorem fw_95 : Jvm.Cond.arrayClass Jvm.ClassFile.FieldType.boolean ∈ fk_G := fk_in (fk_tab (List.mem_of_getElem? (i := 95) (by decide +kernel))) rfl
theorem fw_96 : Jvm.Cond.classLink "FootprintNet" (33 : Nat) "FootprintNet$Reach" ∈ fk_G := fk_in (fk_tab (List.mem_of_getElem? (i := 96) (by decide +kernel))) rfl
theorem fw_97 : Jvm.Cond.instantiable "FootprintNet$Reach" (6 : Nat) ∈ fk_G := fk_in (fk_tab (List.mem_of_getElem? (i := 97) (by decide +kernel))) rfl
theorem fw_98 : Jvm.Cond.methodLink "FootprintNet" (35 : Nat) fy_Re_init ∈ fk_G := fk_in (fk_tab (List.mem_of_getElem? (i := 98) (by decide +kernel))) rfl
theorem fw_99 : Jvm.Cond.instanceMethod fy_Re_init ∈ fk_G := fk_in (fk_tab (List.mem_of_getElem? (i := 99) (by decide +kernel))) rfl
theorem fw_100 : Jvm.Cond.code fy_Re_init prog_6_method_1_code (1 : Nat) (Option.none : Option Jvm.ClassFile.FieldType) ∈ fk_G := fk_in (fk_tab (List.mem_of_getElem? (i := 100) (by decide +kernel))) rfl
theorem fw_101 : Jvm.Cond.methodLink "FootprintNet$Reach" (3 : Nat) fy_Ob_init ∈ fk_G := fk_in (fk_tab (List.mem_of_getElem? (i := 101) (by decide +kernel))) rfl
theorem fw_102 : Jvm.Cond.fieldLink "FootprintNet$Reach" (9 : Nat) "FootprintNet$Reach" "seen" "[J" ∈ fk_G := fk_in (fk_tab (List.mem_of_getElem? (i := 102) (by decide +kernel))) rfl
theorem fw_103 : Jvm.Cond.fieldLink "FootprintNet$Reach" (15 : Nat) "FootprintNet$Reach" "slots" "[I" ∈ fk_G := fk_in (fk_tab (List.mem_of_getElem? (i := 103) (by decide +kernel))) rfl
theorem fw_104 : Jvm.Cond.fieldLink "FootprintNet$Reach" (19 : Nat) "FootprintNet$Reach" "next" "[I" ∈ fk_G := fk_in (fk_tab (List.mem_of_getElem? (i := 104) (by decide +kernel))) rfl
theorem fw_105 : Jvm.Cond.fieldLink "FootprintNet$Reach" (22 : Nat) "FootprintNet$Reach" "ending" "[Z" ∈ fk_G := fk_in (fk_tab (List.mem_of_getElem? (i := 105) (by decide +kernel))) rfl
theorem fw_106 : Jvm.Cond.fieldLink "FootprintNet$Reach" (26 : Nat) "FootprintNet$Reach" "count" "I" ∈ fk_G := fk_in (fk_tab (List.mem_of_getElem? (i := 106) (by decide +kernel))) rfl
theorem fw_107 : Jvm.Cond.fieldLink "FootprintNet$Reach" (30 : Nat) "FootprintNet$Reach" "everEnabled" "I" ∈ fk_G := fk_in (fk_tab (List.mem_of_getElem? (i := 107) (by decide +kernel))) rfl
theorem fw_108 : Jvm.Cond.laysFinal "FootprintNet$Reach" "FootprintNet$Reach" "seen" "[J" ∈ fk_G := fk_in (fk_tab (List.mem_of_getElem? (i := 108) (by decide +kernel))) rfl
theorem fw_109 : Jvm.Cond.soleField "FootprintNet$Reach" "seen" ∈ fk_G := fk_in (fk_tab (List.mem_of_getElem? (i := 109) (by decide +kernel))) rfl
theorem fw_110 : Jvm.Cond.laysFinal "FootprintNet$Reach" "FootprintNet$Reach" "slots" "[I" ∈ fk_G := fk_in (fk_tab (List.mem_of_getElem? (i := 110) (by decide +kernel))) rfl
theorem fw_111 : Jvm.Cond.soleField "FootprintNet$Reach" "slots" ∈ fk_G := fk_in (fk_tab (List.mem_of_getElem? (i := 111) (by decide +kernel))) rfl
theorem fw_112 : Jvm.Cond.laysFinal "FootprintNet$Reach" "FootprintNet$Reach" "next" "[I" ∈ fk_G := fk_in (fk_tab (List.mem_of_getElem? (i := 112) (by decide +kernel))) rfl
theorem fw_113 : Jvm.Cond.soleField "FootprintNet$Reach" "next" ∈ fk_G := fk_in (fk_tab (List.mem_of_getElem? (i := 113) (by decide +kernel))) rfl
theorem fw_114 : Jvm.Cond.laysFinal "FootprintNet$Reach" "FootprintNet$Reach" "ending" "[Z" ∈ fk_G := fk_in (fk_tab (List.mem_of_getElem? (i := 114) (by decide +kernel))) rfl
theorem fw_115 : Jvm.Cond.soleField "FootprintNet$Reach" "ending" ∈ fk_G := fk_in (fk_tab (List.mem_of_getElem? (i := 115) (by decide +kernel))) rfl
theorem fw_116 : Jvm.Cond.lays "FootprintNet$Reach" "FootprintNet$Reach" "count" "I" ∈ fk_G := fk_in (fk_tab (List.mem_of_getElem? (i := 116) (by decide +kernel))) rfl
theorem fw_117 : Jvm.Cond.soleField "FootprintNet$Reach" "count" ∈ fk_G := fk_in (fk_tab (List.mem_of_getElem? (i := 117) (by decide +kernel))) rfl
theorem fw_118 : Jvm.Cond.lays "FootprintNet$Reach" "FootprintNet$Reach" "everEnabled" "I" ∈ fk_G := fk_in (fk_tab (List.mem_of_getElem? (i := 118) (by decide +kernel))) rfl
theorem fw_119 : Jvm.Cond.soleField "FootprintNet$Reach" "everEnabled" ∈ fk_G := fk_in (fk_tab (List.mem_of_getElem? (i := 119) (by decide +kernel))) rfl
theorem fw_120 : Jvm.Cond.superclass "FootprintNet$Reach" "java/lang/Object" ∈ fk_G := fk_in (fk_tab (List.mem_of_getElem? (i := 120) (by decide +kernel))) rfl
theorem fw_121 : Jvm.Cond.classLink "FootprintNet" (40 : Nat) "FootprintNet$Player" ∈ fk_G := fk_in (fk_tab (List.mem_of_getElem? (i := 121) (by decide +kernel))) rfl
theorem fw_122 : Jvm.Cond.instantiable "FootprintNet$Player" (2 : Nat) ∈ fk_G := fk_in (fk_tab (List.mem_of_getElem? (i := 122) (by decide +kernel))) rfl
theorem fw_123 : Jvm.Cond.methodLink "FootprintNet" (42 : Nat) fy_Pl_init ∈ fk_G := fk_in (fk_tab (List.mem_of_getElem? (i := 123) (by decide +kernel))) rfl
theorem fw_124 : Jvm.Cond.instanceMethod fy_Pl_init ∈ fk_G := fk_in (fk_tab (List.mem_of_getElem? (i := 124) (by decide +kernel))) rfl
theorem fw_125 : Jvm.Cond.code fy_Pl_init prog_5_method_1_code (1 : Nat) (Option.none : Option Jvm.ClassFile.FieldType) ∈ fk_G := fk_in (fk_tab (List.mem_of_getElem? (i := 125) (by decide +kernel))) rfl
theorem fw_126 : Jvm.Cond.methodLink "FootprintNet$Player" (3 : Nat) fy_Ob_init ∈ fk_G := fk_in (fk_tab (List.mem_of_getElem? (i := 126) (by decide +kernel))) rfl
theorem fw_127 : Jvm.Cond.fieldLink "FootprintNet$Player" (9 : Nat) "FootprintNet$Player" "fired" "[I" ∈ fk_G := fk_in (fk_tab (List.mem_of_getElem? (i := 127) (by decide +kernel))) rfl
theorem fw_128 : Jvm.Cond.fieldLink "FootprintNet$Player" (15 : Nat) "FootprintNet$Player" "count" "I" ∈ fk_G := fk_in (fk_tab (List.mem_of_getElem? (i := 128) (by decide +kernel))) rfl
theorem fw_129 : Jvm.Cond.laysFinal "FootprintNet$Player" "FootprintNet$Player" "fired" "[I" ∈ fk_G := fk_in (fk_tab (List.mem_of_getElem? (i := 129) (by decide +kernel))) rfl
theorem fw_130 : Jvm.Cond.soleField "FootprintNet$Player" "fired" ∈ fk_G := fk_in (fk_tab (List.mem_of_getElem? (i := 130) (by decide +kernel))) rfl
theorem fw_131 : Jvm.Cond.lays "FootprintNet$Player" "FootprintNet$Player" "count" "I" ∈ fk_G := fk_in (fk_tab (List.mem_of_getElem? (i := 131) (by decide +kernel))) rfl
theorem fw_132 : Jvm.Cond.soleField "FootprintNet$Player" "count" ∈ fk_G := fk_in (fk_tab (List.mem_of_getElem? (i := 132) (by decide +kernel))) rfl
theorem fw_133 : Jvm.Cond.superclass "FootprintNet$Player" "java/lang/Object" ∈ fk_G := fk_in (fk_tab (List.mem_of_getElem? (i := 133) (by decide +kernel))) rfl
theorem fw_134 : Jvm.Cond.fieldLink "FootprintNet" (12 : Nat) "FootprintNet" "log" "LFootprintNet$Log;" ∈ fk_G := fk_in (fk_tab (List.mem_of_getElem? (i := 134) (by decide +kernel))) rfl
theorem fw_135 : Jvm.Cond.fieldLink "FootprintNet" (19 : Nat) "FootprintNet" "given" "LFootprintNet$Net;" ∈ fk_G := fk_in (fk_tab (List.mem_of_getElem? (i := 135) (by decide +kernel))) rfl
theorem fw_136 : Jvm.Cond.fieldLink "FootprintNet" (23 : Nat) "FootprintNet" "found" "LFootprintNet$Net;" ∈ fk_G := fk_in (fk_tab (List.mem_of_getElem? (i := 136) (by decide +kernel))) rfl
theorem fw_137 : Jvm.Cond.fieldLink "FootprintNet" (29 : Nat) "FootprintNet" "miner" "LFootprintNet$Miner;" ∈ fk_G := fk_in (fk_tab (List.mem_of_getElem? (i := 137) (by decide +kernel))) rfl
theorem fw_138 : Jvm.Cond.fieldLink "FootprintNet" (36 : Nat) "FootprintNet" "reach" "LFootprintNet$Reach;" ∈ fk_G := fk_in (fk_tab (List.mem_of_getElem? (i := 138) (by decide +kernel))) rfl
theorem fw_139 : Jvm.Cond.fieldLink "FootprintNet" (43 : Nat) "FootprintNet" "player" "LFootprintNet$Player;" ∈ fk_G := fk_in (fk_tab (List.mem_of_getElem? (i := 139) (by decide +kernel))) rfl
theorem fw_140 : Jvm.Cond.laysFinal "FootprintNet" "FootprintNet" "log" "LFootprintNet$Log;" ∈ fk_G := fk_in (fk_tab (List.mem_of_getElem? (i := 140) (by decide +kernel))) rfl
theorem fw_141 : Jvm.Cond.soleField "FootprintNet" "log" ∈ fk_G := fk_in (fk_tab (List.mem_of_getElem? (i := 141) (by decide +kernel))) rfl
theorem fw_142 : Jvm.Cond.laysFinal "FootprintNet" "FootprintNet" "given" "LFootprintNet$Net;" ∈ fk_G := fk_in (fk_tab (List.mem_of_getElem? (i := 142) (by decide +kernel))) rfl
theorem fw_143 : Jvm.Cond.soleField "FootprintNet" "given" ∈ fk_G := fk_in (fk_tab (List.mem_of_getElem? (i := 143) (by decide +kernel))) rfl
theorem fw_144 : Jvm.Cond.laysFinal "FootprintNet" "FootprintNet" "found" "LFootprintNet$Net;" ∈ fk_G := fk_in (fk_tab (List.mem_of_getElem? (i := 144) (by decide +kernel))) rfl
theorem fw_145 : Jvm.Cond.soleField "FootprintNet" "found" ∈ fk_G := fk_in (fk_tab (List.mem_of_getElem? (i := 145) (by decide +kernel))) rfl
theorem fw_146 : Jvm.Cond.laysFinal "FootprintNet" "FootprintNet" "miner" "LFootprintNet$Miner;" ∈ fk_G := fk_in (fk_tab (List.mem_of_getElem? (i := 146) (by decide +kernel))) rfl
theorem fw_147 : Jvm.Cond.soleField "FootprintNet" "miner" ∈ fk_G := fk_in (fk_tab (List.mem_of_getElem? (i := 147) (by decide +kernel))) rfl
theorem fw_148 : Jvm.Cond.laysFinal "FootprintNet" "FootprintNet" "reach" "LFootprintNet$Reach;" ∈ fk_G := fk_in (fk_tab (List.mem_of_getElem? (i := 148) (by decide +kernel))) rfl
theorem fw_149 : Jvm.Cond.soleField "FootprintNet" "reach" ∈ fk_G := fk_in (fk_tab (List.mem_of_getElem? (i := 149) (by decide +kernel))) rfl
theorem fw_150 : Jvm.Cond.laysFinal "FootprintNet" "FootprintNet" "player" "LFootprintNet$Player;" ∈ fk_G := fk_in (fk_tab (List.mem_of_getElem? (i := 150) (by decide +kernel))) rfl
theorem fw_151 : Jvm.Cond.soleField "FootprintNet" "player" ∈ fk_G := fk_in (fk_tab (List.mem_of_getElem? (i := 151) (by decide +kernel))) rfl
theorem fw_152 : Jvm.Cond.superclass "FootprintNet" "java/lang/Object" ∈ fk_G := fk_in (fk_tab (List.mem_of_getElem? (i := 152) (by decide +kernel))) rfl
theorem fw_153 : Jvm.Cond.methodLink "FootprintNetLaw" (13 : Nat) fy_F_begin ∈ fk_G := fk_in (fk_tab (List.mem_of_getElem? (i := 153) (by decide +kernel))) rfl
theorem fw_154 : Jvm.Cond.instanceMethod fy_F_begin ∈ fk_G := fk_in (fk_tab (List.mem_of_getElem? (i := 154) (by decide +kernel))) rfl
theorem fw_155 : Jvm.Cond.selects "FootprintNet" fy_F_begin fy_F_begin ∈ fk_G := fk_in (fk_tab (List.mem_of_getElem? (i := 155) (by decide +kernel))) rfl
theorem fw_156 : Jvm.Cond.code fy_F_begin prog_1_method_2_code (1 : Nat) (Option.some Jvm.ClassFile.FieldType.int) ∈ fk_G := fk_in (fk_tab (List.mem_of_getElem? (i := 156) (by decide +kernel))) rfl
theorem fw_157 : Jvm.Cond.methodLink "FootprintNet" (47 : Nat) fy_Lg_addTrace ∈ fk_G := fk_in (fk_tab (List.mem_of_getElem? (i := 157) (by decide +kernel))) rfl
theorem fw_158 : Jvm.Cond.instanceMethod fy_Lg_addTrace ∈ fk_G := fk_in (fk_tab (List.mem_of_getElem? (i := 158) (by decide +kernel))) rfl
theorem fw_159 : Jvm.Cond.selects "FootprintNet$Log" fy_Lg_addTrace fy_Lg_addTrace ∈ fk_G := fk_in (fk_tab (List.mem_of_getElem? (i := 159) (by decide +kernel))) rfl
theorem fw_160 : Jvm.Cond.code fy_Lg_addTrace prog_2_method_7_code (1 : Nat) (Option.some Jvm.ClassFile.FieldType.int) ∈ fk_G := fk_in (fk_tab (List.mem_of_getElem? (i := 160) (by decide +kernel))) rfl
theorem fw_161 : Jvm.Cond.methodLink "FootprintNet$Log" (29 : Nat) fy_Lg_isFull ∈ fk_G := fk_in (fk_tab (List.mem_of_getElem? (i := 161) (by decide +kernel))) rfl
theorem fw_162 : Jvm.Cond.instanceMethod fy_Lg_isFull ∈ fk_G := fk_in (fk_tab (List.mem_of_getElem? (i := 162) (by decide +kernel))) rfl
theorem fw_163 : Jvm.Cond.selects "FootprintNet$Log" fy_Lg_isFull fy_Lg_isFull ∈ fk_G := fk_in (fk_tab (List.mem_of_getElem? (i := 163) (by decide +kernel))) rfl
theorem fw_164 : Jvm.Cond.code fy_Lg_isFull prog_2_method_2_code (1 : Nat) (Option.some Jvm.ClassFile.FieldType.boolean) ∈ fk_G := fk_in (fk_tab (List.mem_of_getElem? (i := 164) (by decide +kernel))) rfl
theorem fw_165 : Jvm.Cond.methodLink "FootprintNetLaw" (18 : Nat) fy_F_event ∈ fk_G := fk_in (fk_tab (List.mem_of_getElem? (i := 165) (by decide +kernel))) rfl
theorem fw_166 : Jvm.Cond.instanceMethod fy_F_event ∈ fk_G := fk_in (fk_tab (List.mem_of_getElem? (i := 166) (by decide +kernel))) rfl
theorem fw_167 : Jvm.Cond.selects "FootprintNet" fy_F_event fy_F_event ∈ fk_G := fk_in (fk_tab (List.mem_of_getElem? (i := 167) (by decide +kernel))) rfl
theorem fw_168 : Jvm.Cond.code fy_F_event prog_1_method_3_code (2 : Nat) (Option.some Jvm.ClassFile.FieldType.boolean) ∈ fk_G := fk_in (fk_tab (List.mem_of_getElem? (i := 168) (by decide +kernel))) rfl
theorem fw_169 : Jvm.Cond.methodLink "FootprintNet" (51 : Nat) fy_Lg_append ∈ fk_G := fk_in (fk_tab (List.mem_of_getElem? (i := 169) (by decide +kernel))) rfl
theorem fw_170 : Jvm.Cond.instanceMethod fy_Lg_append ∈ fk_G := fk_in (fk_tab (List.mem_of_getElem? (i := 170) (by decide +kernel))) rfl
theorem fw_171 : Jvm.Cond.selects "FootprintNet$Log" fy_Lg_append fy_Lg_append ∈ fk_G := fk_in (fk_tab (List.mem_of_getElem? (i := 171) (by decide +kernel))) rfl
theorem fw_172 : Jvm.Cond.code fy_Lg_append prog_2_method_8_code (4 : Nat) (Option.some Jvm.ClassFile.FieldType.boolean) ∈ fk_G := fk_in (fk_tab (List.mem_of_getElem? (i := 172) (by decide +kernel))) rfl
theorem fw_173 : Jvm.Cond.methodLinkNest "FootprintNet$Log" (33 : Nat) fy_F_isActivity "FootprintNet" ∈ fk_N := fk_inN (fk_tab (List.mem_of_getElem? (i := 173) (by decide +kernel))) rfl
theorem fw_174 : Jvm.Cond.static fy_F_isActivity ∈ fk_G := fk_in (fk_tab (List.mem_of_getElem? (i := 174) (by decide +kernel))) rfl
theorem fw_175 : Jvm.Cond.code fy_F_isActivity prog_1_method_21_code (1 : Nat) (Option.some Jvm.ClassFile.FieldType.boolean) ∈ fk_G := fk_in (fk_tab (List.mem_of_getElem? (i := 175) (by decide +kernel))) rfl
theorem fw_176 : Jvm.Cond.methodLink "FootprintNet$Log" (36 : Nat) fy_Lg_activityAt ∈ fk_G := fk_in (fk_tab (List.mem_of_getElem? (i := 176) (by decide +kernel))) rfl
theorem fw_177 : Jvm.Cond.instanceMethod fy_Lg_activityAt ∈ fk_G := fk_in (fk_tab (List.mem_of_getElem? (i := 177) (by decide +kernel))) rfl
theorem fw_178 : Jvm.Cond.selects "FootprintNet$Log" fy_Lg_activityAt fy_Lg_activityAt ∈ fk_G := fk_in (fk_tab (List.mem_of_getElem? (i := 178) (by decide +kernel))) rfl
theorem fw_179 : Jvm.Cond.code fy_Lg_activityAt prog_2_method_6_code (3 : Nat) (Option.some Jvm.ClassFile.FieldType.int) ∈ fk_G := fk_in (fk_tab (List.mem_of_getElem? (i := 179) (by decide +kernel))) rfl
theorem fw_180 : Jvm.Cond.methodLink "FootprintNetLaw" (23 : Nat) fy_F_clear ∈ fk_G := fk_in (fk_tab (List.mem_of_getElem? (i := 180) (by decide +kernel))) rfl
theorem fw_181 : Jvm.Cond.instanceMethod fy_F_clear ∈ fk_G := fk_in (fk_tab (List.mem_of_getElem? (i := 181) (by decide +kernel))) rfl
theorem fw_182 : Jvm.Cond.selects "FootprintNet" fy_F_clear fy_F_clear ∈ fk_G := fk_in (fk_tab (List.mem_of_getElem? (i := 182) (by decide +kernel))) rfl
theorem fw_183 : Jvm.Cond.code fy_F_clear prog_1_method_4_code (1 : Nat) (Option.none : Option Jvm.ClassFile.FieldType) ∈ fk_G := fk_in (fk_tab (List.mem_of_getElem? (i := 183) (by decide +kernel))) rfl
theorem fw_184 : Jvm.Cond.methodLink "FootprintNet" (55 : Nat) fy_Lg_removeTraces ∈ fk_G := fk_in (fk_tab (List.mem_of_getElem? (i := 184) (by decide +kernel))) rfl
theorem fw_185 : Jvm.Cond.instanceMethod fy_Lg_removeTraces ∈ fk_G := fk_in (fk_tab (List.mem_of_getElem? (i := 185) (by decide +kernel))) rfl
theorem fw_186 : Jvm.Cond.selects "FootprintNet$Log" fy_Lg_removeTraces fy_Lg_removeTraces ∈ fk_G := fk_in (fk_tab (List.mem_of_getElem? (i := 186) (by decide +kernel))) rfl
theorem fw_187 : Jvm.Cond.code fy_Lg_removeTraces prog_2_method_9_code (1 : Nat) (Option.none : Option Jvm.ClassFile.FieldType) ∈ fk_G := fk_in (fk_tab (List.mem_of_getElem? (i := 187) (by decide +kernel))) rfl
theorem fw_188 : Jvm.Cond.methodLink "FootprintNet$Log" (40 : Nat) fy_Ar_fillI ∈ fk_G := fk_in (fk_tab (List.mem_of_getElem? (i := 188) (by decide +kernel))) rfl
theorem fw_189 : Jvm.Cond.static fy_Ar_fillI ∈ fk_G := fk_in (fk_tab (List.mem_of_getElem? (i := 189) (by decide +kernel))) rfl
theorem fw_190 : Jvm.Cond.code fy_Ar_fillI prog_10_method_103_code (4 : Nat) (Option.none : Option Jvm.ClassFile.FieldType) ∈ fk_G := fk_in (fk_tab (List.mem_of_getElem? (i := 190) (by decide +kernel))) rfl
theorem fw_191 : Jvm.Cond.methodLink "FootprintNetLaw" (27 : Nat) fy_F_length ∈ fk_G := fk_in (fk_tab (List.mem_of_getElem? (i := 191) (by decide +kernel))) rfl
theorem fw_192 : Jvm.Cond.instanceMethod fy_F_length ∈ fk_G := fk_in (fk_tab (List.mem_of_getElem? (i := 192) (by decide +kernel))) rfl
theorem fw_193 : Jvm.Cond.selects "FootprintNet" fy_F_length fy_F_length ∈ fk_G := fk_in (fk_tab (List.mem_of_getElem? (i := 193) (by decide +kernel))) rfl
theorem fw_194 : Jvm.Cond.code fy_F_length prog_1_method_5_code (2 : Nat) (Option.some Jvm.ClassFile.FieldType.int) ∈ fk_G := fk_in (fk_tab (List.mem_of_getElem? (i := 194) (by decide +kernel))) rfl
theorem fw_195 : Jvm.Cond.methodLink "FootprintNet" (58 : Nat) fy_Lg_hasTrace ∈ fk_G := fk_in (fk_tab (List.mem_of_getElem? (i := 195) (by decide +kernel))) rfl
theorem fw_196 : Jvm.Cond.instanceMethod fy_Lg_hasTrace ∈ fk_G := fk_in (fk_tab (List.mem_of_getElem? (i := 196) (by decide +kernel))) rfl
theorem fw_197 : Jvm.Cond.selects "FootprintNet$Log" fy_Lg_hasTrace fy_Lg_hasTrace ∈ fk_G := fk_in (fk_tab (List.mem_of_getElem? (i := 197) (by decide +kernel))) rfl
theorem fw_198 : Jvm.Cond.code fy_Lg_hasTrace prog_2_method_3_code (2 : Nat) (Option.some Jvm.ClassFile.FieldType.boolean) ∈ fk_G := fk_in (fk_tab (List.mem_of_getElem? (i := 198) (by decide +kernel))) rfl
theorem fw_199 : Jvm.Cond.methodLink "FootprintNet" (61 : Nat) fy_Lg_lengthOf ∈ fk_G := fk_in (fk_tab (List.mem_of_getElem? (i := 199) (by decide +kernel))) rfl
theorem fw_200 : Jvm.Cond.instanceMethod fy_Lg_lengthOf ∈ fk_G := fk_in (fk_tab (List.mem_of_getElem? (i := 200) (by decide +kernel))) rfl
theorem fw_201 : Jvm.Cond.selects "FootprintNet$Log" fy_Lg_lengthOf fy_Lg_lengthOf ∈ fk_G := fk_in (fk_tab (List.mem_of_getElem? (i := 201) (by decide +kernel))) rfl
theorem fw_202 : Jvm.Cond.code fy_Lg_lengthOf prog_2_method_5_code (2 : Nat) (Option.some Jvm.ClassFile.FieldType.int) ∈ fk_G := fk_in (fk_tab (List.mem_of_getElem? (i := 202) (by decide +kernel))) rfl
theorem fw_203 : Jvm.Cond.methodLink "FootprintNetLaw" (32 : Nat) fy_F_at ∈ fk_G := fk_in (fk_tab (List.mem_of_getElem? (i := 203) (by decide +kernel))) rfl
theorem fw_204 : Jvm.Cond.instanceMethod fy_F_at ∈ fk_G := fk_in (fk_tab (List.mem_of_getElem? (i := 204) (by decide +kernel))) rfl
theorem fw_205 : Jvm.Cond.selects "FootprintNet" fy_F_at fy_F_at ∈ fk_G := fk_in (fk_tab (List.mem_of_getElem? (i := 205) (by decide +kernel))) rfl
theorem fw_206 : Jvm.Cond.code fy_F_at prog_1_method_6_code (3 : Nat) (Option.some Jvm.ClassFile.FieldType.int) ∈ fk_G := fk_in (fk_tab (List.mem_of_getElem? (i := 206) (by decide +kernel))) rfl
theorem fw_207 : Jvm.Cond.methodLink "FootprintNet" (65 : Nat) fy_Lg_hasEvent ∈ fk_G := fk_in (fk_tab (List.mem_of_getElem? (i := 207) (by decide +kernel))) rfl
theorem fw_208 : Jvm.Cond.instanceMethod fy_Lg_hasEvent ∈ fk_G := fk_in (fk_tab (List.mem_of_getElem? (i := 208) (by decide +kernel))) rfl
theorem fw_209 : Jvm.Cond.selects "FootprintNet$Log" fy_Lg_hasEvent fy_Lg_hasEvent ∈ fk_G := fk_in (fk_tab (List.mem_of_getElem? (i := 209) (by decide +kernel))) rfl
theorem fw_210 : Jvm.Cond.code fy_Lg_hasEvent prog_2_method_4_code (3 : Nat) (Option.some Jvm.ClassFile.FieldType.boolean) ∈ fk_G := fk_in (fk_tab (List.mem_of_getElem? (i := 210) (by decide +kernel))) rfl
theorem fw_211 : Jvm.Cond.methodLink "FootprintNet$Log" (25 : Nat) fy_Lg_hasTrace ∈ fk_G := fk_in (fk_tab (List.mem_of_getElem? (i := 211) (by decide +kernel))) rfl
theorem fw_212 : Jvm.Cond.methodLink "FootprintNet" (69 : Nat) fy_Lg_activityAt ∈ fk_G := fk_in (fk_tab (List.mem_of_getElem? (i := 212) (by decide +kernel))) rfl
theorem fw_213 : Jvm.Cond.methodLink "FootprintNetLaw" (37 : Nat) fy_F_relation ∈ fk_G := fk_in (fk_tab (List.mem_of_getElem? (i := 213) (by decide +kernel))) rfl
theorem fw_214 : Jvm.Cond.instanceMethod fy_F_relation ∈ fk_G := fk_in (fk_tab (List.mem_of_getElem? (i := 214) (by decide +kernel))) rfl
theorem fw_215 : Jvm.Cond.selects "FootprintNet" fy_F_relation fy_F_relation ∈ fk_G := fk_in (fk_tab (List.mem_of_getElem? (i := 215) (by decide +kernel))) rfl
theorem fw_216 : Jvm.Cond.code fy_F_relation prog_1_method_7_code (5 : Nat) (Option.some Jvm.ClassFile.FieldType.int) ∈ fk_G := fk_in (fk_tab (List.mem_of_getElem? (i := 216) (by decide +kernel))) rfl
theorem fw_217 : Jvm.Cond.methodLink "FootprintNet" (73 : Nat) fy_F_isActivity ∈ fk_G := fk_in (fk_tab (List.mem_of_getElem? (i := 217) (by decide +kernel))) rfl
theorem fw_218 : Jvm.Cond.methodLink "FootprintNet" (76 : Nat) fy_Lg_isFollowed ∈ fk_G := fk_in (fk_tab (List.mem_of_getElem? (i := 218) (by decide +kernel))) rfl
theorem fw_219 : Jvm.Cond.instanceMethod fy_Lg_isFollowed ∈ fk_G := fk_in (fk_tab (List.mem_of_getElem? (i := 219) (by decide +kernel))) rfl
theorem fw_220 : Jvm.Cond.selects "FootprintNet$Log" fy_Lg_isFollowed fy_Lg_isFollowed ∈ fk_G := fk_in (fk_tab (List.mem_of_getElem? (i := 220) (by decide +kernel))) rfl
theorem fw_221 : Jvm.Cond.code fy_Lg_isFollowed prog_2_method_10_code (3 : Nat) (Option.some Jvm.ClassFile.FieldType.boolean) ∈ fk_G := fk_in (fk_tab (List.mem_of_getElem? (i := 221) (by decide +kernel))) rfl
theorem fw_222 : Jvm.Cond.methodLinkNest "FootprintNet$Log" (46 : Nat) fy_F_isIn "FootprintNet" ∈ fk_N := fk_inN (fk_tab (List.mem_of_getElem? (i := 222) (by decide +kernel))) rfl
theorem fw_223 : Jvm.Cond.static fy_F_isIn ∈ fk_G := fk_in (fk_tab (List.mem_of_getElem? (i := 223) (by decide +kernel))) rfl
theorem fw_224 : Jvm.Cond.code fy_F_isIn prog_1_method_23_code (2 : Nat) (Option.some Jvm.ClassFile.FieldType.boolean) ∈ fk_G := fk_in (fk_tab (List.mem_of_getElem? (i := 224) (by decide +kernel))) rfl
theorem fw_225 : Jvm.Cond.methodLink "FootprintNetLaw" (41 : Nat) fy_F_mine ∈ fk_G := fk_in (fk_tab (List.mem_of_getElem? (i := 225) (by decide +kernel))) rfl
theorem fw_226 : Jvm.Cond.instanceMethod fy_F_mine ∈ fk_G := fk_in (fk_tab (List.mem_of_getElem? (i := 226) (by decide +kernel))) rfl
theorem fw_227 : Jvm.Cond.selects "FootprintNet" fy_F_mine fy_F_mine ∈ fk_G := fk_in (fk_tab (List.mem_of_getElem? (i := 227) (by decide +kernel))) rfl
theorem fw_228 : Jvm.Cond.code fy_F_mine prog_1_method_8_code (1 : Nat) (Option.some Jvm.ClassFile.FieldType.int) ∈ fk_G := fk_in (fk_tab (List.mem_of_getElem? (i := 228) (by decide +kernel))) rfl
theorem fw_229 : Jvm.Cond.methodLink "FootprintNet" (79 : Nat) fy_Mi_findPairs ∈ fk_G := fk_in (fk_tab (List.mem_of_getElem? (i := 229) (by decide +kernel))) rfl
theorem fw_230 : Jvm.Cond.instanceMethod fy_Mi_findPairs ∈ fk_G := fk_in (fk_tab (List.mem_of_getElem? (i := 230) (by decide +kernel))) rfl
theorem fw_231 : Jvm.Cond.selects "FootprintNet$Miner" fy_Mi_findPairs fy_Mi_findPairs ∈ fk_G := fk_in (fk_tab (List.mem_of_getElem? (i := 231) (by decide +kernel))) rfl
theorem fw_232 : Jvm.Cond.code fy_Mi_findPairs prog_3_method_2_code (3 : Nat) (Option.some Jvm.ClassFile.FieldType.boolean) ∈ fk_G := fk_in (fk_tab (List.mem_of_getElem? (i := 232) (by decide +kernel))) rfl
theorem fw_233 : Jvm.Cond.methodLink "FootprintNet$Miner" (29 : Nat) fy_Mi_prepareSets ∈ fk_G := fk_in (fk_tab (List.mem_of_getElem? (i := 233) (by decide +kernel))) rfl
theorem fw_235 : Jvm.Cond.instanceMethod fy_Mi_prepareSets ∈ fk_G := fk_in (fk_tab (List.mem_of_getElem? (i := 235) (by decide +kernel))) rfl
theorem fw_236 : Jvm.Cond.code fy_Mi_prepareSets prog_3_method_4_code (8 : Nat) (Option.none : Option Jvm.ClassFile.FieldType) ∈ fk_G := fk_in (fk_tab (List.mem_of_getElem? (i := 236) (by decide +kernel))) rfl
theorem fw_237 : Jvm.Cond.methodLink "FootprintNet$Miner" (66 : Nat) fy_Mi_causedBy ∈ fk_G := fk_in (fk_tab (List.mem_of_getElem? (i := 237) (by decide +kernel))) rfl
theorem fw_238 : Jvm.Cond.static fy_Mi_causedBy ∈ fk_G := fk_in (fk_tab (List.mem_of_getElem? (i := 238) (by decide +kernel))) rfl
theorem fw_239 : Jvm.Cond.code fy_Mi_causedBy prog_3_method_5_code (4 : Nat) (Option.some Jvm.ClassFile.FieldType.int) ∈ fk_G := fk_in (fk_tab (List.mem_of_getElem? (i := 239) (by decide +kernel))) rfl
theorem fw_240 : Jvm.Cond.methodLink "FootprintNet$Miner" (73 : Nat) fy_Lg_isFollowed ∈ fk_G := fk_in (fk_tab (List.mem_of_getElem? (i := 240) (by decide +kernel))) rfl
theorem fw_241 : Jvm.Cond.methodLink "FootprintNet$Miner" (70 : Nat) fy_Mi_knownTo ∈ fk_G := fk_in (fk_tab (List.mem_of_getElem? (i := 241) (by decide +kernel))) rfl
theorem fw_242 : Jvm.Cond.static fy_Mi_knownTo ∈ fk_G := fk_in (fk_tab (List.mem_of_getElem? (i := 242) (by decide +kernel))) rfl
theorem fw_243 : Jvm.Cond.code fy_Mi_knownTo prog_3_method_6_code (4 : Nat) (Option.some Jvm.ClassFile.FieldType.int) ∈ fk_G := fk_in (fk_tab (List.mem_of_getElem? (i := 243) (by decide +kernel))) rfl
theorem fw_244 : Jvm.Cond.methodLink "FootprintNet$Miner" (33 : Nat) fy_Mi_addPairsOf ∈ fk_G := fk_in (fk_tab (List.mem_of_getElem? (i := 244) (by decide +kernel))) rfl
theorem fw_246 : Jvm.Cond.instanceMethod fy_Mi_addPairsOf ∈ fk_G := fk_in (fk_tab (List.mem_of_getElem? (i := 246) (by decide +kernel))) rfl
theorem fw_247 : Jvm.Cond.code fy_Mi_addPairsOf prog_3_method_7_code (3 : Nat) (Option.some Jvm.ClassFile.FieldType.boolean) ∈ fk_G := fk_in (fk_tab (List.mem_of_getElem? (i := 247) (by decide +kernel))) rfl
theorem fw_248 : Jvm.Cond.methodLink "FootprintNet$Miner" (76 : Nat) fy_Mi_isCausal ∈ fk_G := fk_in (fk_tab (List.mem_of_getElem? (i := 248) (by decide +kernel))) rfl
theorem fw_250 : Jvm.Cond.instanceMethod fy_Mi_isCausal ∈ fk_G := fk_in (fk_tab (List.mem_of_getElem? (i := 250) (by decide +kernel))) rfl
theorem fw_251 : Jvm.Cond.code fy_Mi_isCausal prog_3_method_8_code (3 : Nat) (Option.some Jvm.ClassFile.FieldType.boolean) ∈ fk_G := fk_in (fk_tab (List.mem_of_getElem? (i := 251) (by decide +kernel))) rfl
theorem fw_252 : Jvm.Cond.methodLink "FootprintNet$Miner" (79 : Nat) fy_Mi_isGreatest ∈ fk_G := fk_in (fk_tab (List.mem_of_getElem? (i := 252) (by decide +kernel))) rfl
theorem fw_254 : Jvm.Cond.instanceMethod fy_Mi_isGreatest ∈ fk_G := fk_in (fk_tab (List.mem_of_getElem? (i := 254) (by decide +kernel))) rfl
theorem fw_255 : Jvm.Cond.code fy_Mi_isGreatest prog_3_method_9_code (5 : Nat) (Option.some Jvm.ClassFile.FieldType.boolean) ∈ fk_G := fk_in (fk_tab (List.mem_of_getElem? (i := 255) (by decide +kernel))) rfl
theorem fw_256 : Jvm.Cond.methodLink "FootprintNet" (83 : Nat) fy_Mi_writeNet ∈ fk_G := fk_in (fk_tab (List.mem_of_getElem? (i := 256) (by decide +kernel))) rfl
theorem fw_257 : Jvm.Cond.instanceMethod fy_Mi_writeNet ∈ fk_G := fk_in (fk_tab (List.mem_of_getElem? (i := 257) (by decide +kernel))) rfl
theorem fw_258 : Jvm.Cond.selects "FootprintNet$Miner" fy_Mi_writeNet fy_Mi_writeNet ∈ fk_G := fk_in (fk_tab (List.mem_of_getElem? (i := 258) (by decide +kernel))) rfl
theorem fw_259 : Jvm.Cond.code fy_Mi_writeNet prog_3_method_3_code (4 : Nat) (Option.none : Option Jvm.ClassFile.FieldType) ∈ fk_G := fk_in (fk_tab (List.mem_of_getElem? (i := 259) (by decide +kernel))) rfl
theorem fw_260 : Jvm.Cond.methodLink "FootprintNet$Miner" (37 : Nat) fy_Nt_removeAll ∈ fk_G := fk_in (fk_tab (List.mem_of_getElem? (i := 260) (by decide +kernel))) rfl
theorem fw_261 : Jvm.Cond.instanceMethod fy_Nt_removeAll ∈ fk_G := fk_in (fk_tab (List.mem_of_getElem? (i := 261) (by decide +kernel))) rfl
theorem fw_262 : Jvm.Cond.selects "FootprintNet$Net" fy_Nt_removeAll fy_Nt_removeAll ∈ fk_G := fk_in (fk_tab (List.mem_of_getElem? (i := 262) (by decide +kernel))) rfl
theorem fw_263 : Jvm.Cond.code fy_Nt_removeAll prog_4_method_12_code (1 : Nat) (Option.none : Option Jvm.ClassFile.FieldType) ∈ fk_G := fk_in (fk_tab (List.mem_of_getElem? (i := 263) (by decide +kernel))) rfl
theorem fw_264 : Jvm.Cond.methodLink "FootprintNet$Net" (44 : Nat) fy_Nt_setEnds ∈ fk_G := fk_in (fk_tab (List.mem_of_getElem? (i := 264) (by decide +kernel))) rfl
theorem fw_265 : Jvm.Cond.instanceMethod fy_Nt_setEnds ∈ fk_G := fk_in (fk_tab (List.mem_of_getElem? (i := 265) (by decide +kernel))) rfl
theorem fw_266 : Jvm.Cond.selects "FootprintNet$Net" fy_Nt_setEnds fy_Nt_setEnds ∈ fk_G := fk_in (fk_tab (List.mem_of_getElem? (i := 266) (by decide +kernel))) rfl
theorem fw_267 : Jvm.Cond.code fy_Nt_setEnds prog_4_method_10_code (3 : Nat) (Option.none : Option Jvm.ClassFile.FieldType) ∈ fk_G := fk_in (fk_tab (List.mem_of_getElem? (i := 267) (by decide +kernel))) rfl
theorem fw_268 : Jvm.Cond.methodLink "FootprintNet$Net" (41 : Nat) fy_Nt_prepareFiring ∈ fk_G := fk_in (fk_tab (List.mem_of_getElem? (i := 268) (by decide +kernel))) rfl
theorem fw_270 : Jvm.Cond.instanceMethod fy_Nt_prepareFiring ∈ fk_G := fk_in (fk_tab (List.mem_of_getElem? (i := 270) (by decide +kernel))) rfl
theorem fw_271 : Jvm.Cond.code fy_Nt_prepareFiring prog_4_method_13_code (2 : Nat) (Option.none : Option Jvm.ClassFile.FieldType) ∈ fk_G := fk_in (fk_tab (List.mem_of_getElem? (i := 271) (by decide +kernel))) rfl
theorem fw_272 : Jvm.Cond.methodLink "FootprintNet$Net" (48 : Nat) fy_Ar_fillJ ∈ fk_G := fk_in (fk_tab (List.mem_of_getElem? (i := 272) (by decide +kernel))) rfl
theorem fw_273 : Jvm.Cond.static fy_Ar_fillJ ∈ fk_G := fk_in (fk_tab (List.mem_of_getElem? (i := 273) (by decide +kernel))) rfl
theorem fw_274 : Jvm.Cond.code fy_Ar_fillJ prog_10_method_101_code (5 : Nat) (Option.none : Option Jvm.ClassFile.FieldType) ∈ fk_G := fk_in (fk_tab (List.mem_of_getElem? (i := 274) (by decide +kernel))) rfl
theorem fw_275 : Jvm.Cond.methodLink "FootprintNet$Net" (54 : Nat) fy_Nt_connect ∈ fk_G := fk_in (fk_tab (List.mem_of_getElem? (i := 275) (by decide +kernel))) rfl
theorem fw_277 : Jvm.Cond.instanceMethod fy_Nt_connect ∈ fk_G := fk_in (fk_tab (List.mem_of_getElem? (i := 277) (by decide +kernel))) rfl
theorem fw_278 : Jvm.Cond.code fy_Nt_connect prog_4_method_14_code (6 : Nat) (Option.none : Option Jvm.ClassFile.FieldType) ∈ fk_G := fk_in (fk_tab (List.mem_of_getElem? (i := 278) (by decide +kernel))) rfl
theorem fw_279 : Jvm.Cond.methodLinkNest "FootprintNet$Net" (60 : Nat) fy_F_isIn "FootprintNet" ∈ fk_N := fk_inN (fk_tab (List.mem_of_getElem? (i := 279) (by decide +kernel))) rfl
theorem fw_280 : Jvm.Cond.constantLong "FootprintNet$Net" (58 : Nat) (16 : Int64) ∈ fk_G := fk_in (fk_tab (List.mem_of_getElem? (i := 280) (by decide +kernel))) rfl
theorem fw_281 : Jvm.Cond.methodLink "FootprintNet$Miner" (42 : Nat) fy_Nt_addPlace ∈ fk_G := fk_in (fk_tab (List.mem_of_getElem? (i := 281) (by decide +kernel))) rfl
theorem fw_282 : Jvm.Cond.instanceMethod fy_Nt_addPlace ∈ fk_G := fk_in (fk_tab (List.mem_of_getElem? (i := 282) (by decide +kernel))) rfl
theorem fw_283 : Jvm.Cond.selects "FootprintNet$Net" fy_Nt_addPlace fy_Nt_addPlace ∈ fk_G := fk_in (fk_tab (List.mem_of_getElem? (i := 283) (by decide +kernel))) rfl
theorem fw_284 : Jvm.Cond.code fy_Nt_addPlace prog_4_method_9_code (3 : Nat) (Option.some Jvm.ClassFile.FieldType.boolean) ∈ fk_G := fk_in (fk_tab (List.mem_of_getElem? (i := 284) (by decide +kernel))) rfl
theorem fw_285 : Jvm.Cond.methodLink "FootprintNet$Miner" (46 : Nat) fy_Lg_beginners ∈ fk_G := fk_in (fk_tab (List.mem_of_getElem? (i := 285) (by decide +kernel))) rfl
theorem fw_286 : Jvm.Cond.instanceMethod fy_Lg_beginners ∈ fk_G := fk_in (fk_tab (List.mem_of_getElem? (i := 286) (by decide +kernel))) rfl
theorem fw_287 : Jvm.Cond.selects "FootprintNet$Log" fy_Lg_beginners fy_Lg_beginners ∈ fk_G := fk_in (fk_tab (List.mem_of_getElem? (i := 287) (by decide +kernel))) rfl
theorem fw_288 : Jvm.Cond.code fy_Lg_beginners prog_2_method_12_code (3 : Nat) (Option.some Jvm.ClassFile.FieldType.int) ∈ fk_G := fk_in (fk_tab (List.mem_of_getElem? (i := 288) (by decide +kernel))) rfl
theorem fw_289 : Jvm.Cond.methodLink "FootprintNet$Miner" (52 : Nat) fy_Lg_enders ∈ fk_G := fk_in (fk_tab (List.mem_of_getElem? (i := 289) (by decide +kernel))) rfl
theorem fw_290 : Jvm.Cond.instanceMethod fy_Lg_enders ∈ fk_G := fk_in (fk_tab (List.mem_of_getElem? (i := 290) (by decide +kernel))) rfl
theorem fw_291 : Jvm.Cond.selects "FootprintNet$Log" fy_Lg_enders fy_Lg_enders ∈ fk_G := fk_in (fk_tab (List.mem_of_getElem? (i := 291) (by decide +kernel))) rfl
theorem fw_292 : Jvm.Cond.code fy_Lg_enders prog_2_method_13_code (3 : Nat) (Option.some Jvm.ClassFile.FieldType.int) ∈ fk_G := fk_in (fk_tab (List.mem_of_getElem? (i := 292) (by decide +kernel))) rfl
theorem fw_293 : Jvm.Cond.methodLink "FootprintNet$Miner" (55 : Nat) fy_Nt_setEnds ∈ fk_G := fk_in (fk_tab (List.mem_of_getElem? (i := 293) (by decide +kernel))) rfl
theorem fw_294 : Jvm.Cond.methodLink "FootprintNet$Miner" (59 : Nat) fy_Lg_occurring ∈ fk_G := fk_in (fk_tab (List.mem_of_getElem? (i := 294) (by decide +kernel))) rfl
theorem fw_295 : Jvm.Cond.instanceMethod fy_Lg_occurring ∈ fk_G := fk_in (fk_tab (List.mem_of_getElem? (i := 295) (by decide +kernel))) rfl
theorem fw_296 : Jvm.Cond.selects "FootprintNet$Log" fy_Lg_occurring fy_Lg_occurring ∈ fk_G := fk_in (fk_tab (List.mem_of_getElem? (i := 296) (by decide +kernel))) rfl
theorem fw_297 : Jvm.Cond.code fy_Lg_occurring prog_2_method_11_code (4 : Nat) (Option.some Jvm.ClassFile.FieldType.int) ∈ fk_G := fk_in (fk_tab (List.mem_of_getElem? (i := 297) (by decide +kernel))) rfl
theorem fw_298 : Jvm.Cond.methodLink "FootprintNet$Miner" (62 : Nat) fy_Nt_setLoose ∈ fk_G := fk_in (fk_tab (List.mem_of_getElem? (i := 298) (by decide +kernel))) rfl
theorem fw_299 : Jvm.Cond.instanceMethod fy_Nt_setLoose ∈ fk_G := fk_in (fk_tab (List.mem_of_getElem? (i := 299) (by decide +kernel))) rfl
theorem fw_300 : Jvm.Cond.selects "FootprintNet$Net" fy_Nt_setLoose fy_Nt_setLoose ∈ fk_G := fk_in (fk_tab (List.mem_of_getElem? (i := 300) (by decide +kernel))) rfl
theorem fw_301 : Jvm.Cond.code fy_Nt_setLoose prog_4_method_11_code (2 : Nat) (Option.none : Option Jvm.ClassFile.FieldType) ∈ fk_G := fk_in (fk_tab (List.mem_of_getElem? (i := 301) (by decide +kernel))) rfl
theorem fw_302 : Jvm.Cond.methodLink "FootprintNet" (87 : Nat) fy_Nt_placeCount ∈ fk_G := fk_in (fk_tab (List.mem_of_getElem? (i := 302) (by decide +kernel))) rfl
theorem fw_303 : Jvm.Cond.instanceMethod fy_Nt_placeCount ∈ fk_G := fk_in (fk_tab (List.mem_of_getElem? (i := 303) (by decide +kernel))) rfl
theorem fw_304 : Jvm.Cond.selects "FootprintNet$Net" fy_Nt_placeCount fy_Nt_placeCount ∈ fk_G := fk_in (fk_tab (List.mem_of_getElem? (i := 304) (by decide +kernel))) rfl
theorem fw_305 : Jvm.Cond.code fy_Nt_placeCount prog_4_method_2_code (1 : Nat) (Option.some Jvm.ClassFile.FieldType.int) ∈ fk_G := fk_in (fk_tab (List.mem_of_getElem? (i := 305) (by decide +kernel))) rfl
theorem fw_306 : Jvm.Cond.methodLink "FootprintNetLaw" (45 : Nat) fy_F_place ∈ fk_G := fk_in (fk_tab (List.mem_of_getElem? (i := 306) (by decide +kernel))) rfl
theorem fw_307 : Jvm.Cond.instanceMethod fy_F_place ∈ fk_G := fk_in (fk_tab (List.mem_of_getElem? (i := 307) (by decide +kernel))) rfl
theorem fw_308 : Jvm.Cond.selects "FootprintNet" fy_F_place fy_F_place ∈ fk_G := fk_in (fk_tab (List.mem_of_getElem? (i := 308) (by decide +kernel))) rfl
theorem fw_309 : Jvm.Cond.code fy_F_place prog_1_method_9_code (3 : Nat) (Option.some Jvm.ClassFile.FieldType.int) ∈ fk_G := fk_in (fk_tab (List.mem_of_getElem? (i := 309) (by decide +kernel))) rfl
theorem fw_310 : Jvm.Cond.methodLink "FootprintNet" (90 : Nat) fy_F_isSet ∈ fk_G := fk_in (fk_tab (List.mem_of_getElem? (i := 310) (by decide +kernel))) rfl
theorem fw_311 : Jvm.Cond.static fy_F_isSet ∈ fk_G := fk_in (fk_tab (List.mem_of_getElem? (i := 311) (by decide +kernel))) rfl
theorem fw_312 : Jvm.Cond.code fy_F_isSet prog_1_method_22_code (1 : Nat) (Option.some Jvm.ClassFile.FieldType.boolean) ∈ fk_G := fk_in (fk_tab (List.mem_of_getElem? (i := 312) (by decide +kernel))) rfl
theorem fw_313 : Jvm.Cond.methodLink "FootprintNet" (93 : Nat) fy_Nt_hasPlace ∈ fk_G := fk_in (fk_tab (List.mem_of_getElem? (i := 313) (by decide +kernel))) rfl
theorem fw_314 : Jvm.Cond.instanceMethod fy_Nt_hasPlace ∈ fk_G := fk_in (fk_tab (List.mem_of_getElem? (i := 314) (by decide +kernel))) rfl
theorem fw_315 : Jvm.Cond.selects "FootprintNet$Net" fy_Nt_hasPlace fy_Nt_hasPlace ∈ fk_G := fk_in (fk_tab (List.mem_of_getElem? (i := 315) (by decide +kernel))) rfl
theorem fw_316 : Jvm.Cond.code fy_Nt_hasPlace prog_4_method_8_code (4 : Nat) (Option.some Jvm.ClassFile.FieldType.boolean) ∈ fk_G := fk_in (fk_tab (List.mem_of_getElem? (i := 316) (by decide +kernel))) rfl
theorem fw_317 : Jvm.Cond.methodLink "FootprintNet" (96 : Nat) fy_Nt_addPlace ∈ fk_G := fk_in (fk_tab (List.mem_of_getElem? (i := 317) (by decide +kernel))) rfl
theorem fw_318 : Jvm.Cond.methodLink "FootprintNetLaw" (49 : Nat) fy_F_ends ∈ fk_G := fk_in (fk_tab (List.mem_of_getElem? (i := 318) (by decide +kernel))) rfl
theorem fw_319 : Jvm.Cond.instanceMethod fy_F_ends ∈ fk_G := fk_in (fk_tab (List.mem_of_getElem? (i := 319) (by decide +kernel))) rfl
theorem fw_320 : Jvm.Cond.selects "FootprintNet" fy_F_ends fy_F_ends ∈ fk_G := fk_in (fk_tab (List.mem_of_getElem? (i := 320) (by decide +kernel))) rfl
theorem fw_321 : Jvm.Cond.code fy_F_ends prog_1_method_10_code (3 : Nat) (Option.some Jvm.ClassFile.FieldType.boolean) ∈ fk_G := fk_in (fk_tab (List.mem_of_getElem? (i := 321) (by decide +kernel))) rfl
theorem fw_322 : Jvm.Cond.methodLink "FootprintNet" (99 : Nat) fy_Nt_setEnds ∈ fk_G := fk_in (fk_tab (List.mem_of_getElem? (i := 322) (by decide +kernel))) rfl
theorem fw_323 : Jvm.Cond.methodLink "FootprintNetLaw" (54 : Nat) fy_F_reset ∈ fk_G := fk_in (fk_tab (List.mem_of_getElem? (i := 323) (by decide +kernel))) rfl
theorem fw_324 : Jvm.Cond.instanceMethod fy_F_reset ∈ fk_G := fk_in (fk_tab (List.mem_of_getElem? (i := 324) (by decide +kernel))) rfl
theorem fw_325 : Jvm.Cond.selects "FootprintNet" fy_F_reset fy_F_reset ∈ fk_G := fk_in (fk_tab (List.mem_of_getElem? (i := 325) (by decide +kernel))) rfl
theorem fw_326 : Jvm.Cond.code fy_F_reset prog_1_method_11_code (1 : Nat) (Option.none : Option Jvm.ClassFile.FieldType) ∈ fk_G := fk_in (fk_tab (List.mem_of_getElem? (i := 326) (by decide +kernel))) rfl
theorem fw_327 : Jvm.Cond.methodLink "FootprintNet" (103 : Nat) fy_Nt_removeAll ∈ fk_G := fk_in (fk_tab (List.mem_of_getElem? (i := 327) (by decide +kernel))) rfl
theorem fw_328 : Jvm.Cond.methodLink "FootprintNetLaw" (58 : Nat) fy_F_places ∈ fk_G := fk_in (fk_tab (List.mem_of_getElem? (i := 328) (by decide +kernel))) rfl
theorem fw_329 : Jvm.Cond.instanceMethod fy_F_places ∈ fk_G := fk_in (fk_tab (List.mem_of_getElem? (i := 329) (by decide +kernel))) rfl
theorem fw_330 : Jvm.Cond.selects "FootprintNet" fy_F_places fy_F_places ∈ fk_G := fk_in (fk_tab (List.mem_of_getElem? (i := 330) (by decide +kernel))) rfl
theorem fw_331 : Jvm.Cond.code fy_F_places prog_1_method_12_code (3 : Nat) (Option.some Jvm.ClassFile.FieldType.int) ∈ fk_G := fk_in (fk_tab (List.mem_of_getElem? (i := 331) (by decide +kernel))) rfl
theorem fw_332 : Jvm.Cond.methodLink "FootprintNet" (106 : Nat) fy_F_netOf ∈ fk_G := fk_in (fk_tab (List.mem_of_getElem? (i := 332) (by decide +kernel))) rfl
theorem fw_334 : Jvm.Cond.instanceMethod fy_F_netOf ∈ fk_G := fk_in (fk_tab (List.mem_of_getElem? (i := 334) (by decide +kernel))) rfl
theorem fw_335 : Jvm.Cond.code fy_F_netOf prog_1_method_24_code (2 : Nat) (Option.some (Jvm.ClassFile.FieldType.object "FootprintNet$Net")) ∈ fk_G := fk_in (fk_tab (List.mem_of_getElem? (i := 335) (by decide +kernel))) rfl
theorem fw_336 : Jvm.Cond.methodLink "FootprintNetLaw" (62 : Nat) fy_F_inputs ∈ fk_G := fk_in (fk_tab (List.mem_of_getElem? (i := 336) (by decide +kernel))) rfl
theorem fw_337 : Jvm.Cond.instanceMethod fy_F_inputs ∈ fk_G := fk_in (fk_tab (List.mem_of_getElem? (i := 337) (by decide +kernel))) rfl
theorem fw_338 : Jvm.Cond.selects "FootprintNet" fy_F_inputs fy_F_inputs ∈ fk_G := fk_in (fk_tab (List.mem_of_getElem? (i := 338) (by decide +kernel))) rfl
theorem fw_339 : Jvm.Cond.code fy_F_inputs prog_1_method_13_code (4 : Nat) (Option.some Jvm.ClassFile.FieldType.int) ∈ fk_G := fk_in (fk_tab (List.mem_of_getElem? (i := 339) (by decide +kernel))) rfl
theorem fw_340 : Jvm.Cond.methodLink "FootprintNet" (110 : Nat) fy_Nt_lastOnes ∈ fk_G := fk_in (fk_tab (List.mem_of_getElem? (i := 340) (by decide +kernel))) rfl
theorem fw_341 : Jvm.Cond.instanceMethod fy_Nt_lastOnes ∈ fk_G := fk_in (fk_tab (List.mem_of_getElem? (i := 341) (by decide +kernel))) rfl
theorem fw_342 : Jvm.Cond.selects "FootprintNet$Net" fy_Nt_lastOnes fy_Nt_lastOnes ∈ fk_G := fk_in (fk_tab (List.mem_of_getElem? (i := 342) (by decide +kernel))) rfl
theorem fw_343 : Jvm.Cond.code fy_Nt_lastOnes prog_4_method_6_code (1 : Nat) (Option.some Jvm.ClassFile.FieldType.int) ∈ fk_G := fk_in (fk_tab (List.mem_of_getElem? (i := 343) (by decide +kernel))) rfl
theorem fw_344 : Jvm.Cond.methodLink "FootprintNet" (113 : Nat) fy_Nt_inputsOf ∈ fk_G := fk_in (fk_tab (List.mem_of_getElem? (i := 344) (by decide +kernel))) rfl
theorem fw_345 : Jvm.Cond.instanceMethod fy_Nt_inputsOf ∈ fk_G := fk_in (fk_tab (List.mem_of_getElem? (i := 345) (by decide +kernel))) rfl
theorem fw_346 : Jvm.Cond.selects "FootprintNet$Net" fy_Nt_inputsOf fy_Nt_inputsOf ∈ fk_G := fk_in (fk_tab (List.mem_of_getElem? (i := 346) (by decide +kernel))) rfl
theorem fw_347 : Jvm.Cond.code fy_Nt_inputsOf prog_4_method_3_code (2 : Nat) (Option.some Jvm.ClassFile.FieldType.int) ∈ fk_G := fk_in (fk_tab (List.mem_of_getElem? (i := 347) (by decide +kernel))) rfl
theorem fw_348 : Jvm.Cond.methodLink "FootprintNetLaw" (66 : Nat) fy_F_outputs ∈ fk_G := fk_in (fk_tab (List.mem_of_getElem? (i := 348) (by decide +kernel))) rfl
theorem fw_349 : Jvm.Cond.instanceMethod fy_F_outputs ∈ fk_G := fk_in (fk_tab (List.mem_of_getElem? (i := 349) (by decide +kernel))) rfl
theorem fw_350 : Jvm.Cond.selects "FootprintNet" fy_F_outputs fy_F_outputs ∈ fk_G := fk_in (fk_tab (List.mem_of_getElem? (i := 350) (by decide +kernel))) rfl
theorem fw_351 : Jvm.Cond.code fy_F_outputs prog_1_method_14_code (4 : Nat) (Option.some Jvm.ClassFile.FieldType.int) ∈ fk_G := fk_in (fk_tab (List.mem_of_getElem? (i := 351) (by decide +kernel))) rfl
theorem fw_352 : Jvm.Cond.methodLink "FootprintNet" (116 : Nat) fy_Nt_firstOnes ∈ fk_G := fk_in (fk_tab (List.mem_of_getElem? (i := 352) (by decide +kernel))) rfl
theorem fw_353 : Jvm.Cond.instanceMethod fy_Nt_firstOnes ∈ fk_G := fk_in (fk_tab (List.mem_of_getElem? (i := 353) (by decide +kernel))) rfl
theorem fw_354 : Jvm.Cond.selects "FootprintNet$Net" fy_Nt_firstOnes fy_Nt_firstOnes ∈ fk_G := fk_in (fk_tab (List.mem_of_getElem? (i := 354) (by decide +kernel))) rfl
theorem fw_355 : Jvm.Cond.code fy_Nt_firstOnes prog_4_method_5_code (1 : Nat) (Option.some Jvm.ClassFile.FieldType.int) ∈ fk_G := fk_in (fk_tab (List.mem_of_getElem? (i := 355) (by decide +kernel))) rfl
theorem fw_356 : Jvm.Cond.methodLink "FootprintNet" (119 : Nat) fy_Nt_outputsOf ∈ fk_G := fk_in (fk_tab (List.mem_of_getElem? (i := 356) (by decide +kernel))) rfl
theorem fw_357 : Jvm.Cond.instanceMethod fy_Nt_outputsOf ∈ fk_G := fk_in (fk_tab (List.mem_of_getElem? (i := 357) (by decide +kernel))) rfl
theorem fw_358 : Jvm.Cond.selects "FootprintNet$Net" fy_Nt_outputsOf fy_Nt_outputsOf ∈ fk_G := fk_in (fk_tab (List.mem_of_getElem? (i := 358) (by decide +kernel))) rfl
theorem fw_359 : Jvm.Cond.code fy_Nt_outputsOf prog_4_method_4_code (2 : Nat) (Option.some Jvm.ClassFile.FieldType.int) ∈ fk_G := fk_in (fk_tab (List.mem_of_getElem? (i := 359) (by decide +kernel))) rfl
theorem fw_360 : Jvm.Cond.methodLink "FootprintNetLaw" (70 : Nat) fy_F_fits ∈ fk_G := fk_in (fk_tab (List.mem_of_getElem? (i := 360) (by decide +kernel))) rfl
theorem fw_361 : Jvm.Cond.instanceMethod fy_F_fits ∈ fk_G := fk_in (fk_tab (List.mem_of_getElem? (i := 361) (by decide +kernel))) rfl
theorem fw_362 : Jvm.Cond.selects "FootprintNet" fy_F_fits fy_F_fits ∈ fk_G := fk_in (fk_tab (List.mem_of_getElem? (i := 362) (by decide +kernel))) rfl
theorem fw_363 : Jvm.Cond.code fy_F_fits prog_1_method_15_code (4 : Nat) (Option.some Jvm.ClassFile.FieldType.boolean) ∈ fk_G := fk_in (fk_tab (List.mem_of_getElem? (i := 363) (by decide +kernel))) rfl
theorem fw_364 : Jvm.Cond.methodLink "FootprintNet" (122 : Nat) fy_F_replays ∈ fk_G := fk_in (fk_tab (List.mem_of_getElem? (i := 364) (by decide +kernel))) rfl
theorem fw_366 : Jvm.Cond.instanceMethod fy_F_replays ∈ fk_G := fk_in (fk_tab (List.mem_of_getElem? (i := 366) (by decide +kernel))) rfl
theorem fw_367 : Jvm.Cond.code fy_F_replays prog_1_method_25_code (7 : Nat) (Option.some Jvm.ClassFile.FieldType.boolean) ∈ fk_G := fk_in (fk_tab (List.mem_of_getElem? (i := 367) (by decide +kernel))) rfl
theorem fw_368 : Jvm.Cond.methodLink "FootprintNet" (162 : Nat) fy_Nt_enabledIn ∈ fk_G := fk_in (fk_tab (List.mem_of_getElem? (i := 368) (by decide +kernel))) rfl
theorem fw_369 : Jvm.Cond.instanceMethod fy_Nt_enabledIn ∈ fk_G := fk_in (fk_tab (List.mem_of_getElem? (i := 369) (by decide +kernel))) rfl
theorem fw_370 : Jvm.Cond.selects "FootprintNet$Net" fy_Nt_enabledIn fy_Nt_enabledIn ∈ fk_G := fk_in (fk_tab (List.mem_of_getElem? (i := 370) (by decide +kernel))) rfl
theorem fw_371 : Jvm.Cond.code fy_Nt_enabledIn prog_4_method_15_code (7 : Nat) (Option.some Jvm.ClassFile.FieldType.int) ∈ fk_G := fk_in (fk_tab (List.mem_of_getElem? (i := 371) (by decide +kernel))) rfl
theorem fw_372 : Jvm.Cond.constantLong "FootprintNet$Net" (64 : Nat) (1229782938247303441 : Int64) ∈ fk_G := fk_in (fk_tab (List.mem_of_getElem? (i := 372) (by decide +kernel))) rfl
theorem fw_373 : Jvm.Cond.constantLong "FootprintNet$Net" (66 : Nat) (-1 : Int64) ∈ fk_G := fk_in (fk_tab (List.mem_of_getElem? (i := 373) (by decide +kernel))) rfl
theorem fw_374 : Jvm.Cond.methodLink "FootprintNet" (166 : Nat) fy_F_isIn ∈ fk_G := fk_in (fk_tab (List.mem_of_getElem? (i := 374) (by decide +kernel))) rfl
theorem fw_375 : Jvm.Cond.methodLink "FootprintNet" (169 : Nat) fy_Nt_afterFiring ∈ fk_G := fk_in (fk_tab (List.mem_of_getElem? (i := 375) (by decide +kernel))) rfl
theorem fw_376 : Jvm.Cond.instanceMethod fy_Nt_afterFiring ∈ fk_G := fk_in (fk_tab (List.mem_of_getElem? (i := 376) (by decide +kernel))) rfl
theorem fw_377 : Jvm.Cond.selects "FootprintNet$Net" fy_Nt_afterFiring fy_Nt_afterFiring ∈ fk_G := fk_in (fk_tab (List.mem_of_getElem? (i := 377) (by decide +kernel))) rfl
theorem fw_378 : Jvm.Cond.code fy_Nt_afterFiring prog_4_method_16_code (4 : Nat) (Option.some Jvm.ClassFile.FieldType.long) ∈ fk_G := fk_in (fk_tab (List.mem_of_getElem? (i := 378) (by decide +kernel))) rfl
theorem fw_379 : Jvm.Cond.constantLong "FootprintNet" (173 : Nat) (16 : Int64) ∈ fk_G := fk_in (fk_tab (List.mem_of_getElem? (i := 379) (by decide +kernel))) rfl
theorem fw_380 : Jvm.Cond.methodLink "FootprintNetLaw" (74 : Nat) fy_F_markings ∈ fk_G := fk_in (fk_tab (List.mem_of_getElem? (i := 380) (by decide +kernel))) rfl
theorem fw_381 : Jvm.Cond.instanceMethod fy_F_markings ∈ fk_G := fk_in (fk_tab (List.mem_of_getElem? (i := 381) (by decide +kernel))) rfl
theorem fw_382 : Jvm.Cond.selects "FootprintNet" fy_F_markings fy_F_markings ∈ fk_G := fk_in (fk_tab (List.mem_of_getElem? (i := 382) (by decide +kernel))) rfl
theorem fw_383 : Jvm.Cond.code fy_F_markings prog_1_method_16_code (3 : Nat) (Option.some Jvm.ClassFile.FieldType.int) ∈ fk_G := fk_in (fk_tab (List.mem_of_getElem? (i := 383) (by decide +kernel))) rfl
theorem fw_384 : Jvm.Cond.methodLink "FootprintNet" (126 : Nat) fy_Re_explore ∈ fk_G := fk_in (fk_tab (List.mem_of_getElem? (i := 384) (by decide +kernel))) rfl
theorem fw_385 : Jvm.Cond.instanceMethod fy_Re_explore ∈ fk_G := fk_in (fk_tab (List.mem_of_getElem? (i := 385) (by decide +kernel))) rfl
theorem fw_386 : Jvm.Cond.selects "FootprintNet$Reach" fy_Re_explore fy_Re_explore ∈ fk_G := fk_in (fk_tab (List.mem_of_getElem? (i := 386) (by decide +kernel))) rfl
theorem fw_387 : Jvm.Cond.code fy_Re_explore prog_6_method_3_code (3 : Nat) (Option.some Jvm.ClassFile.FieldType.boolean) ∈ fk_G := fk_in (fk_tab (List.mem_of_getElem? (i := 387) (by decide +kernel))) rfl
theorem fw_388 : Jvm.Cond.methodLink "FootprintNet$Reach" (33 : Nat) fy_Ar_fillI ∈ fk_G := fk_in (fk_tab (List.mem_of_getElem? (i := 388) (by decide +kernel))) rfl
theorem fw_389 : Jvm.Cond.methodLink "FootprintNet$Reach" (39 : Nat) fy_Re_indexOf ∈ fk_G := fk_in (fk_tab (List.mem_of_getElem? (i := 389) (by decide +kernel))) rfl
theorem fw_391 : Jvm.Cond.instanceMethod fy_Re_indexOf ∈ fk_G := fk_in (fk_tab (List.mem_of_getElem? (i := 391) (by decide +kernel))) rfl
theorem fw_392 : Jvm.Cond.code fy_Re_indexOf prog_6_method_5_code (6 : Nat) (Option.some Jvm.ClassFile.FieldType.int) ∈ fk_G := fk_in (fk_tab (List.mem_of_getElem? (i := 392) (by decide +kernel))) rfl
theorem fw_393 : Jvm.Cond.constantLong "FootprintNet$Reach" (62 : Nat) (-7046029254386353131 : Int64) ∈ fk_G := fk_in (fk_tab (List.mem_of_getElem? (i := 393) (by decide +kernel))) rfl
theorem fw_394 : Jvm.Cond.methodLink "FootprintNet$Reach" (64 : Nat) fy_Re_addAt ∈ fk_G := fk_in (fk_tab (List.mem_of_getElem? (i := 394) (by decide +kernel))) rfl
theorem fw_396 : Jvm.Cond.instanceMethod fy_Re_addAt ∈ fk_G := fk_in (fk_tab (List.mem_of_getElem? (i := 396) (by decide +kernel))) rfl
theorem fw_397 : Jvm.Cond.code fy_Re_addAt prog_6_method_6_code (4 : Nat) (Option.some Jvm.ClassFile.FieldType.int) ∈ fk_G := fk_in (fk_tab (List.mem_of_getElem? (i := 397) (by decide +kernel))) rfl
theorem fw_398 : Jvm.Cond.methodLink "FootprintNet$Reach" (43 : Nat) fy_Re_addNextOf ∈ fk_G := fk_in (fk_tab (List.mem_of_getElem? (i := 398) (by decide +kernel))) rfl
theorem fw_400 : Jvm.Cond.instanceMethod fy_Re_addNextOf ∈ fk_G := fk_in (fk_tab (List.mem_of_getElem? (i := 400) (by decide +kernel))) rfl
theorem fw_401 : Jvm.Cond.code fy_Re_addNextOf prog_6_method_4_code (8 : Nat) (Option.some Jvm.ClassFile.FieldType.boolean) ∈ fk_G := fk_in (fk_tab (List.mem_of_getElem? (i := 401) (by decide +kernel))) rfl
theorem fw_402 : Jvm.Cond.methodLink "FootprintNet$Reach" (47 : Nat) fy_Nt_enabledIn ∈ fk_G := fk_in (fk_tab (List.mem_of_getElem? (i := 402) (by decide +kernel))) rfl
theorem fw_403 : Jvm.Cond.methodLinkNest "FootprintNet$Reach" (52 : Nat) fy_F_isIn "FootprintNet" ∈ fk_N := fk_inN (fk_tab (List.mem_of_getElem? (i := 403) (by decide +kernel))) rfl
theorem fw_404 : Jvm.Cond.methodLink "FootprintNet$Reach" (56 : Nat) fy_Nt_afterFiring ∈ fk_G := fk_in (fk_tab (List.mem_of_getElem? (i := 404) (by decide +kernel))) rfl
theorem fw_405 : Jvm.Cond.constantLong "FootprintNet$Reach" (60 : Nat) (-8608480567731124088 : Int64) ∈ fk_G := fk_in (fk_tab (List.mem_of_getElem? (i := 405) (by decide +kernel))) rfl
theorem fw_406 : Jvm.Cond.methodLink "FootprintNet" (130 : Nat) fy_Re_markingCount ∈ fk_G := fk_in (fk_tab (List.mem_of_getElem? (i := 406) (by decide +kernel))) rfl
theorem fw_407 : Jvm.Cond.instanceMethod fy_Re_markingCount ∈ fk_G := fk_in (fk_tab (List.mem_of_getElem? (i := 407) (by decide +kernel))) rfl
theorem fw_408 : Jvm.Cond.selects "FootprintNet$Reach" fy_Re_markingCount fy_Re_markingCount ∈ fk_G := fk_in (fk_tab (List.mem_of_getElem? (i := 408) (by decide +kernel))) rfl
theorem fw_409 : Jvm.Cond.code fy_Re_markingCount prog_6_method_2_code (1 : Nat) (Option.some Jvm.ClassFile.FieldType.int) ∈ fk_G := fk_in (fk_tab (List.mem_of_getElem? (i := 409) (by decide +kernel))) rfl
theorem fw_410 : Jvm.Cond.methodLink "FootprintNetLaw" (78 : Nat) fy_F_sound ∈ fk_G := fk_in (fk_tab (List.mem_of_getElem? (i := 410) (by decide +kernel))) rfl
theorem fw_411 : Jvm.Cond.instanceMethod fy_F_sound ∈ fk_G := fk_in (fk_tab (List.mem_of_getElem? (i := 411) (by decide +kernel))) rfl
theorem fw_412 : Jvm.Cond.selects "FootprintNet" fy_F_sound fy_F_sound ∈ fk_G := fk_in (fk_tab (List.mem_of_getElem? (i := 412) (by decide +kernel))) rfl
theorem fw_413 : Jvm.Cond.code fy_F_sound prog_1_method_17_code (3 : Nat) (Option.some Jvm.ClassFile.FieldType.int) ∈ fk_G := fk_in (fk_tab (List.mem_of_getElem? (i := 413) (by decide +kernel))) rfl
theorem fw_414 : Jvm.Cond.methodLink "FootprintNet" (133 : Nat) fy_Re_provesSound ∈ fk_G := fk_in (fk_tab (List.mem_of_getElem? (i := 414) (by decide +kernel))) rfl
theorem fw_415 : Jvm.Cond.instanceMethod fy_Re_provesSound ∈ fk_G := fk_in (fk_tab (List.mem_of_getElem? (i := 415) (by decide +kernel))) rfl
theorem fw_416 : Jvm.Cond.selects "FootprintNet$Reach" fy_Re_provesSound fy_Re_provesSound ∈ fk_G := fk_in (fk_tab (List.mem_of_getElem? (i := 416) (by decide +kernel))) rfl
theorem fw_417 : Jvm.Cond.code fy_Re_provesSound prog_6_method_7_code (2 : Nat) (Option.some Jvm.ClassFile.FieldType.boolean) ∈ fk_G := fk_in (fk_tab (List.mem_of_getElem? (i := 417) (by decide +kernel))) rfl
theorem fw_418 : Jvm.Cond.methodLink "FootprintNet$Reach" (68 : Nat) fy_Nt_activitySet ∈ fk_G := fk_in (fk_tab (List.mem_of_getElem? (i := 418) (by decide +kernel))) rfl
theorem fw_419 : Jvm.Cond.instanceMethod fy_Nt_activitySet ∈ fk_G := fk_in (fk_tab (List.mem_of_getElem? (i := 419) (by decide +kernel))) rfl
theorem fw_420 : Jvm.Cond.selects "FootprintNet$Net" fy_Nt_activitySet fy_Nt_activitySet ∈ fk_G := fk_in (fk_tab (List.mem_of_getElem? (i := 420) (by decide +kernel))) rfl
theorem fw_421 : Jvm.Cond.code fy_Nt_activitySet prog_4_method_7_code (1 : Nat) (Option.some Jvm.ClassFile.FieldType.int) ∈ fk_G := fk_in (fk_tab (List.mem_of_getElem? (i := 421) (by decide +kernel))) rfl
theorem fw_422 : Jvm.Cond.methodLink "FootprintNet$Reach" (72 : Nat) fy_Re_sinkMeansFinal ∈ fk_G := fk_in (fk_tab (List.mem_of_getElem? (i := 422) (by decide +kernel))) rfl
theorem fw_424 : Jvm.Cond.instanceMethod fy_Re_sinkMeansFinal ∈ fk_G := fk_in (fk_tab (List.mem_of_getElem? (i := 424) (by decide +kernel))) rfl
theorem fw_425 : Jvm.Cond.code fy_Re_sinkMeansFinal prog_6_method_8_code (2 : Nat) (Option.some Jvm.ClassFile.FieldType.boolean) ∈ fk_G := fk_in (fk_tab (List.mem_of_getElem? (i := 425) (by decide +kernel))) rfl
theorem fw_426 : Jvm.Cond.constantLong "FootprintNet$Reach" (79 : Nat) (240 : Int64) ∈ fk_G := fk_in (fk_tab (List.mem_of_getElem? (i := 426) (by decide +kernel))) rfl
theorem fw_427 : Jvm.Cond.constantLong "FootprintNet$Reach" (81 : Nat) (16 : Int64) ∈ fk_G := fk_in (fk_tab (List.mem_of_getElem? (i := 427) (by decide +kernel))) rfl
theorem fw_428 : Jvm.Cond.methodLink "FootprintNet$Reach" (76 : Nat) fy_Re_allCanEnd ∈ fk_G := fk_in (fk_tab (List.mem_of_getElem? (i := 428) (by decide +kernel))) rfl
theorem fw_430 : Jvm.Cond.instanceMethod fy_Re_allCanEnd ∈ fk_G := fk_in (fk_tab (List.mem_of_getElem? (i := 430) (by decide +kernel))) rfl
theorem fw_431 : Jvm.Cond.code fy_Re_allCanEnd prog_6_method_9_code (4 : Nat) (Option.some Jvm.ClassFile.FieldType.boolean) ∈ fk_G := fk_in (fk_tab (List.mem_of_getElem? (i := 431) (by decide +kernel))) rfl
theorem fw_432 : Jvm.Cond.methodLink "FootprintNet$Reach" (83 : Nat) fy_Re_spreadEnding ∈ fk_G := fk_in (fk_tab (List.mem_of_getElem? (i := 432) (by decide +kernel))) rfl
theorem fw_434 : Jvm.Cond.instanceMethod fy_Re_spreadEnding ∈ fk_G := fk_in (fk_tab (List.mem_of_getElem? (i := 434) (by decide +kernel))) rfl
theorem fw_435 : Jvm.Cond.code fy_Re_spreadEnding prog_6_method_10_code (3 : Nat) (Option.some Jvm.ClassFile.FieldType.int) ∈ fk_G := fk_in (fk_tab (List.mem_of_getElem? (i := 435) (by decide +kernel))) rfl
theorem fw_436 : Jvm.Cond.methodLink "FootprintNet$Reach" (86 : Nat) fy_Re_leadsToEnding ∈ fk_G := fk_in (fk_tab (List.mem_of_getElem? (i := 436) (by decide +kernel))) rfl
theorem fw_438 : Jvm.Cond.instanceMethod fy_Re_leadsToEnding ∈ fk_G := fk_in (fk_tab (List.mem_of_getElem? (i := 438) (by decide +kernel))) rfl
theorem fw_439 : Jvm.Cond.code fy_Re_leadsToEnding prog_6_method_11_code (4 : Nat) (Option.some Jvm.ClassFile.FieldType.boolean) ∈ fk_G := fk_in (fk_tab (List.mem_of_getElem? (i := 439) (by decide +kernel))) rfl
theorem fw_440 : Jvm.Cond.methodLink "FootprintNetLaw" (82 : Nat) fy_F_shape ∈ fk_G := fk_in (fk_tab (List.mem_of_getElem? (i := 440) (by decide +kernel))) rfl
theorem fw_441 : Jvm.Cond.instanceMethod fy_F_shape ∈ fk_G := fk_in (fk_tab (List.mem_of_getElem? (i := 441) (by decide +kernel))) rfl
theorem fw_442 : Jvm.Cond.selects "FootprintNet" fy_F_shape fy_F_shape ∈ fk_G := fk_in (fk_tab (List.mem_of_getElem? (i := 442) (by decide +kernel))) rfl
theorem fw_443 : Jvm.Cond.code fy_F_shape prog_1_method_18_code (6 : Nat) (Option.some Jvm.ClassFile.FieldType.int) ∈ fk_G := fk_in (fk_tab (List.mem_of_getElem? (i := 443) (by decide +kernel))) rfl
theorem fw_444 : Jvm.Cond.methodLink "FootprintNet" (136 : Nat) fy_Nt_hasSelfLoop ∈ fk_G := fk_in (fk_tab (List.mem_of_getElem? (i := 444) (by decide +kernel))) rfl
theorem fw_445 : Jvm.Cond.instanceMethod fy_Nt_hasSelfLoop ∈ fk_G := fk_in (fk_tab (List.mem_of_getElem? (i := 445) (by decide +kernel))) rfl
theorem fw_446 : Jvm.Cond.selects "FootprintNet$Net" fy_Nt_hasSelfLoop fy_Nt_hasSelfLoop ∈ fk_G := fk_in (fk_tab (List.mem_of_getElem? (i := 446) (by decide +kernel))) rfl
theorem fw_447 : Jvm.Cond.code fy_Nt_hasSelfLoop prog_4_method_17_code (2 : Nat) (Option.some Jvm.ClassFile.FieldType.boolean) ∈ fk_G := fk_in (fk_tab (List.mem_of_getElem? (i := 447) (by decide +kernel))) rfl
theorem fw_448 : Jvm.Cond.methodLink "FootprintNet" (140 : Nat) fy_Nt_hasShortLoop ∈ fk_G := fk_in (fk_tab (List.mem_of_getElem? (i := 448) (by decide +kernel))) rfl
theorem fw_449 : Jvm.Cond.instanceMethod fy_Nt_hasShortLoop ∈ fk_G := fk_in (fk_tab (List.mem_of_getElem? (i := 449) (by decide +kernel))) rfl
theorem fw_450 : Jvm.Cond.selects "FootprintNet$Net" fy_Nt_hasShortLoop fy_Nt_hasShortLoop ∈ fk_G := fk_in (fk_tab (List.mem_of_getElem? (i := 450) (by decide +kernel))) rfl
theorem fw_451 : Jvm.Cond.code fy_Nt_hasShortLoop prog_4_method_18_code (5 : Nat) (Option.some Jvm.ClassFile.FieldType.boolean) ∈ fk_G := fk_in (fk_tab (List.mem_of_getElem? (i := 451) (by decide +kernel))) rfl
theorem fw_452 : Jvm.Cond.methodLink "FootprintNet$Net" (68 : Nat) fy_It_bitCount ∈ fk_G := fk_in (fk_tab (List.mem_of_getElem? (i := 452) (by decide +kernel))) rfl
theorem fw_453 : Jvm.Cond.static fy_It_bitCount ∈ fk_G := fk_in (fk_tab (List.mem_of_getElem? (i := 453) (by decide +kernel))) rfl
theorem fw_454 : Jvm.Cond.code fy_It_bitCount prog_9_method_49_code (1 : Nat) (Option.some Jvm.ClassFile.FieldType.int) ∈ fk_G := fk_in (fk_tab (List.mem_of_getElem? (i := 454) (by decide +kernel))) rfl
theorem fw_455 : Jvm.Cond.constant "java/lang/Integer" (265 : Nat) (1431655765 : Int32) ∈ fk_G := fk_in (fk_tab (List.mem_of_getElem? (i := 455) (by decide +kernel))) rfl
theorem fw_456 : Jvm.Cond.constant "java/lang/Integer" (266 : Nat) (858993459 : Int32) ∈ fk_G := fk_in (fk_tab (List.mem_of_getElem? (i := 456) (by decide +kernel))) rfl
theorem fw_457 : Jvm.Cond.constant "java/lang/Integer" (267 : Nat) (252645135 : Int32) ∈ fk_G := fk_in (fk_tab (List.mem_of_getElem? (i := 457) (by decide +kernel))) rfl
theorem fw_458 : Jvm.Cond.methodLink "FootprintNet" (143 : Nat) fy_Nt_hasMixedChoice ∈ fk_G := fk_in (fk_tab (List.mem_of_getElem? (i := 458) (by decide +kernel))) rfl
theorem fw_459 : Jvm.Cond.instanceMethod fy_Nt_hasMixedChoice ∈ fk_G := fk_in (fk_tab (List.mem_of_getElem? (i := 459) (by decide +kernel))) rfl
theorem fw_460 : Jvm.Cond.selects "FootprintNet$Net" fy_Nt_hasMixedChoice fy_Nt_hasMixedChoice ∈ fk_G := fk_in (fk_tab (List.mem_of_getElem? (i := 460) (by decide +kernel))) rfl
theorem fw_461 : Jvm.Cond.code fy_Nt_hasMixedChoice prog_4_method_19_code (3 : Nat) (Option.some Jvm.ClassFile.FieldType.boolean) ∈ fk_G := fk_in (fk_tab (List.mem_of_getElem? (i := 461) (by decide +kernel))) rfl
theorem fw_462 : Jvm.Cond.methodLink "FootprintNet$Net" (74 : Nat) fy_Nt_sharesOutputs ∈ fk_G := fk_in (fk_tab (List.mem_of_getElem? (i := 462) (by decide +kernel))) rfl
theorem fw_464 : Jvm.Cond.instanceMethod fy_Nt_sharesOutputs ∈ fk_G := fk_in (fk_tab (List.mem_of_getElem? (i := 464) (by decide +kernel))) rfl
theorem fw_465 : Jvm.Cond.code fy_Nt_sharesOutputs prog_4_method_20_code (5 : Nat) (Option.some Jvm.ClassFile.FieldType.boolean) ∈ fk_G := fk_in (fk_tab (List.mem_of_getElem? (i := 465) (by decide +kernel))) rfl
theorem fw_466 : Jvm.Cond.methodLink "FootprintNetLaw" (88 : Nat) fy_F_play ∈ fk_G := fk_in (fk_tab (List.mem_of_getElem? (i := 466) (by decide +kernel))) rfl
theorem fw_467 : Jvm.Cond.instanceMethod fy_F_play ∈ fk_G := fk_in (fk_tab (List.mem_of_getElem? (i := 467) (by decide +kernel))) rfl
theorem fw_468 : Jvm.Cond.selects "FootprintNet" fy_F_play fy_F_play ∈ fk_G := fk_in (fk_tab (List.mem_of_getElem? (i := 468) (by decide +kernel))) rfl
theorem fw_469 : Jvm.Cond.code fy_F_play prog_1_method_19_code (5 : Nat) (Option.some Jvm.ClassFile.FieldType.int) ∈ fk_G := fk_in (fk_tab (List.mem_of_getElem? (i := 469) (by decide +kernel))) rfl
theorem fw_470 : Jvm.Cond.methodLink "FootprintNet" (146 : Nat) fy_Lg_isFull ∈ fk_G := fk_in (fk_tab (List.mem_of_getElem? (i := 470) (by decide +kernel))) rfl
theorem fw_471 : Jvm.Cond.methodLink "FootprintNet" (149 : Nat) fy_Pl_reachesFinal ∈ fk_G := fk_in (fk_tab (List.mem_of_getElem? (i := 471) (by decide +kernel))) rfl
theorem fw_472 : Jvm.Cond.instanceMethod fy_Pl_reachesFinal ∈ fk_G := fk_in (fk_tab (List.mem_of_getElem? (i := 472) (by decide +kernel))) rfl
theorem fw_473 : Jvm.Cond.selects "FootprintNet$Player" fy_Pl_reachesFinal fy_Pl_reachesFinal ∈ fk_G := fk_in (fk_tab (List.mem_of_getElem? (i := 473) (by decide +kernel))) rfl
theorem fw_474 : Jvm.Cond.code fy_Pl_reachesFinal prog_5_method_4_code (10 : Nat) (Option.some Jvm.ClassFile.FieldType.boolean) ∈ fk_G := fk_in (fk_tab (List.mem_of_getElem? (i := 474) (by decide +kernel))) rfl
theorem fw_475 : Jvm.Cond.constantLong "FootprintNet$Player" (19 : Nat) (16 : Int64) ∈ fk_G := fk_in (fk_tab (List.mem_of_getElem? (i := 475) (by decide +kernel))) rfl
theorem fw_476 : Jvm.Cond.methodLink "FootprintNet$Player" (21 : Nat) fy_Nt_enabledIn ∈ fk_G := fk_in (fk_tab (List.mem_of_getElem? (i := 476) (by decide +kernel))) rfl
theorem fw_477 : Jvm.Cond.constantLong "FootprintNet$Player" (27 : Nat) (7 : Int64) ∈ fk_G := fk_in (fk_tab (List.mem_of_getElem? (i := 477) (by decide +kernel))) rfl
theorem fw_478 : Jvm.Cond.methodLink "FootprintNet$Player" (29 : Nat) fy_Pl_chosenOf ∈ fk_G := fk_in (fk_tab (List.mem_of_getElem? (i := 478) (by decide +kernel))) rfl
theorem fw_479 : Jvm.Cond.static fy_Pl_chosenOf ∈ fk_G := fk_in (fk_tab (List.mem_of_getElem? (i := 479) (by decide +kernel))) rfl
theorem fw_480 : Jvm.Cond.code fy_Pl_chosenOf prog_5_method_5_code (5 : Nat) (Option.some Jvm.ClassFile.FieldType.int) ∈ fk_G := fk_in (fk_tab (List.mem_of_getElem? (i := 480) (by decide +kernel))) rfl
theorem fw_481 : Jvm.Cond.methodLink "FootprintNet$Player" (37 : Nat) fy_It_bitCount ∈ fk_G := fk_in (fk_tab (List.mem_of_getElem? (i := 481) (by decide +kernel))) rfl
theorem fw_482 : Jvm.Cond.methodLinkNest "FootprintNet$Player" (43 : Nat) fy_F_isIn "FootprintNet" ∈ fk_N := fk_inN (fk_tab (List.mem_of_getElem? (i := 482) (by decide +kernel))) rfl
theorem fw_483 : Jvm.Cond.methodLink "FootprintNet$Player" (33 : Nat) fy_Nt_afterFiring ∈ fk_G := fk_in (fk_tab (List.mem_of_getElem? (i := 483) (by decide +kernel))) rfl
theorem fw_484 : Jvm.Cond.methodLink "FootprintNet" (153 : Nat) fy_Pl_firedCount ∈ fk_G := fk_in (fk_tab (List.mem_of_getElem? (i := 484) (by decide +kernel))) rfl
theorem fw_485 : Jvm.Cond.instanceMethod fy_Pl_firedCount ∈ fk_G := fk_in (fk_tab (List.mem_of_getElem? (i := 485) (by decide +kernel))) rfl
theorem fw_486 : Jvm.Cond.selects "FootprintNet$Player" fy_Pl_firedCount fy_Pl_firedCount ∈ fk_G := fk_in (fk_tab (List.mem_of_getElem? (i := 486) (by decide +kernel))) rfl
theorem fw_487 : Jvm.Cond.code fy_Pl_firedCount prog_5_method_2_code (1 : Nat) (Option.some Jvm.ClassFile.FieldType.int) ∈ fk_G := fk_in (fk_tab (List.mem_of_getElem? (i := 487) (by decide +kernel))) rfl
theorem fw_488 : Jvm.Cond.methodLink "FootprintNet" (156 : Nat) fy_Pl_firedAt ∈ fk_G := fk_in (fk_tab (List.mem_of_getElem? (i := 488) (by decide +kernel))) rfl
theorem fw_489 : Jvm.Cond.instanceMethod fy_Pl_firedAt ∈ fk_G := fk_in (fk_tab (List.mem_of_getElem? (i := 489) (by decide +kernel))) rfl
theorem fw_490 : Jvm.Cond.selects "FootprintNet$Player" fy_Pl_firedAt fy_Pl_firedAt ∈ fk_G := fk_in (fk_tab (List.mem_of_getElem? (i := 490) (by decide +kernel))) rfl
theorem fw_491 : Jvm.Cond.code fy_Pl_firedAt prog_5_method_3_code (2 : Nat) (Option.some Jvm.ClassFile.FieldType.int) ∈ fk_G := fk_in (fk_tab (List.mem_of_getElem? (i := 491) (by decide +kernel))) rfl
theorem fw_492 : Jvm.Cond.methodLink "FootprintNetLaw" (93 : Nat) fy_F_same ∈ fk_G := fk_in (fk_tab (List.mem_of_getElem? (i := 492) (by decide +kernel))) rfl
theorem fw_493 : Jvm.Cond.instanceMethod fy_F_same ∈ fk_G := fk_in (fk_tab (List.mem_of_getElem? (i := 493) (by decide +kernel))) rfl
theorem fw_494 : Jvm.Cond.selects "FootprintNet" fy_F_same fy_F_same ∈ fk_G := fk_in (fk_tab (List.mem_of_getElem? (i := 494) (by decide +kernel))) rfl
theorem fw_495 : Jvm.Cond.code fy_F_same prog_1_method_20_code (1 : Nat) (Option.some Jvm.ClassFile.FieldType.boolean) ∈ fk_G := fk_in (fk_tab (List.mem_of_getElem? (i := 495) (by decide +kernel))) rfl
theorem fw_496 : Jvm.Cond.methodLink "FootprintNet" (159 : Nat) fy_Nt_isLike ∈ fk_G := fk_in (fk_tab (List.mem_of_getElem? (i := 496) (by decide +kernel))) rfl
theorem fw_497 : Jvm.Cond.instanceMethod fy_Nt_isLike ∈ fk_G := fk_in (fk_tab (List.mem_of_getElem? (i := 497) (by decide +kernel))) rfl
theorem fw_498 : Jvm.Cond.selects "FootprintNet$Net" fy_Nt_isLike fy_Nt_isLike ∈ fk_G := fk_in (fk_tab (List.mem_of_getElem? (i := 498) (by decide +kernel))) rfl
theorem fw_499 : Jvm.Cond.code fy_Nt_isLike prog_4_method_21_code (3 : Nat) (Option.some Jvm.ClassFile.FieldType.boolean) ∈ fk_G := fk_in (fk_tab (List.mem_of_getElem? (i := 499) (by decide +kernel))) rfl
theorem fw_500 : Jvm.Cond.methodLink "FootprintNet$Net" (77 : Nat) fy_Nt_hasPlace ∈ fk_G := fk_in (fk_tab (List.mem_of_getElem? (i := 500) (by decide +kernel))) rfl
theorem fw_501 : Jvm.Cond.classLink "FootprintNetLaw" (10 : Nat) "FootprintNetModel" ∈ fk_G := fk_in (fk_tab (List.mem_of_getElem? (i := 501) (by decide +kernel))) rfl
theorem fw_502 : Jvm.Cond.instantiable "FootprintNetModel" (19 : Nat) ∈ fk_G := fk_in (fk_tab (List.mem_of_getElem? (i := 502) (by decide +kernel))) rfl
theorem fw_503 : Jvm.Cond.methodLink "FootprintNetLaw" (12 : Nat) fy_Md_init ∈ fk_G := fk_in (fk_tab (List.mem_of_getElem? (i := 503) (by decide +kernel))) rfl
theorem fw_504 : Jvm.Cond.instanceMethod fy_Md_init ∈ fk_G := fk_in (fk_tab (List.mem_of_getElem? (i := 504) (by decide +kernel))) rfl
theorem fw_505 : Jvm.Cond.code fy_Md_init prog_8_method_1_code (1 : Nat) (Option.none : Option Jvm.ClassFile.FieldType) ∈ fk_G := fk_in (fk_tab (List.mem_of_getElem? (i := 505) (by decide +kernel))) rfl
theorem fw_506 : Jvm.Cond.methodLink "FootprintNetModel" (1 : Nat) fy_Ob_init ∈ fk_G := fk_in (fk_tab (List.mem_of_getElem? (i := 506) (by decide +kernel))) rfl
theorem fw_507 : Jvm.Cond.fieldLink "FootprintNetModel" (58 : Nat) "FootprintNetModel" "traces" "I" ∈ fk_G := fk_in (fk_tab (List.mem_of_getElem? (i := 507) (by decide +kernel))) rfl
theorem fw_508 : Jvm.Cond.fieldLink "FootprintNetModel" (7 : Nat) "FootprintNetModel" "lengths" "[I" ∈ fk_G := fk_in (fk_tab (List.mem_of_getElem? (i := 508) (by decide +kernel))) rfl
theorem fw_509 : Jvm.Cond.fieldLink "FootprintNetModel" (13 : Nat) "FootprintNetModel" "log" "[I" ∈ fk_G := fk_in (fk_tab (List.mem_of_getElem? (i := 509) (by decide +kernel))) rfl
theorem fw_510 : Jvm.Cond.fieldLink "FootprintNetModel" (16 : Nat) "FootprintNetModel" "count" "[I" ∈ fk_G := fk_in (fk_tab (List.mem_of_getElem? (i := 510) (by decide +kernel))) rfl
theorem fw_511 : Jvm.Cond.fieldLink "FootprintNetModel" (19 : Nat) "FootprintNetModel" "ins" "[I" ∈ fk_G := fk_in (fk_tab (List.mem_of_getElem? (i := 511) (by decide +kernel))) rfl
theorem fw_512 : Jvm.Cond.fieldLink "FootprintNetModel" (22 : Nat) "FootprintNetModel" "outs" "[I" ∈ fk_G := fk_in (fk_tab (List.mem_of_getElem? (i := 512) (by decide +kernel))) rfl
theorem fw_513 : Jvm.Cond.fieldLink "FootprintNetModel" (25 : Nat) "FootprintNetModel" "first" "[I" ∈ fk_G := fk_in (fk_tab (List.mem_of_getElem? (i := 513) (by decide +kernel))) rfl
theorem fw_514 : Jvm.Cond.fieldLink "FootprintNetModel" (28 : Nat) "FootprintNetModel" "last" "[I" ∈ fk_G := fk_in (fk_tab (List.mem_of_getElem? (i := 514) (by decide +kernel))) rfl
theorem fw_515 : Jvm.Cond.fieldLink "FootprintNetModel" (31 : Nat) "FootprintNetModel" "acts" "[I" ∈ fk_G := fk_in (fk_tab (List.mem_of_getElem? (i := 515) (by decide +kernel))) rfl
theorem fw_516 : Jvm.Cond.fieldLink "FootprintNetModel" (34 : Nat) "FootprintNetModel" "table" "[I" ∈ fk_G := fk_in (fk_tab (List.mem_of_getElem? (i := 516) (by decide +kernel))) rfl
theorem fw_517 : Jvm.Cond.fieldLink "FootprintNetModel" (72 : Nat) "FootprintNetModel" "found" "I" ∈ fk_G := fk_in (fk_tab (List.mem_of_getElem? (i := 517) (by decide +kernel))) rfl
theorem fw_518 : Jvm.Cond.fieldLink "FootprintNetModel" (37 : Nat) "FootprintNetModel" "foundIn" "[I" ∈ fk_G := fk_in (fk_tab (List.mem_of_getElem? (i := 518) (by decide +kernel))) rfl
theorem fw_519 : Jvm.Cond.fieldLink "FootprintNetModel" (40 : Nat) "FootprintNetModel" "foundOut" "[I" ∈ fk_G := fk_in (fk_tab (List.mem_of_getElem? (i := 519) (by decide +kernel))) rfl
theorem fw_520 : Jvm.Cond.fieldLink "FootprintNetModel" (43 : Nat) "FootprintNetModel" "tokens" "[I" ∈ fk_G := fk_in (fk_tab (List.mem_of_getElem? (i := 520) (by decide +kernel))) rfl
theorem fw_521 : Jvm.Cond.fieldLink "FootprintNetModel" (111 : Nat) "FootprintNetModel" "many" "I" ∈ fk_G := fk_in (fk_tab (List.mem_of_getElem? (i := 521) (by decide +kernel))) rfl
theorem fw_522 : Jvm.Cond.fieldLink "FootprintNetModel" (114 : Nat) "FootprintNetModel" "wide" "Z" ∈ fk_G := fk_in (fk_tab (List.mem_of_getElem? (i := 522) (by decide +kernel))) rfl
theorem fw_523 : Jvm.Cond.fieldLink "FootprintNetModel" (46 : Nat) "FootprintNetModel" "marks" "[B" ∈ fk_G := fk_in (fk_tab (List.mem_of_getElem? (i := 523) (by decide +kernel))) rfl
theorem fw_524 : Jvm.Cond.fieldLink "FootprintNetModel" (50 : Nat) "FootprintNetModel" "next" "[S" ∈ fk_G := fk_in (fk_tab (List.mem_of_getElem? (i := 524) (by decide +kernel))) rfl
theorem fw_525 : Jvm.Cond.fieldLink "FootprintNetModel" (54 : Nat) "FootprintNetModel" "good" "[Z" ∈ fk_G := fk_in (fk_tab (List.mem_of_getElem? (i := 525) (by decide +kernel))) rfl
theorem fw_526 : Jvm.Cond.lays "FootprintNetModel" "FootprintNetModel" "traces" "I" ∈ fk_G := fk_in (fk_tab (List.mem_of_getElem? (i := 526) (by decide +kernel))) rfl
theorem fw_527 : Jvm.Cond.soleField "FootprintNetModel" "traces" ∈ fk_G := fk_in (fk_tab (List.mem_of_getElem? (i := 527) (by decide +kernel))) rfl
theorem fw_528 : Jvm.Cond.laysFinal "FootprintNetModel" "FootprintNetModel" "lengths" "[I" ∈ fk_G := fk_in (fk_tab (List.mem_of_getElem? (i := 528) (by decide +kernel))) rfl
theorem fw_529 : Jvm.Cond.soleField "FootprintNetModel" "lengths" ∈ fk_G := fk_in (fk_tab (List.mem_of_getElem? (i := 529) (by decide +kernel))) rfl
theorem fw_530 : Jvm.Cond.laysFinal "FootprintNetModel" "FootprintNetModel" "log" "[I" ∈ fk_G := fk_in (fk_tab (List.mem_of_getElem? (i := 530) (by decide +kernel))) rfl
theorem fw_531 : Jvm.Cond.soleField "FootprintNetModel" "log" ∈ fk_G := fk_in (fk_tab (List.mem_of_getElem? (i := 531) (by decide +kernel))) rfl
theorem fw_532 : Jvm.Cond.laysFinal "FootprintNetModel" "FootprintNetModel" "count" "[I" ∈ fk_G := fk_in (fk_tab (List.mem_of_getElem? (i := 532) (by decide +kernel))) rfl
theorem fw_533 : Jvm.Cond.soleField "FootprintNetModel" "count" ∈ fk_G := fk_in (fk_tab (List.mem_of_getElem? (i := 533) (by decide +kernel))) rfl
theorem fw_534 : Jvm.Cond.laysFinal "FootprintNetModel" "FootprintNetModel" "ins" "[I" ∈ fk_G := fk_in (fk_tab (List.mem_of_getElem? (i := 534) (by decide +kernel))) rfl
theorem fw_535 : Jvm.Cond.soleField "FootprintNetModel" "ins" ∈ fk_G := fk_in (fk_tab (List.mem_of_getElem? (i := 535) (by decide +kernel))) rfl
theorem fw_536 : Jvm.Cond.laysFinal "FootprintNetModel" "FootprintNetModel" "outs" "[I" ∈ fk_G := fk_in (fk_tab (List.mem_of_getElem? (i := 536) (by decide +kernel))) rfl
theorem fw_537 : Jvm.Cond.soleField "FootprintNetModel" "outs" ∈ fk_G := fk_in (fk_tab (List.mem_of_getElem? (i := 537) (by decide +kernel))) rfl
theorem fw_538 : Jvm.Cond.laysFinal "FootprintNetModel" "FootprintNetModel" "first" "[I" ∈ fk_G := fk_in (fk_tab (List.mem_of_getElem? (i := 538) (by decide +kernel))) rfl
theorem fw_539 : Jvm.Cond.soleField "FootprintNetModel" "first" ∈ fk_G := fk_in (fk_tab (List.mem_of_getElem? (i := 539) (by decide +kernel))) rfl
theorem fw_540 : Jvm.Cond.laysFinal "FootprintNetModel" "FootprintNetModel" "last" "[I" ∈ fk_G := fk_in (fk_tab (List.mem_of_getElem? (i := 540) (by decide +kernel))) rfl
theorem fw_541 : Jvm.Cond.soleField "FootprintNetModel" "last" ∈ fk_G := fk_in (fk_tab (List.mem_of_getElem? (i := 541) (by decide +kernel))) rfl
theorem fw_542 : Jvm.Cond.laysFinal "FootprintNetModel" "FootprintNetModel" "acts" "[I" ∈ fk_G := fk_in (fk_tab (List.mem_of_getElem? (i := 542) (by decide +kernel))) rfl
theorem fw_543 : Jvm.Cond.soleField "FootprintNetModel" "acts" ∈ fk_G := fk_in (fk_tab (List.mem_of_getElem? (i := 543) (by decide +kernel))) rfl
theorem fw_544 : Jvm.Cond.laysFinal "FootprintNetModel" "FootprintNetModel" "table" "[I" ∈ fk_G := fk_in (fk_tab (List.mem_of_getElem? (i := 544) (by decide +kernel))) rfl
theorem fw_545 : Jvm.Cond.soleField "FootprintNetModel" "table" ∈ fk_G := fk_in (fk_tab (List.mem_of_getElem? (i := 545) (by decide +kernel))) rfl
theorem fw_546 : Jvm.Cond.lays "FootprintNetModel" "FootprintNetModel" "found" "I" ∈ fk_G := fk_in (fk_tab (List.mem_of_getElem? (i := 546) (by decide +kernel))) rfl
theorem fw_547 : Jvm.Cond.soleField "FootprintNetModel" "found" ∈ fk_G := fk_in (fk_tab (List.mem_of_getElem? (i := 547) (by decide +kernel))) rfl
theorem fw_548 : Jvm.Cond.laysFinal "FootprintNetModel" "FootprintNetModel" "foundIn" "[I" ∈ fk_G := fk_in (fk_tab (List.mem_of_getElem? (i := 548) (by decide +kernel))) rfl
theorem fw_549 : Jvm.Cond.soleField "FootprintNetModel" "foundIn" ∈ fk_G := fk_in (fk_tab (List.mem_of_getElem? (i := 549) (by decide +kernel))) rfl
theorem fw_550 : Jvm.Cond.laysFinal "FootprintNetModel" "FootprintNetModel" "foundOut" "[I" ∈ fk_G := fk_in (fk_tab (List.mem_of_getElem? (i := 550) (by decide +kernel))) rfl
theorem fw_551 : Jvm.Cond.soleField "FootprintNetModel" "foundOut" ∈ fk_G := fk_in (fk_tab (List.mem_of_getElem? (i := 551) (by decide +kernel))) rfl
theorem fw_552 : Jvm.Cond.laysFinal "FootprintNetModel" "FootprintNetModel" "tokens" "[I" ∈ fk_G := fk_in (fk_tab (List.mem_of_getElem? (i := 552) (by decide +kernel))) rfl
theorem fw_553 : Jvm.Cond.soleField "FootprintNetModel" "tokens" ∈ fk_G := fk_in (fk_tab (List.mem_of_getElem? (i := 553) (by decide +kernel))) rfl
theorem fw_554 : Jvm.Cond.lays "FootprintNetModel" "FootprintNetModel" "many" "I" ∈ fk_G := fk_in (fk_tab (List.mem_of_getElem? (i := 554) (by decide +kernel))) rfl
theorem fw_555 : Jvm.Cond.soleField "FootprintNetModel" "many" ∈ fk_G := fk_in (fk_tab (List.mem_of_getElem? (i := 555) (by decide +kernel))) rfl
theorem fw_556 : Jvm.Cond.lays "FootprintNetModel" "FootprintNetModel" "wide" "Z" ∈ fk_G := fk_in (fk_tab (List.mem_of_getElem? (i := 556) (by decide +kernel))) rfl
theorem fw_557 : Jvm.Cond.soleField "FootprintNetModel" "wide" ∈ fk_G := fk_in (fk_tab (List.mem_of_getElem? (i := 557) (by decide +kernel))) rfl
theorem fw_558 : Jvm.Cond.laysFinal "FootprintNetModel" "FootprintNetModel" "marks" "[B" ∈ fk_G := fk_in (fk_tab (List.mem_of_getElem? (i := 558) (by decide +kernel))) rfl
theorem fw_559 : Jvm.Cond.soleField "FootprintNetModel" "marks" ∈ fk_G := fk_in (fk_tab (List.mem_of_getElem? (i := 559) (by decide +kernel))) rfl
theorem fw_560 : Jvm.Cond.laysFinal "FootprintNetModel" "FootprintNetModel" "next" "[S" ∈ fk_G := fk_in (fk_tab (List.mem_of_getElem? (i := 560) (by decide +kernel))) rfl
theorem fw_561 : Jvm.Cond.soleField "FootprintNetModel" "next" ∈ fk_G := fk_in (fk_tab (List.mem_of_getElem? (i := 561) (by decide +kernel))) rfl
theorem fw_562 : Jvm.Cond.laysFinal "FootprintNetModel" "FootprintNetModel" "good" "[Z" ∈ fk_G := fk_in (fk_tab (List.mem_of_getElem? (i := 562) (by decide +kernel))) rfl
theorem fw_563 : Jvm.Cond.soleField "FootprintNetModel" "good" ∈ fk_G := fk_in (fk_tab (List.mem_of_getElem? (i := 563) (by decide +kernel))) rfl
theorem fw_564 : Jvm.Cond.superclass "FootprintNetModel" "java/lang/Object" ∈ fk_G := fk_in (fk_tab (List.mem_of_getElem? (i := 564) (by decide +kernel))) rfl
theorem fw_565 : Jvm.Cond.arrayClass Jvm.ClassFile.FieldType.byte ∈ fk_G := fk_in (fk_tab (List.mem_of_getElem? (i := 565) (by decide +kernel))) rfl
theorem fw_566 : Jvm.Cond.arrayClass Jvm.ClassFile.FieldType.short ∈ fk_G := fk_in (fk_tab (List.mem_of_getElem? (i := 566) (by decide +kernel))) rfl
theorem fw_567 : Jvm.Cond.methodLink "FootprintNetLaw" (17 : Nat) fy_Md_begin ∈ fk_G := fk_in (fk_tab (List.mem_of_getElem? (i := 567) (by decide +kernel))) rfl
theorem fw_568 : Jvm.Cond.instanceMethod fy_Md_begin ∈ fk_G := fk_in (fk_tab (List.mem_of_getElem? (i := 568) (by decide +kernel))) rfl
theorem fw_569 : Jvm.Cond.selects "FootprintNetModel" fy_Md_begin fy_Md_begin ∈ fk_G := fk_in (fk_tab (List.mem_of_getElem? (i := 569) (by decide +kernel))) rfl
theorem fw_570 : Jvm.Cond.code fy_Md_begin prog_8_method_2_code (1 : Nat) (Option.some Jvm.ClassFile.FieldType.int) ∈ fk_G := fk_in (fk_tab (List.mem_of_getElem? (i := 570) (by decide +kernel))) rfl
theorem fw_571 : Jvm.Cond.methodLink "FootprintNetLaw" (22 : Nat) fy_Md_event ∈ fk_G := fk_in (fk_tab (List.mem_of_getElem? (i := 571) (by decide +kernel))) rfl
theorem fw_572 : Jvm.Cond.instanceMethod fy_Md_event ∈ fk_G := fk_in (fk_tab (List.mem_of_getElem? (i := 572) (by decide +kernel))) rfl
theorem fw_573 : Jvm.Cond.selects "FootprintNetModel" fy_Md_event fy_Md_event ∈ fk_G := fk_in (fk_tab (List.mem_of_getElem? (i := 573) (by decide +kernel))) rfl
theorem fw_574 : Jvm.Cond.code fy_Md_event prog_8_method_3_code (2 : Nat) (Option.some Jvm.ClassFile.FieldType.boolean) ∈ fk_G := fk_in (fk_tab (List.mem_of_getElem? (i := 574) (by decide +kernel))) rfl
theorem fw_575 : Jvm.Cond.methodLink "FootprintNetLaw" (26 : Nat) fy_Md_clear ∈ fk_G := fk_in (fk_tab (List.mem_of_getElem? (i := 575) (by decide +kernel))) rfl
theorem fw_576 : Jvm.Cond.instanceMethod fy_Md_clear ∈ fk_G := fk_in (fk_tab (List.mem_of_getElem? (i := 576) (by decide +kernel))) rfl
theorem fw_577 : Jvm.Cond.selects "FootprintNetModel" fy_Md_clear fy_Md_clear ∈ fk_G := fk_in (fk_tab (List.mem_of_getElem? (i := 577) (by decide +kernel))) rfl
theorem fw_578 : Jvm.Cond.code fy_Md_clear prog_8_method_4_code (1 : Nat) (Option.none : Option Jvm.ClassFile.FieldType) ∈ fk_G := fk_in (fk_tab (List.mem_of_getElem? (i := 578) (by decide +kernel))) rfl
theorem fw_579 : Jvm.Cond.methodLink "FootprintNetLaw" (31 : Nat) fy_Md_length ∈ fk_G := fk_in (fk_tab (List.mem_of_getElem? (i := 579) (by decide +kernel))) rfl
theorem fw_580 : Jvm.Cond.instanceMethod fy_Md_length ∈ fk_G := fk_in (fk_tab (List.mem_of_getElem? (i := 580) (by decide +kernel))) rfl
theorem fw_581 : Jvm.Cond.selects "FootprintNetModel" fy_Md_length fy_Md_length ∈ fk_G := fk_in (fk_tab (List.mem_of_getElem? (i := 581) (by decide +kernel))) rfl
theorem fw_582 : Jvm.Cond.code fy_Md_length prog_8_method_5_code (2 : Nat) (Option.some Jvm.ClassFile.FieldType.int) ∈ fk_G := fk_in (fk_tab (List.mem_of_getElem? (i := 582) (by decide +kernel))) rfl
theorem fw_583 : Jvm.Cond.methodLink "FootprintNetLaw" (36 : Nat) fy_Md_at ∈ fk_G := fk_in (fk_tab (List.mem_of_getElem? (i := 583) (by decide +kernel))) rfl
theorem fw_584 : Jvm.Cond.instanceMethod fy_Md_at ∈ fk_G := fk_in (fk_tab (List.mem_of_getElem? (i := 584) (by decide +kernel))) rfl
theorem fw_585 : Jvm.Cond.selects "FootprintNetModel" fy_Md_at fy_Md_at ∈ fk_G := fk_in (fk_tab (List.mem_of_getElem? (i := 585) (by decide +kernel))) rfl
theorem fw_586 : Jvm.Cond.code fy_Md_at prog_8_method_6_code (3 : Nat) (Option.some Jvm.ClassFile.FieldType.int) ∈ fk_G := fk_in (fk_tab (List.mem_of_getElem? (i := 586) (by decide +kernel))) rfl
theorem fw_587 : Jvm.Cond.methodLink "FootprintNetLaw" (40 : Nat) fy_Md_relation ∈ fk_G := fk_in (fk_tab (List.mem_of_getElem? (i := 587) (by decide +kernel))) rfl
theorem fw_588 : Jvm.Cond.instanceMethod fy_Md_relation ∈ fk_G := fk_in (fk_tab (List.mem_of_getElem? (i := 588) (by decide +kernel))) rfl
theorem fw_589 : Jvm.Cond.selects "FootprintNetModel" fy_Md_relation fy_Md_relation ∈ fk_G := fk_in (fk_tab (List.mem_of_getElem? (i := 589) (by decide +kernel))) rfl
theorem fw_590 : Jvm.Cond.code fy_Md_relation prog_8_method_8_code (3 : Nat) (Option.some Jvm.ClassFile.FieldType.int) ∈ fk_G := fk_in (fk_tab (List.mem_of_getElem? (i := 590) (by decide +kernel))) rfl
theorem fw_591 : Jvm.Cond.methodLink "FootprintNetModel" (62 : Nat) fy_Md_followed ∈ fk_G := fk_in (fk_tab (List.mem_of_getElem? (i := 591) (by decide +kernel))) rfl
theorem fw_593 : Jvm.Cond.instanceMethod fy_Md_followed ∈ fk_G := fk_in (fk_tab (List.mem_of_getElem? (i := 593) (by decide +kernel))) rfl
theorem fw_594 : Jvm.Cond.code fy_Md_followed prog_8_method_7_code (5 : Nat) (Option.some Jvm.ClassFile.FieldType.boolean) ∈ fk_G := fk_in (fk_tab (List.mem_of_getElem? (i := 594) (by decide +kernel))) rfl
theorem fw_595 : Jvm.Cond.methodLink "FootprintNetLaw" (44 : Nat) fy_Md_mine ∈ fk_G := fk_in (fk_tab (List.mem_of_getElem? (i := 595) (by decide +kernel))) rfl
theorem fw_596 : Jvm.Cond.instanceMethod fy_Md_mine ∈ fk_G := fk_in (fk_tab (List.mem_of_getElem? (i := 596) (by decide +kernel))) rfl
theorem fw_597 : Jvm.Cond.selects "FootprintNetModel" fy_Md_mine fy_Md_mine ∈ fk_G := fk_in (fk_tab (List.mem_of_getElem? (i := 597) (by decide +kernel))) rfl
theorem fw_598 : Jvm.Cond.code fy_Md_mine prog_8_method_12_code (4 : Nat) (Option.some Jvm.ClassFile.FieldType.int) ∈ fk_G := fk_in (fk_tab (List.mem_of_getElem? (i := 598) (by decide +kernel))) rfl
theorem fw_599 : Jvm.Cond.methodLink "FootprintNetModel" (75 : Nat) fy_Md_relation ∈ fk_G := fk_in (fk_tab (List.mem_of_getElem? (i := 599) (by decide +kernel))) rfl
theorem fw_600 : Jvm.Cond.methodLink "FootprintNetModel" (69 : Nat) fy_Md_causal ∈ fk_G := fk_in (fk_tab (List.mem_of_getElem? (i := 600) (by decide +kernel))) rfl
theorem fw_602 : Jvm.Cond.instanceMethod fy_Md_causal ∈ fk_G := fk_in (fk_tab (List.mem_of_getElem? (i := 602) (by decide +kernel))) rfl
theorem fw_603 : Jvm.Cond.code fy_Md_causal prog_8_method_10_code (7 : Nat) (Option.some Jvm.ClassFile.FieldType.boolean) ∈ fk_G := fk_in (fk_tab (List.mem_of_getElem? (i := 603) (by decide +kernel))) rfl
theorem fw_604 : Jvm.Cond.methodLink "FootprintNetModel" (66 : Nat) fy_Md_has ∈ fk_G := fk_in (fk_tab (List.mem_of_getElem? (i := 604) (by decide +kernel))) rfl
theorem fw_605 : Jvm.Cond.static fy_Md_has ∈ fk_G := fk_in (fk_tab (List.mem_of_getElem? (i := 605) (by decide +kernel))) rfl
theorem fw_606 : Jvm.Cond.code fy_Md_has prog_8_method_9_code (2 : Nat) (Option.some Jvm.ClassFile.FieldType.boolean) ∈ fk_G := fk_in (fk_tab (List.mem_of_getElem? (i := 606) (by decide +kernel))) rfl
theorem fw_607 : Jvm.Cond.methodLink "FootprintNetModel" (79 : Nat) fy_Md_greatest ∈ fk_G := fk_in (fk_tab (List.mem_of_getElem? (i := 607) (by decide +kernel))) rfl
theorem fw_609 : Jvm.Cond.instanceMethod fy_Md_greatest ∈ fk_G := fk_in (fk_tab (List.mem_of_getElem? (i := 609) (by decide +kernel))) rfl
theorem fw_610 : Jvm.Cond.code fy_Md_greatest prog_8_method_11_code (5 : Nat) (Option.some Jvm.ClassFile.FieldType.boolean) ∈ fk_G := fk_in (fk_tab (List.mem_of_getElem? (i := 610) (by decide +kernel))) rfl
theorem fw_611 : Jvm.Cond.methodLink "FootprintNetLaw" (48 : Nat) fy_Md_place ∈ fk_G := fk_in (fk_tab (List.mem_of_getElem? (i := 611) (by decide +kernel))) rfl
theorem fw_612 : Jvm.Cond.instanceMethod fy_Md_place ∈ fk_G := fk_in (fk_tab (List.mem_of_getElem? (i := 612) (by decide +kernel))) rfl
theorem fw_613 : Jvm.Cond.selects "FootprintNetModel" fy_Md_place fy_Md_place ∈ fk_G := fk_in (fk_tab (List.mem_of_getElem? (i := 613) (by decide +kernel))) rfl
theorem fw_614 : Jvm.Cond.code fy_Md_place prog_8_method_14_code (4 : Nat) (Option.some Jvm.ClassFile.FieldType.int) ∈ fk_G := fk_in (fk_tab (List.mem_of_getElem? (i := 614) (by decide +kernel))) rfl
theorem fw_615 : Jvm.Cond.methodLink "FootprintNetLaw" (53 : Nat) fy_Md_ends ∈ fk_G := fk_in (fk_tab (List.mem_of_getElem? (i := 615) (by decide +kernel))) rfl
theorem fw_616 : Jvm.Cond.instanceMethod fy_Md_ends ∈ fk_G := fk_in (fk_tab (List.mem_of_getElem? (i := 616) (by decide +kernel))) rfl
theorem fw_617 : Jvm.Cond.selects "FootprintNetModel" fy_Md_ends fy_Md_ends ∈ fk_G := fk_in (fk_tab (List.mem_of_getElem? (i := 617) (by decide +kernel))) rfl
theorem fw_618 : Jvm.Cond.code fy_Md_ends prog_8_method_15_code (3 : Nat) (Option.some Jvm.ClassFile.FieldType.boolean) ∈ fk_G := fk_in (fk_tab (List.mem_of_getElem? (i := 618) (by decide +kernel))) rfl
theorem fw_619 : Jvm.Cond.methodLink "FootprintNetLaw" (57 : Nat) fy_Md_reset ∈ fk_G := fk_in (fk_tab (List.mem_of_getElem? (i := 619) (by decide +kernel))) rfl
theorem fw_620 : Jvm.Cond.instanceMethod fy_Md_reset ∈ fk_G := fk_in (fk_tab (List.mem_of_getElem? (i := 620) (by decide +kernel))) rfl
theorem fw_621 : Jvm.Cond.selects "FootprintNetModel" fy_Md_reset fy_Md_reset ∈ fk_G := fk_in (fk_tab (List.mem_of_getElem? (i := 621) (by decide +kernel))) rfl
theorem fw_622 : Jvm.Cond.code fy_Md_reset prog_8_method_16_code (1 : Nat) (Option.none : Option Jvm.ClassFile.FieldType) ∈ fk_G := fk_in (fk_tab (List.mem_of_getElem? (i := 622) (by decide +kernel))) rfl
theorem fw_623 : Jvm.Cond.methodLink "FootprintNetLaw" (61 : Nat) fy_Md_places ∈ fk_G := fk_in (fk_tab (List.mem_of_getElem? (i := 623) (by decide +kernel))) rfl
theorem fw_624 : Jvm.Cond.instanceMethod fy_Md_places ∈ fk_G := fk_in (fk_tab (List.mem_of_getElem? (i := 624) (by decide +kernel))) rfl
theorem fw_625 : Jvm.Cond.selects "FootprintNetModel" fy_Md_places fy_Md_places ∈ fk_G := fk_in (fk_tab (List.mem_of_getElem? (i := 625) (by decide +kernel))) rfl
theorem fw_626 : Jvm.Cond.code fy_Md_places prog_8_method_17_code (2 : Nat) (Option.some Jvm.ClassFile.FieldType.int) ∈ fk_G := fk_in (fk_tab (List.mem_of_getElem? (i := 626) (by decide +kernel))) rfl
theorem fw_627 : Jvm.Cond.methodLink "FootprintNetModel" (82 : Nat) fy_Md_notNet ∈ fk_G := fk_in (fk_tab (List.mem_of_getElem? (i := 627) (by decide +kernel))) rfl
theorem fw_628 : Jvm.Cond.static fy_Md_notNet ∈ fk_G := fk_in (fk_tab (List.mem_of_getElem? (i := 628) (by decide +kernel))) rfl
theorem fw_629 : Jvm.Cond.code fy_Md_notNet prog_8_method_13_code (1 : Nat) (Option.some Jvm.ClassFile.FieldType.boolean) ∈ fk_G := fk_in (fk_tab (List.mem_of_getElem? (i := 629) (by decide +kernel))) rfl
theorem fw_630 : Jvm.Cond.methodLink "FootprintNetLaw" (65 : Nat) fy_Md_inputs ∈ fk_G := fk_in (fk_tab (List.mem_of_getElem? (i := 630) (by decide +kernel))) rfl
theorem fw_631 : Jvm.Cond.instanceMethod fy_Md_inputs ∈ fk_G := fk_in (fk_tab (List.mem_of_getElem? (i := 631) (by decide +kernel))) rfl
theorem fw_632 : Jvm.Cond.selects "FootprintNetModel" fy_Md_inputs fy_Md_inputs ∈ fk_G := fk_in (fk_tab (List.mem_of_getElem? (i := 632) (by decide +kernel))) rfl
theorem fw_633 : Jvm.Cond.code fy_Md_inputs prog_8_method_18_code (3 : Nat) (Option.some Jvm.ClassFile.FieldType.int) ∈ fk_G := fk_in (fk_tab (List.mem_of_getElem? (i := 633) (by decide +kernel))) rfl
theorem fw_634 : Jvm.Cond.methodLink "FootprintNetLaw" (69 : Nat) fy_Md_outputs ∈ fk_G := fk_in (fk_tab (List.mem_of_getElem? (i := 634) (by decide +kernel))) rfl
theorem fw_635 : Jvm.Cond.instanceMethod fy_Md_outputs ∈ fk_G := fk_in (fk_tab (List.mem_of_getElem? (i := 635) (by decide +kernel))) rfl
theorem fw_636 : Jvm.Cond.selects "FootprintNetModel" fy_Md_outputs fy_Md_outputs ∈ fk_G := fk_in (fk_tab (List.mem_of_getElem? (i := 636) (by decide +kernel))) rfl
theorem fw_637 : Jvm.Cond.code fy_Md_outputs prog_8_method_19_code (3 : Nat) (Option.some Jvm.ClassFile.FieldType.int) ∈ fk_G := fk_in (fk_tab (List.mem_of_getElem? (i := 637) (by decide +kernel))) rfl
theorem fw_638 : Jvm.Cond.methodLink "FootprintNetLaw" (73 : Nat) fy_Md_fits ∈ fk_G := fk_in (fk_tab (List.mem_of_getElem? (i := 638) (by decide +kernel))) rfl
theorem fw_639 : Jvm.Cond.instanceMethod fy_Md_fits ∈ fk_G := fk_in (fk_tab (List.mem_of_getElem? (i := 639) (by decide +kernel))) rfl
theorem fw_640 : Jvm.Cond.selects "FootprintNetModel" fy_Md_fits fy_Md_fits ∈ fk_G := fk_in (fk_tab (List.mem_of_getElem? (i := 640) (by decide +kernel))) rfl
theorem fw_641 : Jvm.Cond.code fy_Md_fits prog_8_method_27_code (5 : Nat) (Option.some Jvm.ClassFile.FieldType.boolean) ∈ fk_G := fk_in (fk_tab (List.mem_of_getElem? (i := 641) (by decide +kernel))) rfl
theorem fw_642 : Jvm.Cond.methodLink "FootprintNetModel" (97 : Nat) fy_Md_initial ∈ fk_G := fk_in (fk_tab (List.mem_of_getElem? (i := 642) (by decide +kernel))) rfl
theorem fw_644 : Jvm.Cond.instanceMethod fy_Md_initial ∈ fk_G := fk_in (fk_tab (List.mem_of_getElem? (i := 644) (by decide +kernel))) rfl
theorem fw_645 : Jvm.Cond.code fy_Md_initial prog_8_method_21_code (2 : Nat) (Option.none : Option Jvm.ClassFile.FieldType) ∈ fk_G := fk_in (fk_tab (List.mem_of_getElem? (i := 645) (by decide +kernel))) rfl
theorem fw_646 : Jvm.Cond.methodLink "FootprintNetModel" (100 : Nat) fy_Md_enabled ∈ fk_G := fk_in (fk_tab (List.mem_of_getElem? (i := 646) (by decide +kernel))) rfl
theorem fw_648 : Jvm.Cond.instanceMethod fy_Md_enabled ∈ fk_G := fk_in (fk_tab (List.mem_of_getElem? (i := 648) (by decide +kernel))) rfl
theorem fw_649 : Jvm.Cond.code fy_Md_enabled prog_8_method_25_code (5 : Nat) (Option.some Jvm.ClassFile.FieldType.boolean) ∈ fk_G := fk_in (fk_tab (List.mem_of_getElem? (i := 649) (by decide +kernel))) rfl
theorem fw_650 : Jvm.Cond.methodLink "FootprintNetModel" (86 : Nat) fy_Md_activities ∈ fk_G := fk_in (fk_tab (List.mem_of_getElem? (i := 650) (by decide +kernel))) rfl
theorem fw_652 : Jvm.Cond.instanceMethod fy_Md_activities ∈ fk_G := fk_in (fk_tab (List.mem_of_getElem? (i := 652) (by decide +kernel))) rfl
theorem fw_653 : Jvm.Cond.code fy_Md_activities prog_8_method_20_code (4 : Nat) (Option.some Jvm.ClassFile.FieldType.int) ∈ fk_G := fk_in (fk_tab (List.mem_of_getElem? (i := 653) (by decide +kernel))) rfl
theorem fw_654 : Jvm.Cond.methodLink "FootprintNetModel" (90 : Nat) fy_Md_takes ∈ fk_G := fk_in (fk_tab (List.mem_of_getElem? (i := 654) (by decide +kernel))) rfl
theorem fw_656 : Jvm.Cond.instanceMethod fy_Md_takes ∈ fk_G := fk_in (fk_tab (List.mem_of_getElem? (i := 656) (by decide +kernel))) rfl
theorem fw_657 : Jvm.Cond.code fy_Md_takes prog_8_method_23_code (4 : Nat) (Option.some Jvm.ClassFile.FieldType.boolean) ∈ fk_G := fk_in (fk_tab (List.mem_of_getElem? (i := 657) (by decide +kernel))) rfl
theorem fw_658 : Jvm.Cond.methodLink "FootprintNetModel" (103 : Nat) fy_Md_fire ∈ fk_G := fk_in (fk_tab (List.mem_of_getElem? (i := 658) (by decide +kernel))) rfl
theorem fw_660 : Jvm.Cond.instanceMethod fy_Md_fire ∈ fk_G := fk_in (fk_tab (List.mem_of_getElem? (i := 660) (by decide +kernel))) rfl
theorem fw_661 : Jvm.Cond.code fy_Md_fire prog_8_method_26_code (4 : Nat) (Option.none : Option Jvm.ClassFile.FieldType) ∈ fk_G := fk_in (fk_tab (List.mem_of_getElem? (i := 661) (by decide +kernel))) rfl
theorem fw_662 : Jvm.Cond.methodLink "FootprintNetModel" (94 : Nat) fy_Md_gives ∈ fk_G := fk_in (fk_tab (List.mem_of_getElem? (i := 662) (by decide +kernel))) rfl
theorem fw_664 : Jvm.Cond.instanceMethod fy_Md_gives ∈ fk_G := fk_in (fk_tab (List.mem_of_getElem? (i := 664) (by decide +kernel))) rfl
theorem fw_665 : Jvm.Cond.code fy_Md_gives prog_8_method_24_code (4 : Nat) (Option.some Jvm.ClassFile.FieldType.boolean) ∈ fk_G := fk_in (fk_tab (List.mem_of_getElem? (i := 665) (by decide +kernel))) rfl
theorem fw_666 : Jvm.Cond.methodLink "FootprintNetModel" (107 : Nat) fy_Md_isFinal ∈ fk_G := fk_in (fk_tab (List.mem_of_getElem? (i := 666) (by decide +kernel))) rfl
theorem fw_668 : Jvm.Cond.instanceMethod fy_Md_isFinal ∈ fk_G := fk_in (fk_tab (List.mem_of_getElem? (i := 668) (by decide +kernel))) rfl
theorem fw_669 : Jvm.Cond.code fy_Md_isFinal prog_8_method_22_code (3 : Nat) (Option.some Jvm.ClassFile.FieldType.boolean) ∈ fk_G := fk_in (fk_tab (List.mem_of_getElem? (i := 669) (by decide +kernel))) rfl
theorem fw_670 : Jvm.Cond.methodLink "FootprintNetLaw" (77 : Nat) fy_Md_markings ∈ fk_G := fk_in (fk_tab (List.mem_of_getElem? (i := 670) (by decide +kernel))) rfl
theorem fw_671 : Jvm.Cond.instanceMethod fy_Md_markings ∈ fk_G := fk_in (fk_tab (List.mem_of_getElem? (i := 671) (by decide +kernel))) rfl
theorem fw_672 : Jvm.Cond.selects "FootprintNetModel" fy_Md_markings fy_Md_markings ∈ fk_G := fk_in (fk_tab (List.mem_of_getElem? (i := 672) (by decide +kernel))) rfl
theorem fw_673 : Jvm.Cond.code fy_Md_markings prog_8_method_31_code (2 : Nat) (Option.some Jvm.ClassFile.FieldType.int) ∈ fk_G := fk_in (fk_tab (List.mem_of_getElem? (i := 673) (by decide +kernel))) rfl
theorem fw_674 : Jvm.Cond.methodLink "FootprintNetModel" (126 : Nat) fy_Md_explore ∈ fk_G := fk_in (fk_tab (List.mem_of_getElem? (i := 674) (by decide +kernel))) rfl
theorem fw_676 : Jvm.Cond.instanceMethod fy_Md_explore ∈ fk_G := fk_in (fk_tab (List.mem_of_getElem? (i := 676) (by decide +kernel))) rfl
theorem fw_677 : Jvm.Cond.code fy_Md_explore prog_8_method_30_code (4 : Nat) (Option.none : Option Jvm.ClassFile.FieldType) ∈ fk_G := fk_in (fk_tab (List.mem_of_getElem? (i := 677) (by decide +kernel))) rfl
theorem fw_678 : Jvm.Cond.methodLink "FootprintNetModel" (118 : Nat) fy_Md_number ∈ fk_G := fk_in (fk_tab (List.mem_of_getElem? (i := 678) (by decide +kernel))) rfl
theorem fw_680 : Jvm.Cond.instanceMethod fy_Md_number ∈ fk_G := fk_in (fk_tab (List.mem_of_getElem? (i := 680) (by decide +kernel))) rfl
theorem fw_681 : Jvm.Cond.code fy_Md_number prog_8_method_29_code (4 : Nat) (Option.some Jvm.ClassFile.FieldType.int) ∈ fk_G := fk_in (fk_tab (List.mem_of_getElem? (i := 681) (by decide +kernel))) rfl
theorem fw_682 : Jvm.Cond.methodLink "FootprintNetModel" (122 : Nat) fy_Md_load ∈ fk_G := fk_in (fk_tab (List.mem_of_getElem? (i := 682) (by decide +kernel))) rfl
theorem fw_684 : Jvm.Cond.instanceMethod fy_Md_load ∈ fk_G := fk_in (fk_tab (List.mem_of_getElem? (i := 684) (by decide +kernel))) rfl
theorem fw_685 : Jvm.Cond.code fy_Md_load prog_8_method_28_code (3 : Nat) (Option.none : Option Jvm.ClassFile.FieldType) ∈ fk_G := fk_in (fk_tab (List.mem_of_getElem? (i := 685) (by decide +kernel))) rfl
theorem fw_686 : Jvm.Cond.methodLink "FootprintNetLaw" (81 : Nat) fy_Md_sound ∈ fk_G := fk_in (fk_tab (List.mem_of_getElem? (i := 686) (by decide +kernel))) rfl
theorem fw_687 : Jvm.Cond.instanceMethod fy_Md_sound ∈ fk_G := fk_in (fk_tab (List.mem_of_getElem? (i := 687) (by decide +kernel))) rfl
theorem fw_688 : Jvm.Cond.selects "FootprintNetModel" fy_Md_sound fy_Md_sound ∈ fk_G := fk_in (fk_tab (List.mem_of_getElem? (i := 688) (by decide +kernel))) rfl
theorem fw_689 : Jvm.Cond.code fy_Md_sound prog_8_method_32_code (8 : Nat) (Option.some Jvm.ClassFile.FieldType.int) ∈ fk_G := fk_in (fk_tab (List.mem_of_getElem? (i := 689) (by decide +kernel))) rfl
theorem fw_690 : Jvm.Cond.methodLink "FootprintNetLaw" (85 : Nat) fy_Md_shape ∈ fk_G := fk_in (fk_tab (List.mem_of_getElem? (i := 690) (by decide +kernel))) rfl
theorem fw_691 : Jvm.Cond.instanceMethod fy_Md_shape ∈ fk_G := fk_in (fk_tab (List.mem_of_getElem? (i := 691) (by decide +kernel))) rfl
theorem fw_692 : Jvm.Cond.selects "FootprintNetModel" fy_Md_shape fy_Md_shape ∈ fk_G := fk_in (fk_tab (List.mem_of_getElem? (i := 692) (by decide +kernel))) rfl
theorem fw_693 : Jvm.Cond.code fy_Md_shape prog_8_method_35_code (4 : Nat) (Option.some Jvm.ClassFile.FieldType.int) ∈ fk_G := fk_in (fk_tab (List.mem_of_getElem? (i := 693) (by decide +kernel))) rfl
theorem fw_694 : Jvm.Cond.methodLink "FootprintNetModel" (129 : Nat) fy_Md_loops ∈ fk_G := fk_in (fk_tab (List.mem_of_getElem? (i := 694) (by decide +kernel))) rfl
theorem fw_696 : Jvm.Cond.instanceMethod fy_Md_loops ∈ fk_G := fk_in (fk_tab (List.mem_of_getElem? (i := 696) (by decide +kernel))) rfl
theorem fw_697 : Jvm.Cond.code fy_Md_loops prog_8_method_33_code (7 : Nat) (Option.some Jvm.ClassFile.FieldType.boolean) ∈ fk_G := fk_in (fk_tab (List.mem_of_getElem? (i := 697) (by decide +kernel))) rfl
theorem fw_698 : Jvm.Cond.methodLink "FootprintNetModel" (132 : Nat) fy_Md_mixed ∈ fk_G := fk_in (fk_tab (List.mem_of_getElem? (i := 698) (by decide +kernel))) rfl
theorem fw_700 : Jvm.Cond.instanceMethod fy_Md_mixed ∈ fk_G := fk_in (fk_tab (List.mem_of_getElem? (i := 700) (by decide +kernel))) rfl
theorem fw_701 : Jvm.Cond.code fy_Md_mixed prog_8_method_34_code (8 : Nat) (Option.some Jvm.ClassFile.FieldType.boolean) ∈ fk_G := fk_in (fk_tab (List.mem_of_getElem? (i := 701) (by decide +kernel))) rfl
theorem fw_702 : Jvm.Cond.methodLink "FootprintNetLaw" (92 : Nat) fy_Md_play ∈ fk_G := fk_in (fk_tab (List.mem_of_getElem? (i := 702) (by decide +kernel))) rfl
theorem fw_703 : Jvm.Cond.instanceMethod fy_Md_play ∈ fk_G := fk_in (fk_tab (List.mem_of_getElem? (i := 703) (by decide +kernel))) rfl
theorem fw_704 : Jvm.Cond.selects "FootprintNetModel" fy_Md_play fy_Md_play ∈ fk_G := fk_in (fk_tab (List.mem_of_getElem? (i := 704) (by decide +kernel))) rfl
theorem fw_705 : Jvm.Cond.code fy_Md_play prog_8_method_36_code (7 : Nat) (Option.some Jvm.ClassFile.FieldType.int) ∈ fk_G := fk_in (fk_tab (List.mem_of_getElem? (i := 705) (by decide +kernel))) rfl
theorem fw_706 : Jvm.Cond.constantLong "FootprintNetModel" (135 : Nat) (7 : Int64) ∈ fk_G := fk_in (fk_tab (List.mem_of_getElem? (i := 706) (by decide +kernel))) rfl
theorem fw_707 : Jvm.Cond.methodLink "FootprintNetLaw" (97 : Nat) fy_Md_same ∈ fk_G := fk_in (fk_tab (List.mem_of_getElem? (i := 707) (by decide +kernel))) rfl
theorem fw_708 : Jvm.Cond.instanceMethod fy_Md_same ∈ fk_G := fk_in (fk_tab (List.mem_of_getElem? (i := 708) (by decide +kernel))) rfl
theorem fw_709 : Jvm.Cond.selects "FootprintNetModel" fy_Md_same fy_Md_same ∈ fk_G := fk_in (fk_tab (List.mem_of_getElem? (i := 709) (by decide +kernel))) rfl
theorem fw_710 : Jvm.Cond.code fy_Md_same prog_8_method_37_code (5 : Nat) (Option.some Jvm.ClassFile.FieldType.boolean) ∈ fk_G := fk_in (fk_tab (List.mem_of_getElem? (i := 710) (by decide +kernel))) rfl
theorem fw_711 : Jvm.Cond.constantLong "FootprintNetLaw" (86 : Nat) (4294967295 : Int64) ∈ fk_G := fk_in (fk_tab (List.mem_of_getElem? (i := 711) (by decide +kernel))) rfl
theorem fw_p0 : Cond.selects "FootprintNet$Miner" fy_Mi_prepareSets fy_Mi_prepareSets ∈ fk_G := fk_sel (q := (fy_Mi_prepareSets, 5)) (List.mem_of_getElem? (i := 0) (by decide +kernel))
theorem fw_p1 : Cond.selects "FootprintNet$Miner" fy_Mi_addPairsOf fy_Mi_addPairsOf ∈ fk_G := fk_sel (q := (fy_Mi_addPairsOf, 5)) (List.mem_of_getElem? (i := 1) (by decide +kernel))
theorem fw_p2 : Cond.selects "FootprintNet$Miner" fy_Mi_isCausal fy_Mi_isCausal ∈ fk_G := fk_sel (q := (fy_Mi_isCausal, 5)) (List.mem_of_getElem? (i := 2) (by decide +kernel))
theorem fw_p3 : Cond.selects "FootprintNet$Miner" fy_Mi_isGreatest fy_Mi_isGreatest ∈ fk_G := fk_sel (q := (fy_Mi_isGreatest, 5)) (List.mem_of_getElem? (i := 3) (by decide +kernel))
theorem fw_p4 : Cond.selects "FootprintNet$Net" fy_Nt_prepareFiring fy_Nt_prepareFiring ∈ fk_G := fk_sel (q := (fy_Nt_prepareFiring, 9)) (List.mem_of_getElem? (i := 4) (by decide +kernel))
theorem fw_p5 : Cond.selects "FootprintNet$Net" fy_Nt_connect fy_Nt_connect ∈ fk_G := fk_sel (q := (fy_Nt_connect, 9)) (List.mem_of_getElem? (i := 5) (by decide +kernel))
theorem fw_p6 : Cond.selects "FootprintNet" fy_F_netOf fy_F_netOf ∈ fk_G := fk_sel (q := (fy_F_netOf, 6)) (List.mem_of_getElem? (i := 6) (by decide +kernel))
theorem fw_p7 : Cond.selects "FootprintNet" fy_F_replays fy_F_replays ∈ fk_G := fk_sel (q := (fy_F_replays, 6)) (List.mem_of_getElem? (i := 7) (by decide +kernel))
theorem fw_p8 : Cond.selects "FootprintNet$Reach" fy_Re_indexOf fy_Re_indexOf ∈ fk_G := fk_sel (q := (fy_Re_indexOf, 6)) (List.mem_of_getElem? (i := 8) (by decide +kernel))
theorem fw_p9 : Cond.selects "FootprintNet$Reach" fy_Re_addAt fy_Re_addAt ∈ fk_G := fk_sel (q := (fy_Re_addAt, 6)) (List.mem_of_getElem? (i := 9) (by decide +kernel))
theorem fw_p10 : Cond.selects "FootprintNet$Reach" fy_Re_addNextOf fy_Re_addNextOf ∈ fk_G := fk_sel (q := (fy_Re_addNextOf, 6)) (List.mem_of_getElem? (i := 10) (by decide +kernel))
theorem fw_p11 : Cond.selects "FootprintNet$Reach" fy_Re_sinkMeansFinal fy_Re_sinkMeansFinal ∈ fk_G := fk_sel (q := (fy_Re_sinkMeansFinal, 6)) (List.mem_of_getElem? (i := 11) (by decide +kernel))
theorem fw_p12 : Cond.selects "FootprintNet$Reach" fy_Re_allCanEnd fy_Re_allCanEnd ∈ fk_G := fk_sel (q := (fy_Re_allCanEnd, 6)) (List.mem_of_getElem? (i := 12) (by decide +kernel))
theorem fw_p13 : Cond.selects "FootprintNet$Reach" fy_Re_spreadEnding fy_Re_spreadEnding ∈ fk_G := fk_sel (q := (fy_Re_spreadEnding, 6)) (List.mem_of_getElem? (i := 13) (by decide +kernel))
theorem fw_p14 : Cond.selects "FootprintNet$Reach" fy_Re_leadsToEnding fy_Re_leadsToEnding ∈ fk_G := fk_sel (q := (fy_Re_leadsToEnding, 6)) (List.mem_of_getElem? (i := 14) (by decide +kernel))
theorem fw_p15 : Cond.selects "FootprintNet$Net" fy_Nt_sharesOutputs fy_Nt_sharesOutputs ∈ fk_G := fk_sel (q := (fy_Nt_sharesOutputs, 9)) (List.mem_of_getElem? (i := 15) (by decide +kernel))
theorem fw_p16 : Cond.selects "FootprintNetModel" fy_Md_followed fy_Md_followed ∈ fk_G := fk_sel (q := (fy_Md_followed, 19)) (List.mem_of_getElem? (i := 16) (by decide +kernel))
theorem fw_p17 : Cond.selects "FootprintNetModel" fy_Md_causal fy_Md_causal ∈ fk_G := fk_sel (q := (fy_Md_causal, 19)) (List.mem_of_getElem? (i := 17) (by decide +kernel))
theorem fw_p18 : Cond.selects "FootprintNetModel" fy_Md_greatest fy_Md_greatest ∈ fk_G := fk_sel (q := (fy_Md_greatest, 19)) (List.mem_of_getElem? (i := 18) (by decide +kernel))
theorem fw_p19 : Cond.selects "FootprintNetModel" fy_Md_initial fy_Md_initial ∈ fk_G := fk_sel (q := (fy_Md_initial, 19)) (List.mem_of_getElem? (i := 19) (by decide +kernel))
theorem fw_p20 : Cond.selects "FootprintNetModel" fy_Md_enabled fy_Md_enabled ∈ fk_G := fk_sel (q := (fy_Md_enabled, 19)) (List.mem_of_getElem? (i := 20) (by decide +kernel))
theorem fw_p21 : Cond.selects "FootprintNetModel" fy_Md_activities fy_Md_activities ∈ fk_G := fk_sel (q := (fy_Md_activities, 19)) (List.mem_of_getElem? (i := 21) (by decide +kernel))
theorem fw_p22 : Cond.selects "FootprintNetModel" fy_Md_takes fy_Md_takes ∈ fk_G := fk_sel (q := (fy_Md_takes, 19)) (List.mem_of_getElem? (i := 22) (by decide +kernel))
theorem fw_p23 : Cond.selects "FootprintNetModel" fy_Md_fire fy_Md_fire ∈ fk_G := fk_sel (q := (fy_Md_fire, 19)) (List.mem_of_getElem? (i := 23) (by decide +kernel))
theorem fw_p24 : Cond.selects "FootprintNetModel" fy_Md_gives fy_Md_gives ∈ fk_G := fk_sel (q := (fy_Md_gives, 19)) (List.mem_of_getElem? (i := 24) (by decide +kernel))
theorem fw_p25 : Cond.selects "FootprintNetModel" fy_Md_isFinal fy_Md_isFinal ∈ fk_G := fk_sel (q := (fy_Md_isFinal, 19)) (List.mem_of_getElem? (i := 25) (by decide +kernel))
theorem fw_p26 : Cond.selects "FootprintNetModel" fy_Md_explore fy_Md_explore ∈ fk_G := fk_sel (q := (fy_Md_explore, 19)) (List.mem_of_getElem? (i := 26) (by decide +kernel))
theorem fw_p27 : Cond.selects "FootprintNetModel" fy_Md_number fy_Md_number ∈ fk_G := fk_sel (q := (fy_Md_number, 19)) (List.mem_of_getElem? (i := 27) (by decide +kernel))
theorem fw_p28 : Cond.selects "FootprintNetModel" fy_Md_load fy_Md_load ∈ fk_G := fk_sel (q := (fy_Md_load, 19)) (List.mem_of_getElem? (i := 28) (by decide +kernel))
theorem fw_p29 : Cond.selects "FootprintNetModel" fy_Md_loops fy_Md_loops ∈ fk_G := fk_sel (q := (fy_Md_loops, 19)) (List.mem_of_getElem? (i := 29) (by decide +kernel))
theorem fw_p30 : Cond.selects "FootprintNetModel" fy_Md_mixed fy_Md_mixed ∈ fk_G := fk_sel (q := (fy_Md_mixed, 19)) (List.mem_of_getElem? (i := 30) (by decide +kernel))
theorem fh_F : ∀ x ∈ u_ws fR_F fF_F 6, x ∈ fk_G := fun x hx => fk_in (fk_tab (of_decide_eq_true (List.all_eq_true.mp (by decide +kernel : (u_ws fR_F fF_F 6).all (fun x => decide (x ∈ tables_1)) = true) x hx))) (List.all_eq_true.mp (by decide +kernel : (u_ws fR_F fF_F 6).all goodWord = true) x hx)
theorem fh_Lg : ∀ x ∈ u_ws fR_Lg fF_Lg 4, x ∈ fk_G := fun x hx => fk_in (fk_tab (of_decide_eq_true (List.all_eq_true.mp (by decide +kernel : (u_ws fR_Lg fF_Lg 4).all (fun x => decide (x ∈ tables_1)) = true) x hx))) (List.all_eq_true.mp (by decide +kernel : (u_ws fR_Lg fF_Lg 4).all goodWord = true) x hx)
theorem fh_Nt : ∀ x ∈ u_ws fR_Nt fF_Nt 9, x ∈ fk_G := fun x hx => fk_in (fk_tab (of_decide_eq_true (List.all_eq_true.mp (by decide +kernel : (u_ws fR_Nt fF_Nt 9).all (fun x => decide (x ∈ tables_1)) = true) x hx))) (List.all_eq_true.mp (by decide +kernel : (u_ws fR_Nt fF_Nt 9).all goodWord = true) x hx)
theorem fh_Mi : ∀ x ∈ u_ws fR_Mi fF_Mi 5, x ∈ fk_G := fun x hx => fk_in (fk_tab (of_decide_eq_true (List.all_eq_true.mp (by decide +kernel : (u_ws fR_Mi fF_Mi 5).all (fun x => decide (x ∈ tables_1)) = true) x hx))) (List.all_eq_true.mp (by decide +kernel : (u_ws fR_Mi fF_Mi 5).all goodWord = true) x hx)
theorem fh_Re : ∀ x ∈ u_ws fR_Re fF_Re 6, x ∈ fk_G := fun x hx => fk_in (fk_tab (of_decide_eq_true (List.all_eq_true.mp (by decide +kernel : (u_ws fR_Re fF_Re 6).all (fun x => decide (x ∈ tables_1)) = true) x hx))) (List.all_eq_true.mp (by decide +kernel : (u_ws fR_Re fF_Re 6).all goodWord = true) x hx)
theorem fh_Pl : ∀ x ∈ u_ws fR_Pl fF_Pl 2, x ∈ fk_G := fun x hx => fk_in (fk_tab (of_decide_eq_true (List.all_eq_true.mp (by decide +kernel : (u_ws fR_Pl fF_Pl 2).all (fun x => decide (x ∈ tables_1)) = true) x hx))) (List.all_eq_true.mp (by decide +kernel : (u_ws fR_Pl fF_Pl 2).all goodWord = true) x hx)
theorem fh_Md : ∀ x ∈ u_ws fR_Md fF_Md 19, x ∈ fk_G := fun x hx => fk_in (fk_tab (of_decide_eq_true (List.all_eq_true.mp (by decide +kernel : (u_ws fR_Md fF_Md 19).all (fun x => decide (x ∈ tables_1)) = true) x hx))) (List.all_eq_true.mp (by decide +kernel : (u_ws fR_Md fF_Md 19).all goodWord = true) x hx)
theorem fz_F_init : fk_Y fy_F_init prog_1_method_1_code 1 none 0 := ⟨fw_14, fw_1, by decide, by decide, by decide +kernel⟩
theorem fz_F_at : fk_Y fy_F_at prog_1_method_6_code 3 (some .int) 2 := ⟨fw_206, fw_1, by decide, by decide, by decide +kernel⟩
theorem fz_F_begin : fk_Y fy_F_begin prog_1_method_2_code 1 (some .int) 0 := ⟨fw_156, fw_1, by decide, by decide, by decide +kernel⟩
theorem fz_F_clear : fk_Y fy_F_clear prog_1_method_4_code 1 none 0 := ⟨fw_183, fw_1, by decide, by decide, by decide +kernel⟩
theorem fz_F_ends : fk_Y fy_F_ends prog_1_method_10_code 3 (some .boolean) 2 := ⟨fw_321, fw_1, by decide, by decide, by decide +kernel⟩
theorem fz_F_event : fk_Y fy_F_event prog_1_method_3_code 2 (some .boolean) 1 := ⟨fw_168, fw_1, by decide, by decide, by decide +kernel⟩
theorem fz_F_fits : fk_Y fy_F_fits prog_1_method_15_code 4 (some .boolean) 2 := ⟨fw_363, fw_1, by decide, by decide, by decide +kernel⟩
theorem fz_F_inputs : fk_Y fy_F_inputs prog_1_method_13_code 4 (some .int) 2 := ⟨fw_339, fw_1, by decide, by decide, by decide +kernel⟩
theorem fz_F_isActivity : fk_Y fy_F_isActivity prog_1_method_21_code 1 (some .boolean) 1 := ⟨fw_175, fw_1, by decide, by decide, by decide +kernel⟩
theorem fz_F_isIn : fk_Y fy_F_isIn prog_1_method_23_code 2 (some .boolean) 2 := ⟨fw_224, fw_1, by decide, by decide, by decide +kernel⟩
theorem fz_F_isSet : fk_Y fy_F_isSet prog_1_method_22_code 1 (some .boolean) 1 := ⟨fw_312, fw_1, by decide, by decide, by decide +kernel⟩
theorem fz_F_length : fk_Y fy_F_length prog_1_method_5_code 2 (some .int) 1 := ⟨fw_194, fw_1, by decide, by decide, by decide +kernel⟩
theorem fz_F_markings : fk_Y fy_F_markings prog_1_method_16_code 3 (some .int) 1 := ⟨fw_383, fw_1, by decide, by decide, by decide +kernel⟩
theorem fz_F_mine : fk_Y fy_F_mine prog_1_method_8_code 1 (some .int) 0 := ⟨fw_228, fw_1, by decide, by decide, by decide +kernel⟩
theorem fz_F_netOf : fk_Y fy_F_netOf prog_1_method_24_code 2 (some (.object "FootprintNet$Net")) 1 := ⟨fw_335, fw_1, by decide, by decide, by decide +kernel⟩
theorem fz_F_outputs : fk_Y fy_F_outputs prog_1_method_14_code 4 (some .int) 2 := ⟨fw_351, fw_1, by decide, by decide, by decide +kernel⟩
theorem fz_F_place : fk_Y fy_F_place prog_1_method_9_code 3 (some .int) 2 := ⟨fw_309, fw_1, by decide, by decide, by decide +kernel⟩
theorem fz_F_places : fk_Y fy_F_places prog_1_method_12_code 3 (some .int) 1 := ⟨fw_331, fw_1, by decide, by decide, by decide +kernel⟩
theorem fz_F_play : fk_Y fy_F_play prog_1_method_19_code 5 (some .int) 1 := ⟨fw_469, fw_1, by decide, by decide, by decide +kernel⟩
theorem fz_F_relation : fk_Y fy_F_relation prog_1_method_7_code 5 (some .int) 2 := ⟨fw_216, fw_1, by decide, by decide, by decide +kernel⟩
theorem fz_F_replays : fk_Y fy_F_replays prog_1_method_25_code 7 (some .boolean) 2 := ⟨fw_367, fw_1, by decide, by decide, by decide +kernel⟩
theorem fz_F_reset : fk_Y fy_F_reset prog_1_method_11_code 1 none 0 := ⟨fw_326, fw_1, by decide, by decide, by decide +kernel⟩
theorem fz_F_same : fk_Y fy_F_same prog_1_method_20_code 1 (some .boolean) 0 := ⟨fw_495, fw_1, by decide, by decide, by decide +kernel⟩
theorem fz_F_shape : fk_Y fy_F_shape prog_1_method_18_code 6 (some .int) 1 := ⟨fw_443, fw_1, by decide, by decide, by decide +kernel⟩
theorem fz_F_sound : fk_Y fy_F_sound prog_1_method_17_code 3 (some .int) 1 := ⟨fw_413, fw_1, by decide, by decide, by decide +kernel⟩
theorem fz_Lg_init : fk_Y fy_Lg_init prog_2_method_1_code 1 none 0 := ⟨fw_22, fw_2, by decide, by decide, by decide +kernel⟩
theorem fz_Lg_activityAt : fk_Y fy_Lg_activityAt prog_2_method_6_code 3 (some .int) 2 := ⟨fw_179, fw_2, by decide, by decide, by decide +kernel⟩
theorem fz_Lg_addTrace : fk_Y fy_Lg_addTrace prog_2_method_7_code 1 (some .int) 0 := ⟨fw_160, fw_2, by decide, by decide, by decide +kernel⟩
theorem fz_Lg_append : fk_Y fy_Lg_append prog_2_method_8_code 4 (some .boolean) 1 := ⟨fw_172, fw_2, by decide, by decide, by decide +kernel⟩
theorem fz_Lg_beginners : fk_Y fy_Lg_beginners prog_2_method_12_code 3 (some .int) 0 := ⟨fw_288, fw_2, by decide, by decide, by decide +kernel⟩
theorem fz_Lg_enders : fk_Y fy_Lg_enders prog_2_method_13_code 3 (some .int) 0 := ⟨fw_292, fw_2, by decide, by decide, by decide +kernel⟩
theorem fz_Lg_hasEvent : fk_Y fy_Lg_hasEvent prog_2_method_4_code 3 (some .boolean) 2 := ⟨fw_210, fw_2, by decide, by decide, by decide +kernel⟩
theorem fz_Lg_hasTrace : fk_Y fy_Lg_hasTrace prog_2_method_3_code 2 (some .boolean) 1 := ⟨fw_198, fw_2, by decide, by decide, by decide +kernel⟩
theorem fz_Lg_isFollowed : fk_Y fy_Lg_isFollowed prog_2_method_10_code 3 (some .boolean) 2 := ⟨fw_221, fw_2, by decide, by decide, by decide +kernel⟩
theorem fz_Lg_isFull : fk_Y fy_Lg_isFull prog_2_method_2_code 1 (some .boolean) 0 := ⟨fw_164, fw_2, by decide, by decide, by decide +kernel⟩
theorem fz_Lg_lengthOf : fk_Y fy_Lg_lengthOf prog_2_method_5_code 2 (some .int) 1 := ⟨fw_202, fw_2, by decide, by decide, by decide +kernel⟩
theorem fz_Lg_occurring : fk_Y fy_Lg_occurring prog_2_method_11_code 4 (some .int) 0 := ⟨fw_297, fw_2, by decide, by decide, by decide +kernel⟩
theorem fz_Lg_removeTraces : fk_Y fy_Lg_removeTraces prog_2_method_9_code 1 none 0 := ⟨fw_187, fw_2, by decide, by decide, by decide +kernel⟩
theorem fz_Mi_init : fk_Y fy_Mi_init prog_3_method_1_code 1 none 0 := ⟨fw_77, fw_4, by decide, by decide, by decide +kernel⟩
theorem fz_Mi_addPairsOf : fk_Y fy_Mi_addPairsOf prog_3_method_7_code 3 (some .boolean) 1 := ⟨fw_247, fw_4, by decide, by decide, by decide +kernel⟩
theorem fz_Mi_causedBy : fk_Y fy_Mi_causedBy prog_3_method_5_code 4 (some .int) 2 := ⟨fw_239, fw_4, by decide, by decide, by decide +kernel⟩
theorem fz_Mi_findPairs : fk_Y fy_Mi_findPairs prog_3_method_2_code 3 (some .boolean) 1 := ⟨fw_232, fw_4, by decide, by decide, by decide +kernel⟩
theorem fz_Mi_isCausal : fk_Y fy_Mi_isCausal prog_3_method_8_code 3 (some .boolean) 2 := ⟨fw_251, fw_4, by decide, by decide, by decide +kernel⟩
theorem fz_Mi_isGreatest : fk_Y fy_Mi_isGreatest prog_3_method_9_code 5 (some .boolean) 2 := ⟨fw_255, fw_4, by decide, by decide, by decide +kernel⟩
theorem fz_Mi_knownTo : fk_Y fy_Mi_knownTo prog_3_method_6_code 4 (some .int) 2 := ⟨fw_243, fw_4, by decide, by decide, by decide +kernel⟩
theorem fz_Mi_prepareSets : fk_Y fy_Mi_prepareSets prog_3_method_4_code 8 none 1 := ⟨fw_236, fw_4, by decide, by decide, by decide +kernel⟩
theorem fz_Mi_writeNet : fk_Y fy_Mi_writeNet prog_3_method_3_code 4 none 2 := ⟨fw_259, fw_4, by decide, by decide, by decide +kernel⟩
theorem fz_Nt_init : fk_Y fy_Nt_init prog_4_method_1_code 1 none 0 := ⟨fw_42, fw_3, by decide, by decide, by decide +kernel⟩
theorem fz_Nt_activitySet : fk_Y fy_Nt_activitySet prog_4_method_7_code 1 (some .int) 0 := ⟨fw_421, fw_3, by decide, by decide, by decide +kernel⟩
theorem fz_Nt_addPlace : fk_Y fy_Nt_addPlace prog_4_method_9_code 3 (some .boolean) 2 := ⟨fw_284, fw_3, by decide, by decide, by decide +kernel⟩
theorem fz_Nt_afterFiring : fk_Y fy_Nt_afterFiring prog_4_method_16_code 4 (some .long) 2 := ⟨fw_378, fw_3, by decide, by decide, by decide +kernel⟩
theorem fz_Nt_connect : fk_Y fy_Nt_connect prog_4_method_14_code 6 none 3 := ⟨fw_278, fw_3, by decide, by decide, by decide +kernel⟩
theorem fz_Nt_enabledIn : fk_Y fy_Nt_enabledIn prog_4_method_15_code 7 (some .int) 1 := ⟨fw_371, fw_3, by decide, by decide, by decide +kernel⟩
theorem fz_Nt_firstOnes : fk_Y fy_Nt_firstOnes prog_4_method_5_code 1 (some .int) 0 := ⟨fw_355, fw_3, by decide, by decide, by decide +kernel⟩
theorem fz_Nt_hasMixedChoice : fk_Y fy_Nt_hasMixedChoice prog_4_method_19_code 3 (some .boolean) 0 := ⟨fw_461, fw_3, by decide, by decide, by decide +kernel⟩
theorem fz_Nt_hasPlace : fk_Y fy_Nt_hasPlace prog_4_method_8_code 4 (some .boolean) 2 := ⟨fw_316, fw_3, by decide, by decide, by decide +kernel⟩
theorem fz_Nt_hasSelfLoop : fk_Y fy_Nt_hasSelfLoop prog_4_method_17_code 2 (some .boolean) 0 := ⟨fw_447, fw_3, by decide, by decide, by decide +kernel⟩
theorem fz_Nt_hasShortLoop : fk_Y fy_Nt_hasShortLoop prog_4_method_18_code 5 (some .boolean) 0 := ⟨fw_451, fw_3, by decide, by decide, by decide +kernel⟩
theorem fz_Nt_inputsOf : fk_Y fy_Nt_inputsOf prog_4_method_3_code 2 (some .int) 1 := ⟨fw_347, fw_3, by decide, by decide, by decide +kernel⟩
theorem fz_Nt_isLike : fk_Y fy_Nt_isLike prog_4_method_21_code 3 (some .boolean) 1 := ⟨fw_499, fw_3, by decide, by decide, by decide +kernel⟩
theorem fz_Nt_lastOnes : fk_Y fy_Nt_lastOnes prog_4_method_6_code 1 (some .int) 0 := ⟨fw_343, fw_3, by decide, by decide, by decide +kernel⟩
theorem fz_Nt_outputsOf : fk_Y fy_Nt_outputsOf prog_4_method_4_code 2 (some .int) 1 := ⟨fw_359, fw_3, by decide, by decide, by decide +kernel⟩
theorem fz_Nt_placeCount : fk_Y fy_Nt_placeCount prog_4_method_2_code 1 (some .int) 0 := ⟨fw_305, fw_3, by decide, by decide, by decide +kernel⟩
theorem fz_Nt_prepareFiring : fk_Y fy_Nt_prepareFiring prog_4_method_13_code 2 none 0 := ⟨fw_271, fw_3, by decide, by decide, by decide +kernel⟩
theorem fz_Nt_removeAll : fk_Y fy_Nt_removeAll prog_4_method_12_code 1 none 0 := ⟨fw_263, fw_3, by decide, by decide, by decide +kernel⟩
theorem fz_Nt_setEnds : fk_Y fy_Nt_setEnds prog_4_method_10_code 3 none 2 := ⟨fw_267, fw_3, by decide, by decide, by decide +kernel⟩
theorem fz_Nt_setLoose : fk_Y fy_Nt_setLoose prog_4_method_11_code 2 none 1 := ⟨fw_301, fw_3, by decide, by decide, by decide +kernel⟩
theorem fz_Nt_sharesOutputs : fk_Y fy_Nt_sharesOutputs prog_4_method_20_code 5 (some .boolean) 2 := ⟨fw_465, fw_3, by decide, by decide, by decide +kernel⟩
theorem fz_Pl_init : fk_Y fy_Pl_init prog_5_method_1_code 1 none 0 := ⟨fw_125, fw_6, by decide, by decide, by decide +kernel⟩
theorem fz_Pl_chosenOf : fk_Y fy_Pl_chosenOf prog_5_method_5_code 5 (some .int) 2 := ⟨fw_480, fw_6, by decide, by decide, by decide +kernel⟩
theorem fz_Pl_firedAt : fk_Y fy_Pl_firedAt prog_5_method_3_code 2 (some .int) 1 := ⟨fw_491, fw_6, by decide, by decide, by decide +kernel⟩
theorem fz_Pl_firedCount : fk_Y fy_Pl_firedCount prog_5_method_2_code 1 (some .int) 0 := ⟨fw_487, fw_6, by decide, by decide, by decide +kernel⟩
theorem fz_Pl_reachesFinal : fk_Y fy_Pl_reachesFinal prog_5_method_4_code 10 (some .boolean) 2 := ⟨fw_474, fw_6, by decide, by decide, by decide +kernel⟩
theorem fz_Re_init : fk_Y fy_Re_init prog_6_method_1_code 1 none 0 := ⟨fw_100, fw_5, by decide, by decide, by decide +kernel⟩
theorem fz_Re_addAt : fk_Y fy_Re_addAt prog_6_method_6_code 4 (some .int) 2 := ⟨fw_397, fw_5, by decide, by decide, by decide +kernel⟩
theorem fz_Re_addNextOf : fk_Y fy_Re_addNextOf prog_6_method_4_code 8 (some .boolean) 2 := ⟨fw_401, fw_5, by decide, by decide, by decide +kernel⟩
theorem fz_Re_allCanEnd : fk_Y fy_Re_allCanEnd prog_6_method_9_code 4 (some .boolean) 0 := ⟨fw_431, fw_5, by decide, by decide, by decide +kernel⟩
theorem fz_Re_explore : fk_Y fy_Re_explore prog_6_method_3_code 3 (some .boolean) 1 := ⟨fw_387, fw_5, by decide, by decide, by decide +kernel⟩
theorem fz_Re_indexOf : fk_Y fy_Re_indexOf prog_6_method_5_code 6 (some .int) 1 := ⟨fw_392, fw_5, by decide, by decide, by decide +kernel⟩
theorem fz_Re_leadsToEnding : fk_Y fy_Re_leadsToEnding prog_6_method_11_code 4 (some .boolean) 1 := ⟨fw_439, fw_5, by decide, by decide, by decide +kernel⟩
theorem fz_Re_markingCount : fk_Y fy_Re_markingCount prog_6_method_2_code 1 (some .int) 0 := ⟨fw_409, fw_5, by decide, by decide, by decide +kernel⟩
theorem fz_Re_provesSound : fk_Y fy_Re_provesSound prog_6_method_7_code 2 (some .boolean) 1 := ⟨fw_417, fw_5, by decide, by decide, by decide +kernel⟩
theorem fz_Re_sinkMeansFinal : fk_Y fy_Re_sinkMeansFinal prog_6_method_8_code 2 (some .boolean) 0 := ⟨fw_425, fw_5, by decide, by decide, by decide +kernel⟩
theorem fz_Re_spreadEnding : fk_Y fy_Re_spreadEnding prog_6_method_10_code 3 (some .int) 0 := ⟨fw_435, fw_5, by decide, by decide, by decide +kernel⟩
theorem fz_Md_init : fk_Y fy_Md_init prog_8_method_1_code 1 none 0 := ⟨fw_505, fw_7, by decide, by decide, by decide +kernel⟩
theorem fz_Md_activities : fk_Y fy_Md_activities prog_8_method_20_code 4 (some .int) 1 := ⟨fw_653, fw_7, by decide, by decide, by decide +kernel⟩
theorem fz_Md_at : fk_Y fy_Md_at prog_8_method_6_code 3 (some .int) 2 := ⟨fw_586, fw_7, by decide, by decide, by decide +kernel⟩
theorem fz_Md_begin : fk_Y fy_Md_begin prog_8_method_2_code 1 (some .int) 0 := ⟨fw_570, fw_7, by decide, by decide, by decide +kernel⟩
theorem fz_Md_causal : fk_Y fy_Md_causal prog_8_method_10_code 7 (some .boolean) 2 := ⟨fw_603, fw_7, by decide, by decide, by decide +kernel⟩
theorem fz_Md_clear : fk_Y fy_Md_clear prog_8_method_4_code 1 none 0 := ⟨fw_578, fw_7, by decide, by decide, by decide +kernel⟩
theorem fz_Md_enabled : fk_Y fy_Md_enabled prog_8_method_25_code 5 (some .boolean) 2 := ⟨fw_649, fw_7, by decide, by decide, by decide +kernel⟩
theorem fz_Md_ends : fk_Y fy_Md_ends prog_8_method_15_code 3 (some .boolean) 2 := ⟨fw_618, fw_7, by decide, by decide, by decide +kernel⟩
theorem fz_Md_event : fk_Y fy_Md_event prog_8_method_3_code 2 (some .boolean) 1 := ⟨fw_574, fw_7, by decide, by decide, by decide +kernel⟩
theorem fz_Md_explore : fk_Y fy_Md_explore prog_8_method_30_code 4 none 1 := ⟨fw_677, fw_7, by decide, by decide, by decide +kernel⟩
theorem fz_Md_fire : fk_Y fy_Md_fire prog_8_method_26_code 4 none 2 := ⟨fw_661, fw_7, by decide, by decide, by decide +kernel⟩
theorem fz_Md_fits : fk_Y fy_Md_fits prog_8_method_27_code 5 (some .boolean) 2 := ⟨fw_641, fw_7, by decide, by decide, by decide +kernel⟩
theorem fz_Md_followed : fk_Y fy_Md_followed prog_8_method_7_code 5 (some .boolean) 2 := ⟨fw_594, fw_7, by decide, by decide, by decide +kernel⟩
theorem fz_Md_gives : fk_Y fy_Md_gives prog_8_method_24_code 4 (some .boolean) 3 := ⟨fw_665, fw_7, by decide, by decide, by decide +kernel⟩
theorem fz_Md_greatest : fk_Y fy_Md_greatest prog_8_method_11_code 5 (some .boolean) 2 := ⟨fw_610, fw_7, by decide, by decide, by decide +kernel⟩
theorem fz_Md_has : fk_Y fy_Md_has prog_8_method_9_code 2 (some .boolean) 2 := ⟨fw_606, fw_7, by decide, by decide, by decide +kernel⟩
theorem fz_Md_initial : fk_Y fy_Md_initial prog_8_method_21_code 2 none 0 := ⟨fw_645, fw_7, by decide, by decide, by decide +kernel⟩
theorem fz_Md_inputs : fk_Y fy_Md_inputs prog_8_method_18_code 3 (some .int) 2 := ⟨fw_633, fw_7, by decide, by decide, by decide +kernel⟩
theorem fz_Md_isFinal : fk_Y fy_Md_isFinal prog_8_method_22_code 3 (some .boolean) 0 := ⟨fw_669, fw_7, by decide, by decide, by decide +kernel⟩
theorem fz_Md_length : fk_Y fy_Md_length prog_8_method_5_code 2 (some .int) 1 := ⟨fw_582, fw_7, by decide, by decide, by decide +kernel⟩
theorem fz_Md_load : fk_Y fy_Md_load prog_8_method_28_code 3 none 1 := ⟨fw_685, fw_7, by decide, by decide, by decide +kernel⟩
theorem fz_Md_loops : fk_Y fy_Md_loops prog_8_method_33_code 7 (some .boolean) 1 := ⟨fw_697, fw_7, by decide, by decide, by decide +kernel⟩
theorem fz_Md_markings : fk_Y fy_Md_markings prog_8_method_31_code 2 (some .int) 1 := ⟨fw_673, fw_7, by decide, by decide, by decide +kernel⟩
theorem fz_Md_mine : fk_Y fy_Md_mine prog_8_method_12_code 4 (some .int) 0 := ⟨fw_598, fw_7, by decide, by decide, by decide +kernel⟩
theorem fz_Md_mixed : fk_Y fy_Md_mixed prog_8_method_34_code 8 (some .boolean) 1 := ⟨fw_701, fw_7, by decide, by decide, by decide +kernel⟩
theorem fz_Md_notNet : fk_Y fy_Md_notNet prog_8_method_13_code 1 (some .boolean) 1 := ⟨fw_629, fw_7, by decide, by decide, by decide +kernel⟩
theorem fz_Md_number : fk_Y fy_Md_number prog_8_method_29_code 4 (some .int) 0 := ⟨fw_681, fw_7, by decide, by decide, by decide +kernel⟩
theorem fz_Md_outputs : fk_Y fy_Md_outputs prog_8_method_19_code 3 (some .int) 2 := ⟨fw_637, fw_7, by decide, by decide, by decide +kernel⟩
theorem fz_Md_place : fk_Y fy_Md_place prog_8_method_14_code 4 (some .int) 2 := ⟨fw_614, fw_7, by decide, by decide, by decide +kernel⟩
theorem fz_Md_places : fk_Y fy_Md_places prog_8_method_17_code 2 (some .int) 1 := ⟨fw_626, fw_7, by decide, by decide, by decide +kernel⟩
theorem fz_Md_play : fk_Y fy_Md_play prog_8_method_36_code 7 (some .int) 1 := ⟨fw_705, fw_7, by decide, by decide, by decide +kernel⟩
theorem fz_Md_relation : fk_Y fy_Md_relation prog_8_method_8_code 3 (some .int) 2 := ⟨fw_590, fw_7, by decide, by decide, by decide +kernel⟩
theorem fz_Md_reset : fk_Y fy_Md_reset prog_8_method_16_code 1 none 0 := ⟨fw_622, fw_7, by decide, by decide, by decide +kernel⟩
theorem fz_Md_same : fk_Y fy_Md_same prog_8_method_37_code 5 (some .boolean) 0 := ⟨fw_710, fw_7, by decide, by decide, by decide +kernel⟩
theorem fz_Md_shape : fk_Y fy_Md_shape prog_8_method_35_code 4 (some .int) 1 := ⟨fw_693, fw_7, by decide, by decide, by decide +kernel⟩
theorem fz_Md_sound : fk_Y fy_Md_sound prog_8_method_32_code 8 (some .int) 1 := ⟨fw_689, fw_7, by decide, by decide, by decide +kernel⟩
theorem fz_Md_takes : fk_Y fy_Md_takes prog_8_method_23_code 4 (some .boolean) 3 := ⟨fw_657, fw_7, by decide, by decide, by decide +kernel⟩
theorem fz_It_bitCount : fk_Y fy_It_bitCount prog_9_method_49_code 1 (some .int) 1 := ⟨fw_454, fw_9, by decide, by decide, by decide +kernel⟩
theorem fz_Ar_fillI : fk_Y fy_Ar_fillI prog_10_method_103_code 4 none 2 := ⟨fw_190, fw_8, by decide, by decide, by decide +kernel⟩
theorem fz_Ar_fillJ : fk_Y fy_Ar_fillJ prog_10_method_101_code 5 none 2 := ⟨fw_274, fw_8, by decide, by decide, by decide +kernel⟩
end
section
/-! markings: a number with sixteen digits to the base 16 -/
def fm_enc (t : Nat → Nat) : Nat → Nat
  | 0 => 0
  | n + 1 => fm_enc t n + t n * 16 ^ n
def fm_dg (x j : Nat) : Nat := x / 16 ^ j % 16
theorem fm_dg_lt (x j : Nat) : fm_dg x j < 16 := Nat.mod_lt _ (by decide)
theorem fm_enc_lt {t : Nat → Nat} : ∀ {n : Nat}, (∀ j, j < n → t j < 16) → fm_enc t n < 16 ^ n
  | 0, _ => Nat.zero_lt_one
  | n + 1, h => by
    have h1 := fm_enc_lt (t := t) (n := n) (fun j hj => h j (by omega))
    have h2 := h n (by omega)
    have h3 : t n * 16 ^ n ≤ 15 * 16 ^ n := Nat.mul_le_mul_right _ (by omega)
    show fm_enc t n + t n * 16 ^ n < 16 ^ (n + 1)
    rw [Nat.pow_succ]
    omega
theorem fm_enc_congr {t t' : Nat → Nat} : ∀ {n : Nat}, (∀ j, j < n → t j = t' j) → fm_enc t n = fm_enc t' n
  | 0, _ => rfl
  | n + 1, h => by
    show fm_enc t n + t n * 16 ^ n = fm_enc t' n + t' n * 16 ^ n
    rw [fm_enc_congr (n := n) (fun j hj => h j (by omega)), h n (by omega)]
theorem fm_dig {t : Nat → Nat} : ∀ {n : Nat}, (∀ j, j < n → t j < 16) → ∀ {j : Nat}, j < n → fm_dg (fm_enc t n) j = t j
  | 0, _, _, hj => absurd hj (Nat.not_lt_zero _)
  | n + 1, h, j, hj => by
    have h0 := fm_enc_lt (t := t) (n := n) (fun j hj => h j (by omega))
    have hn := h n (by omega)
    show (fm_enc t n + t n * 16 ^ n) / 16 ^ j % 16 = t j
    rcases Nat.lt_or_ge j n with hl | hl
    · have ih := fm_dig (t := t) (n := n) (fun j hj => h j (by omega)) hl
      obtain ⟨k, hk⟩ : ∃ k, n = j + (k + 1) := ⟨n - j - 1, by omega⟩
      have e : t n * 16 ^ n = 16 ^ j * (16 * (t n * 16 ^ k)) := by
        rw [hk, Nat.pow_add, Nat.pow_succ, Nat.mul_comm (16 ^ k) 16]
        simp only [Nat.mul_assoc, Nat.mul_comm, Nat.mul_left_comm]
      rw [e, Nat.add_mul_div_left _ _ (Nat.pow_pos (by decide)), Nat.add_mul_mod_self_left]
      exact ih
    · have e : j = n := by omega
      subst e
      rw [Nat.add_mul_div_right _ _ (Nat.pow_pos (by decide)), Nat.div_eq_of_lt h0, Nat.zero_add, Nat.mod_eq_of_lt hn]
theorem fm_enc_dg (x : Nat) : ∀ n, fm_enc (fm_dg x) n = x % 16 ^ n
  | 0 => by rw [Nat.pow_zero, Nat.mod_one]; rfl
  | n + 1 => by
    show fm_enc (fm_dg x) n + fm_dg x n * 16 ^ n = _
    rw [fm_enc_dg x n, Nat.pow_succ, Nat.mod_mul, Nat.mul_comm]
    rfl
theorem fm_enc16 {x : Nat} (h : x < 2 ^ 64) : fm_enc (fm_dg x) 16 = x := by
  rw [fm_enc_dg, Nat.mod_eq_of_lt (by rw [show (16 : Nat) ^ 16 = 2 ^ 64 by decide]; exact h)]
theorem fm_ext {x y : Nat} (hx : x < 2 ^ 64) (hy : y < 2 ^ 64) (h : ∀ j, j < 16 → fm_dg x j = fm_dg y j) : x = y := by
  rw [← fm_enc16 hx, ← fm_enc16 hy]
  exact fm_enc_congr h
theorem fm_lt64 {t : Nat → Nat} (h : ∀ j, j < 16 → t j < 16) : fm_enc t 16 < 2 ^ 64 := by
  have h1 := fm_enc_lt (t := t) (n := 16) h
  rw [show (16 : Nat) ^ 16 = 2 ^ 64 by decide] at h1
  exact h1
theorem fm_bit (x j r : Nat) (hr : r < 4) : (fm_dg x j).testBit r = x.testBit (4 * j + r) := by
  unfold fm_dg
  rw [show (16 : Nat) ^ j = 2 ^ (4 * j) by rw [Nat.pow_mul], show (16 : Nat) = 2 ^ 4 by decide, Nat.testBit_mod_two_pow, Nat.testBit_div_two_pow]
  simp [hr, Nat.add_comm]
theorem fm_pos4 : ∀ d, d < 16 → ((d.testBit 0 || d.testBit 1 || d.testBit 2 || d.testBit 3) = decide (0 < d)) := by decide +kernel
theorem fm_pos (x j : Nat) : (x.testBit (4 * j) || x.testBit (4 * j + 1) || x.testBit (4 * j + 2) || x.testBit (4 * j + 3)) = decide (0 < fm_dg x j) := by
  rw [← fm_pos4 _ (fm_dg_lt x j), fm_bit x j 0 (by decide), fm_bit x j 1 (by decide), fm_bit x j 2 (by decide), fm_bit x j 3 (by decide)]
  rfl
theorem fm_b01 : ∀ r, r < 4 → ∀ b : Bool, (b.toNat).testBit r = (b && decide (r = 0)) := by decide +kernel
/-- a mark in each place that f names -/
def fm_mk (f : Nat → Bool) : Nat := fm_enc (fun j => (f j).toNat) 16
theorem fm_b16 (b : Bool) : b.toNat < 16 := by cases b <;> decide
theorem fm_mk_lt (f : Nat → Bool) : fm_mk f < 2 ^ 64 := fm_lt64 (fun j _ => fm_b16 (f j))
theorem fm_mk_dg (f : Nat → Bool) {j : Nat} (hj : j < 16) : fm_dg (fm_mk f) j = (f j).toNat := fm_dig (fun j _ => fm_b16 (f j)) hj
theorem fm_mk_bit (f : Nat → Bool) {j r : Nat} (hj : j < 16) (hr : r < 4) : (fm_mk f).testBit (4 * j + r) = (f j && decide (r = 0)) := by
  rw [← fm_bit _ _ _ hr, fm_mk_dg f hj, fm_b01 r hr]
theorem fm_big {x i : Nat} (hx : x < 2 ^ 64) (hi : 64 ≤ i) : x.testBit i = false := Nat.testBit_lt_two_pow (Nat.lt_of_lt_of_le hx (Nat.pow_le_pow_right (by decide) hi))
theorem fm_one : ∀ i, i < 64 → (1229782938247303441 : Nat).testBit i = decide (i % 4 = 0) := by decide +kernel
theorem fm_ones : ∀ i, i < 64 → (18446744073709551615 : Nat).testBit i = true := by decide +kernel
/-- what is held in at least one, a bit a place -/
def fm_held (x : Nat) : Nat := (((x ||| x / 2 ^ 1) ||| x / 2 ^ 2) ||| x / 2 ^ 3) &&& 1229782938247303441
theorem fm_held_bit (x : Nat) {j r : Nat} (hj : j < 16) (hr : r < 4) : (fm_held x).testBit (4 * j + r) = (decide (0 < fm_dg x j) && decide (r = 0)) := by
  unfold fm_held
  rw [Nat.testBit_and, fm_one _ (by omega)]
  by_cases h : r = 0
  · subst h
    simp only [Nat.testBit_or, Nat.testBit_div_two_pow, Nat.add_zero]
    rw [← fm_pos x j]
    simp [Nat.add_comm]
  · rw [decide_eq_false (show ¬ (4 * j + r) % 4 = 0 by omega), decide_eq_false h, Bool.and_false, Bool.and_false]
theorem fm_and0 {a b : Nat} : a &&& b = 0 ↔ ∀ i, (a.testBit i && b.testBit i) = false := by
  constructor
  · intro h i
    rw [← Nat.testBit_and, h, Nat.zero_testBit]
  · intro h
    apply Nat.eq_of_testBit_eq
    intro i
    rw [Nat.testBit_and, h i, Nat.zero_testBit]
/-- all that is taken is held -/
theorem fm_en (f : Nat → Bool) (x : Nat) : fm_mk f &&& (fm_held x ^^^ 18446744073709551615) = 0 ↔ ∀ j, j < 16 → f j = true → 0 < fm_dg x j := by
  rw [fm_and0]
  constructor
  · intro h j hj hf
    have h1 := h (4 * j + 0)
    rw [Nat.testBit_xor, fm_mk_bit f hj (by decide), fm_held_bit x hj (by decide), fm_ones _ (by omega), hf] at h1
    simpa using h1
  · intro h i
    rcases Nat.lt_or_ge i 64 with hi | hi
    · have e : i = 4 * (i / 4) + i % 4 := by omega
      have hj : i / 4 < 16 := by omega
      have hr : i % 4 < 4 := by omega
      rw [e, Nat.testBit_xor, fm_mk_bit f hj hr, fm_held_bit x hj hr, fm_ones _ (by omega)]
      cases hf : f (i / 4) with
      | false => simp
      | true =>
        have h2 := h _ hj hf
        by_cases hz : i % 4 = 0 <;> simp [hz, h2]
    · rw [fm_big (fm_mk_lt f) hi, Bool.false_and]
/-- firing: what is taken away and what is put -/
def fm_fire (f g : Nat → Bool) (x : Nat) : Nat := fm_enc (fun j => fm_dg x j - (f j).toNat + (g j).toNat) 16
theorem fm_enc_add (s t : Nat → Nat) : ∀ n, fm_enc (fun j => s j + t j) n = fm_enc s n + fm_enc t n
  | 0 => rfl
  | n + 1 => by
    show fm_enc (fun j => s j + t j) n + (s n + t n) * 16 ^ n = (fm_enc s n + s n * 16 ^ n) + (fm_enc t n + t n * 16 ^ n)
    rw [fm_enc_add s t n, Nat.add_mul]
    omega
theorem fm_b_le {b : Bool} {d : Nat} (h : b = true → 0 < d) : b.toNat ≤ d := by
  cases b
  · exact Nat.zero_le _
  · exact h rfl
theorem fm_take_le (f : Nat → Bool) {x : Nat} (hx : x < 2 ^ 64) (h : ∀ j, j < 16 → f j = true → 0 < fm_dg x j) : fm_enc (fun j => fm_dg x j - (f j).toNat) 16 + fm_mk f = x := by
  unfold fm_mk
  rw [← fm_enc_add]
  rw [fm_enc_congr (t' := fm_dg x) (fun j hj => Nat.sub_add_cancel (fm_b_le (h j hj)))]
  exact fm_enc16 hx
theorem fm_fire_eq (f g : Nat → Bool) {x : Nat} (hx : x < 2 ^ 64) (h : ∀ j, j < 16 → f j = true → 0 < fm_dg x j) : x - fm_mk f + fm_mk g = fm_fire f g x := by
  have h1 := fm_take_le f hx h
  unfold fm_fire
  rw [fm_enc_add (fun j => fm_dg x j - (f j).toNat) (fun j => (g j).toNat)]
  show x - fm_mk f + fm_mk g = _ + fm_mk g
  omega
theorem fm_fire_dg (f g : Nat → Bool) {x : Nat} (h : ∀ j, j < 16 → fm_dg x j - (f j).toNat + (g j).toNat < 16) {j : Nat} (hj : j < 16) : fm_dg (fm_fire f g x) j = fm_dg x j - (f j).toNat + (g j).toNat := fm_dig h hj
theorem fm_fire_lt (f g : Nat → Bool) {x : Nat} (h : ∀ j, j < 16 → fm_dg x j - (f j).toNat + (g j).toNat < 16) : fm_fire f g x < 2 ^ 64 := fm_lt64 h
theorem fm_eights : ∀ i, i < 64 → (9838263505978427528 : Nat).testBit i = decide (i % 4 = 3) := by decide +kernel
theorem fm_b3 : ∀ d, d < 16 → d.testBit 3 = decide (8 ≤ d) := by decide +kernel
theorem fm_wide {x : Nat} (hx : x < 2 ^ 64) : x &&& 9838263505978427528 = 0 ↔ ∀ j, j < 16 → fm_dg x j < 8 := by
  rw [fm_and0]
  constructor
  · intro h j hj
    have h1 := h (4 * j + 3)
    rw [fm_eights _ (by omega), ← fm_bit x j 3 (by decide), fm_b3 _ (fm_dg_lt x j), decide_eq_true (show (4 * j + 3) % 4 = 3 by omega), Bool.and_true] at h1
    have := of_decide_eq_false h1
    omega
  · intro h i
    rcases Nat.lt_or_ge i 64 with hi | hi
    · have e : i = 4 * (i / 4) + i % 4 := by omega
      rw [fm_eights _ hi]
      by_cases h3 : i % 4 = 3
      · rw [e, h3, ← fm_bit x (i / 4) 3 (by decide), fm_b3 _ (fm_dg_lt x _), decide_eq_false (by have := h (i / 4) (by omega); omega), Bool.false_and]
      · rw [decide_eq_false h3, Bool.and_false]
    · rw [fm_big hx hi, Bool.false_and]
theorem fm_sinkb : ∀ i, i < 64 → (240 : Nat).testBit i = decide (i / 4 = 1) := by decide +kernel
theorem fm_sink {x : Nat} (hx : x < 2 ^ 64) : x &&& 240 = 0 ↔ fm_dg x 1 = 0 := by
  rw [fm_and0]
  constructor
  · intro h
    have h1 := fm_pos x 1
    have h2 : ∀ r, r < 4 → x.testBit (4 * 1 + r) = false := fun r hr => by
      have := h (4 * 1 + r)
      rw [fm_sinkb _ (by omega), decide_eq_true (show (4 * 1 + r) / 4 = 1 by omega), Bool.and_true] at this
      exact this
    rw [show 4 * 1 = 4 * 1 + 0 from rfl, h2 0 (by decide), show 4 * 1 + 0 + 1 = 4 * 1 + 1 from rfl, h2 1 (by decide), show 4 * 1 + 0 + 2 = 4 * 1 + 2 from rfl, h2 2 (by decide), show 4 * 1 + 0 + 3 = 4 * 1 + 3 from rfl, h2 3 (by decide)] at h1
    have := of_decide_eq_false h1.symm
    omega
  · intro h i
    rcases Nat.lt_or_ge i 64 with hi | hi
    · have e : i = 4 * (i / 4) + i % 4 := by omega
      rw [fm_sinkb _ hi]
      by_cases h3 : i / 4 = 1
      · rw [e, h3, ← fm_bit x 1 (i % 4) (by omega), h, Nat.zero_testBit, Bool.false_and]
      · rw [decide_eq_false h3, Bool.and_false]
    · rw [fm_big hx hi, Bool.false_and]
theorem fm_dg16 : ∀ j, j < 16 → fm_dg 16 j = if j = 1 then 1 else 0 := by decide +kernel
theorem fm_dg1 : ∀ j, j < 16 → fm_dg 1 j = if j = 0 then 1 else 0 := by decide +kernel
theorem fm_final {x : Nat} (hx : x < 2 ^ 64) : x = 16 ↔ fm_dg x 1 = 1 ∧ ∀ j, j < 16 → j ≠ 1 → fm_dg x j = 0 := by
  constructor
  · intro h
    subst h
    refine ⟨by decide, fun j hj h1 => ?_⟩
    rw [fm_dg16 j hj, if_neg h1]
  · intro ⟨h1, h2⟩
    refine fm_ext hx (by decide) (fun j hj => ?_)
    rw [fm_dg16 j hj]
    by_cases h : j = 1
    · rw [if_pos h, h, h1]
    · rw [if_neg h, h2 j hj h]
/-- one mark more -/
theorem fm_mk_or {f g : Nat → Bool} {k : Nat} (hk : k < 16) (hg : ∀ j, j < 16 → g j = (f j || decide (j = k))) : fm_mk f ||| 2 ^ (4 * k) = fm_mk g := by
  apply Nat.eq_of_testBit_eq
  intro i
  rw [Nat.testBit_or, Nat.testBit_two_pow]
  rcases Nat.lt_or_ge i 64 with hi | hi
  · have e : i = 4 * (i / 4) + i % 4 := by omega
    have hj : i / 4 < 16 := by omega
    have hr : i % 4 < 4 := by omega
    have e2 : decide (4 * k = i) = (decide (i / 4 = k) && decide (i % 4 = 0)) := by
      rw [← Bool.decide_and]
      apply decide_eq_decide.mpr
      omega
    rw [e2]
    rw [show (fm_mk f).testBit i = (f (i / 4) && decide (i % 4 = 0)) by rw [← fm_mk_bit f hj hr, ← e], show (fm_mk g).testBit i = (g (i / 4) && decide (i % 4 = 0)) by rw [← fm_mk_bit g hj hr, ← e], hg _ hj]
    cases f (i / 4) <;> cases decide (i / 4 = k) <;> cases decide (i % 4 = 0) <;> rfl
  · rw [fm_big (fm_mk_lt f) hi, fm_big (fm_mk_lt g) hi, decide_eq_false (by omega)]
    rfl
theorem fm_mk0 {f : Nat → Bool} (h : ∀ j, j < 16 → f j = false) : fm_mk f = 0 := by
  refine fm_ext (fm_mk_lt f) (by decide) (fun j hj => ?_)
  rw [fm_mk_dg f hj, h j hj]
  exact ((by decide +kernel : ∀ j, j < 16 → false.toNat = fm_dg 0 j) j hj)
end
section
/-! sets of activities as numbers -/
theorem fb_and {s a : Nat} : s &&& 2 ^ a = 0 ↔ s.testBit a = false := by
  rw [fm_and0]
  constructor
  · intro h
    have h1 := h a
    rw [Nat.testBit_two_pow_self, Bool.and_true] at h1
    exact h1
  · intro h i
    rw [Nat.testBit_two_pow]
    by_cases e : a = i
    · subst e
      rw [h, Bool.false_and]
    · rw [decide_eq_false e, Bool.and_false]
theorem fb_and_ne {s a : Nat} : s &&& 2 ^ a ≠ 0 ↔ s.testBit a = true := by
  rw [Ne, fb_and]
  cases s.testBit a <;> simp
theorem fb_big {s a : Nat} (h : s < 128) (ha : 7 ≤ a) : s.testBit a = false := Nat.testBit_lt_two_pow (Nat.lt_of_lt_of_le h (show 2 ^ 7 ≤ 2 ^ a from Nat.pow_le_pow_right (by decide) ha))
theorem fb_ext {s t : Nat} (hs : s < 128) (ht : t < 128) (h : ∀ a, a < 7 → s.testBit a = t.testBit a) : s = t := by
  apply Nat.eq_of_testBit_eq
  intro i
  rcases Nat.lt_or_ge i 7 with hi | hi
  · exact h i hi
  · rw [fb_big hs hi, fb_big ht hi]
theorem fb_or_lt {a b : Nat} (ha : a < 128) (hb : b < 128) : a ||| b < 128 := Nat.or_lt_two_pow (n := 7) ha hb
theorem fb_and_lt {a b : Nat} (hb : b < 128) : a &&& b < 128 := Nat.and_lt_two_pow (n := 7) a hb
theorem fb_and_lt' {a b : Nat} (ha : a < 128) : a &&& b < 128 := Nat.lt_of_le_of_lt Nat.and_le_left ha
theorem fb_pow_lt {a : Nat} (h : a < 7) : 2 ^ a < 128 := Nat.pow_lt_pow_right (show 1 < 2 by decide) h
theorem fb_pow31 {a : Nat} (h : a < 31) : 2 ^ a < 2 ^ 31 := Nat.pow_lt_pow_right (show 1 < 2 by decide) h
/-- the set of those below n that f names -/
def fs_set (f : Nat → Bool) : Nat → Nat
  | 0 => 0
  | n + 1 => fs_set f n ||| (if f n then 2 ^ n else 0)
theorem fs_set_bit (f : Nat → Bool) : ∀ n a, (fs_set f n).testBit a = (decide (a < n) && f a)
  | 0, a => by
    show (0 : Nat).testBit a = _
    simp
  | n + 1, a => by
    show (fs_set f n ||| (if f n then 2 ^ n else 0)).testBit a = _
    rw [Nat.testBit_or, fs_set_bit f n a]
    by_cases h : f n = true
    · rw [if_pos h, Nat.testBit_two_pow]
      by_cases e : n = a
      · subst e
        simp [h]
      · rw [decide_eq_false e, Bool.or_false]
        by_cases l : a < n
        · rw [decide_eq_true l, decide_eq_true (show a < n + 1 by omega)]
        · rw [decide_eq_false l, decide_eq_false (show ¬ a < n + 1 by omega)]
    · rw [if_neg h, Nat.zero_testBit, Bool.or_false]
      by_cases e : n = a
      · subst e
        simp [h]
      · by_cases l : a < n
        · rw [decide_eq_true l, decide_eq_true (show a < n + 1 by omega)]
        · rw [decide_eq_false l, decide_eq_false (show ¬ a < n + 1 by omega)]
theorem fs_set_lt (f : Nat → Bool) {n : Nat} (h : n ≤ 7) : fs_set f n < 128 := by
  apply Nat.lt_pow_two_of_testBit (n := 7)
  intro i hi
  rw [fs_set_bit, decide_eq_false (by omega), Bool.false_and]
theorem fs_set_t {f : Nat → Bool} {n : Nat} (h : f n = true) : fs_set f n ||| 2 ^ n = fs_set f (n + 1) := by
  show _ = fs_set f n ||| (if f n then 2 ^ n else 0)
  rw [if_pos h]
theorem fs_set_f {f : Nat → Bool} {n : Nat} (h : f n = false) : fs_set f n = fs_set f (n + 1) := by
  show _ = fs_set f n ||| (if f n then 2 ^ n else 0)
  rw [h, if_neg (by decide), Nat.or_zero]
/-- for all below n, as a truth value -/
def fs_all (f : Nat → Bool) : Nat → Bool
  | 0 => true
  | n + 1 => fs_all f n && f n
theorem fs_all_iff {f : Nat → Bool} : ∀ {n : Nat}, fs_all f n = true ↔ ∀ j, j < n → f j = true
  | 0 => ⟨fun _ j h => absurd h (Nat.not_lt_zero j), fun _ => rfl⟩
  | n + 1 => by
    show (fs_all f n && f n) = true ↔ _
    rw [Bool.and_eq_true, fs_all_iff]
    constructor
    · intro ⟨h1, h2⟩ j hj
      rcases Nat.lt_or_ge j n with h | h
      · exact h1 j h
      · rw [show j = n by omega]; exact h2
    · intro h
      exact ⟨fun j hj => h j (by omega), h n (by omega)⟩
def fs_any (f : Nat → Bool) : Nat → Bool
  | 0 => false
  | n + 1 => fs_any f n || f n
theorem fs_any_iff {f : Nat → Bool} : ∀ {n : Nat}, fs_any f n = true ↔ ∃ j, j < n ∧ f j = true
  | 0 => ⟨fun h => by simp [fs_any] at h, fun ⟨j, h, _⟩ => absurd h (Nat.not_lt_zero j)⟩
  | n + 1 => by
    show (fs_any f n || f n) = true ↔ _
    rw [Bool.or_eq_true, fs_any_iff]
    constructor
    · intro h
      rcases h with ⟨j, hj, h⟩ | h
      · exact ⟨j, by omega, h⟩
      · exact ⟨n, by omega, h⟩
    · intro ⟨j, hj, h⟩
      rcases Nat.lt_or_ge j n with h1 | h1
      · exact Or.inl ⟨j, h1, h⟩
      · right
        rw [show n = j by omega]; exact h
theorem fs_any_f {f : Nat → Bool} {n : Nat} : fs_any f n = false ↔ ∀ j, j < n → f j = false := by
  constructor
  · intro h j hj
    cases hf : f j with
    | false => rfl
    | true => exact absurd (fs_any_iff.mpr ⟨j, hj, hf⟩) (by rw [h]; decide)
  · intro h
    cases hf : fs_any f n with
    | false => rfl
    | true =>
      obtain ⟨j, hj, h1⟩ := fs_any_iff.mp hf
      rw [h j hj] at h1
      exact absurd h1 (by decide)
theorem fs_any_t {f : Nat → Bool} {n j : Nat} (hj : j < n) (h : f j = true) : fs_any f n = true := fs_any_iff.mpr ⟨j, hj, h⟩
theorem fs_all_f {f : Nat → Bool} {n j : Nat} (hj : j < n) (h : f j = false) : fs_all f n = false := by
  cases hf : fs_all f n with
  | false => rfl
  | true =>
    rw [fs_all_iff.mp hf j hj] at h
    exact absurd h (by decide)
theorem fs_all_congr {f g : Nat → Bool} {n : Nat} (h : ∀ j, j < n → f j = g j) : fs_all f n = fs_all g n := by
  induction n with
  | zero => rfl
  | succ n ih =>
    show (fs_all f n && f n) = (fs_all g n && g n)
    rw [ih (fun j hj => h j (by omega)), h n (by omega)]
theorem fs_any_congr {f g : Nat → Bool} {n : Nat} (h : ∀ j, j < n → f j = g j) : fs_any f n = fs_any g n := by
  induction n with
  | zero => rfl
  | succ n ih =>
    show (fs_any f n || f n) = (fs_any g n || g n)
    rw [ih (fun j hj => h j (by omega)), h n (by omega)]
theorem fs_set_congr {f g : Nat → Bool} {n : Nat} (h : ∀ j, j < n → f j = g j) : fs_set f n = fs_set g n := by
  induction n with
  | zero => rfl
  | succ n ih =>
    show (fs_set f n ||| (if f n then 2 ^ n else 0)) = (fs_set g n ||| (if g n then 2 ^ n else 0))
    rw [ih (fun j hj => h j (by omega)), h n (by omega)]
/-- may a be fired in the marking x: O j is the set that takes from place j -/
def fs_tak (O : Nat → Nat) (a j : Nat) : Bool := (O j).testBit a
def fs_can (O : Nat → Nat) (x a : Nat) : Bool := fs_all (fun j => !(fs_tak O a j) || decide (0 < fm_dg x j)) 16
def fs_en (O : Nat → Nat) (me x a : Nat) : Bool := me.testBit a && fs_can O x a
theorem fs_can_iff {O : Nat → Nat} {x a : Nat} : fs_can O x a = true ↔ ∀ j, j < 16 → fs_tak O a j = true → 0 < fm_dg x j := by
  unfold fs_can
  rw [fs_all_iff]
  constructor
  · intro h j hj ht
    have h1 := h j hj
    rw [ht] at h1
    simpa using h1
  · intro h j hj
    cases ht : fs_tak O a j with
    | false => rfl
    | true =>
      have h1 := h j hj ht
      simp [h1]
def fs_ens (O : Nat → Nat) (me x : Nat) : Nat := fs_set (fs_en O me x) 7
theorem fs_ens_and {O : Nat → Nat} {me x : Nat} (h : me < 128) : fs_set (fs_can O x) 7 &&& me = fs_ens O me x := by
  refine fb_ext (fb_and_lt h) (fs_set_lt _ (by decide)) (fun a ha => ?_)
  unfold fs_ens
  rw [Nat.testBit_and, fs_set_bit, fs_set_bit]
  unfold fs_en
  cases me.testBit a <;> cases fs_can O x a <;> cases decide (a < 7) <;> rfl
def fs_fire (O I : Nat → Nat) (x a : Nat) : Nat := fm_fire (fs_tak O a) (fs_tak I a) x
end
section
/-! the pairs of a log: fl a b says that a is followed by b -/
def fg_caus (fl : Nat → Nat → Bool) (a b : Nat) : Bool := fl a b && !(fl b a)
def fg_str (fl : Nat → Nat → Bool) (a b : Nat) : Bool := !(fl a b) && !(fl b a)
def fg_ok (fl : Nat → Nat → Bool) (l r a b : Nat) : Bool := (!(l.testBit a && r.testBit b) || fg_caus fl a b) && (!((l.testBit a && l.testBit b) || (r.testBit a && r.testBit b)) || fg_str fl a b)
def fg_C (fl : Nat → Nat → Bool) (l r : Nat) : Bool := (decide (0 < l) && decide (0 < r)) && fs_all (fun a => fs_all (fun b => fg_ok fl l r a b) 7) 7
def fg_more (fl : Nat → Nat → Bool) (l r a : Nat) : Bool := (!(l.testBit a) && fg_C fl (l ||| 2 ^ a) r) || (!(r.testBit a) && fg_C fl l (r ||| 2 ^ a))
def fg_G (fl : Nat → Nat → Bool) (l r : Nat) : Bool := !(fs_any (fg_more fl l r) 7)
def fg_Q (fl : Nat → Nat → Bool) (i : Nat) : Bool := fg_C fl (i / 128) (i % 128) && fg_G fl (i / 128) (i % 128)
def fg_L (fl : Nat → Nat → Bool) (n : Nat) : List Nat := (List.range n).filter (fg_Q fl)
theorem fg_L_t {fl : Nat → Nat → Bool} {n : Nat} (h : fg_Q fl n = true) : fg_L fl (n + 1) = fg_L fl n ++ [n] := by
  unfold fg_L
  rw [List.range_succ, List.filter_append, List.filter_cons_of_pos h, List.filter_nil]
theorem fg_L_f {fl : Nat → Nat → Bool} {n : Nat} (h : fg_Q fl n = false) : fg_L fl (n + 1) = fg_L fl n := by
  unfold fg_L
  rw [List.range_succ, List.filter_append, List.filter_cons_of_neg (by rw [h]; decide), List.filter_nil, List.append_nil]
theorem fg_L_mono {fl : Nat → Nat → Bool} {n m : Nat} (h : n ≤ m) : (fg_L fl n).length ≤ (fg_L fl m).length := by
  induction m with
  | zero => rw [show n = 0 by omega]; exact Nat.le_refl _
  | succ m ih =>
    rcases Nat.lt_or_ge n (m + 1) with h1 | h1
    · have h2 := ih (by omega)
      cases hq : fg_Q fl m with
      | true => rw [fg_L_t hq, List.length_append]; omega
      | false => rw [fg_L_f hq]; exact h2
    · rw [show n = m + 1 by omega]; exact Nat.le_refl _
theorem fg_L_skip {fl : Nat → Nat → Bool} {n : Nat} : ∀ {m : Nat}, n ≤ m → (∀ i, n ≤ i → i < m → fg_Q fl i = false) → fg_L fl m = fg_L fl n
  | 0, h, _ => by rw [show n = 0 by omega]
  | m + 1, h, hf => by
    rcases Nat.lt_or_ge n (m + 1) with h1 | h1
    · rw [fg_L_f (hf m (by omega) (by omega))]
      exact fg_L_skip (by omega) (fun i hi hm => hf i hi (by omega))
    · rw [show n = m + 1 by omega]
/-- the class's words: no two of a set know each other; what all of a set cause -/
def fg_S (fl : Nat → Nat → Bool) (s : Nat) : Bool := fs_all (fun a => fs_all (fun b => !(s.testBit a && s.testBit b) || fg_str fl a b) 7) 7
def fg_E (fl : Nat → Nat → Bool) (s : Nat) : Nat := fs_set (fun b => fs_all (fun a => !(s.testBit a) || fg_caus fl a b) 7) 7
theorem fg_S_iff {fl : Nat → Nat → Bool} {s : Nat} : fg_S fl s = true ↔ ∀ a, a < 7 → ∀ b, b < 7 → s.testBit a = true → s.testBit b = true → fg_str fl a b = true := by
  unfold fg_S
  rw [fs_all_iff]
  constructor
  · intro h a ha b hb h1 h2
    have h3 := fs_all_iff.mp (h a ha) b hb
    rw [h1, h2] at h3
    simpa using h3
  · intro h a ha
    rw [fs_all_iff]
    intro b hb
    cases h1 : s.testBit a with
    | false => rfl
    | true =>
      cases h2 : s.testBit b with
      | false => rfl
      | true =>
        rw [h a ha b hb h1 h2]
        rfl
theorem fg_E_bit {fl : Nat → Nat → Bool} {s b : Nat} (hb : b < 7) : (fg_E fl s).testBit b = true ↔ ∀ a, a < 7 → s.testBit a = true → fg_caus fl a b = true := by
  unfold fg_E
  rw [fs_set_bit, decide_eq_true hb, Bool.true_and, fs_all_iff]
  constructor
  · intro h a ha h1
    have h2 := h a ha
    rw [h1] at h2
    simpa using h2
  · intro h a ha
    cases h1 : s.testBit a with
    | false => rfl
    | true => rw [h a ha h1]; rfl
theorem fg_E_lt (fl : Nat → Nat → Bool) (s : Nat) : fg_E fl s < 128 := fs_set_lt _ (by decide)
/-- the class's test of a causal pair -/
def fg_T (fl : Nat → Nat → Bool) (l r : Nat) : Bool := (fg_S fl l && fg_S fl r) && fs_all (fun b => !(r.testBit b) || (fg_E fl l).testBit b) 7
theorem fg_ok_iff {fl : Nat → Nat → Bool} {l r a b : Nat} : fg_ok fl l r a b = true ↔ (l.testBit a = true → r.testBit b = true → fg_caus fl a b = true) ∧ (l.testBit a = true → l.testBit b = true → fg_str fl a b = true) ∧ (r.testBit a = true → r.testBit b = true → fg_str fl a b = true) := by
  unfold fg_ok
  cases l.testBit a <;> cases l.testBit b <;> cases r.testBit a <;> cases r.testBit b <;> cases fg_caus fl a b <;> cases fg_str fl a b <;> simp
theorem fg_C_T {fl : Nat → Nat → Bool} {l r : Nat} (hl : 0 < l) (hr : 0 < r) : fg_C fl l r = fg_T fl l r := by
  apply Bool.eq_iff_iff.mpr
  unfold fg_C fg_T
  simp only [decide_eq_true hl, decide_eq_true hr, Bool.and_eq_true, fg_S_iff, fs_all_iff]
  simp only [true_and, and_self]
  constructor
  · intro h
    refine ⟨⟨fun a ha b hb h1 h2 => (fg_ok_iff.mp (h a ha b hb)).2.1 h1 h2, fun a ha b hb h1 h2 => (fg_ok_iff.mp (h a ha b hb)).2.2 h1 h2⟩, fun b hb => ?_⟩
    cases h1 : r.testBit b with
    | false => rfl
    | true =>
      rw [(fg_E_bit hb).mpr (fun a ha h2 => (fg_ok_iff.mp (h a ha b hb)).1 h2 h1)]
      rfl
  · intro ⟨⟨h1, h2⟩, h3⟩
    refine fun a ha b hb => fg_ok_iff.mpr ⟨fun q1 q2 => ?_, h1 a ha b hb, h2 a ha b hb⟩
    have h4 := h3 b hb
    rw [q2] at h4
    exact (fg_E_bit hb).mp (by simpa using h4) a ha q1
theorem fg_str_comm (fl : Nat → Nat → Bool) (a b : Nat) : fg_str fl a b = fg_str fl b a := Bool.and_comm _ _
/-- a set with a new greatest element -/
theorem fg_bit_add {r a : Nat} (hr : r < 2 ^ a) (b : Nat) : (r ||| 2 ^ a).testBit b = (r.testBit b || decide (b = a)) := by
  rw [Nat.testBit_or, Nat.testBit_two_pow]
  congr 1
  apply decide_eq_decide.mpr
  exact ⟨Eq.symm, Eq.symm⟩
theorem fg_E_add {fl : Nat → Nat → Bool} {r a c : Nat} (ha : a < 7) (hr : r < 2 ^ a) (hc : c < 128) (hcb : ∀ b, b < 7 → c.testBit b = fg_caus fl a b) : fg_E fl r &&& c = fg_E fl (r ||| 2 ^ a) := by
  refine fb_ext (fb_and_lt hc) (fg_E_lt _ _) (fun b hb => ?_)
  apply Bool.eq_iff_iff.mpr
  rw [Nat.testBit_and, Bool.and_eq_true, fg_E_bit hb, fg_E_bit hb, hcb b hb]
  constructor
  · intro ⟨h1, h2⟩ d hd hq
    rw [fg_bit_add hr, Bool.or_eq_true] at hq
    rcases hq with hq | hq
    · exact h1 d hd hq
    · rw [of_decide_eq_true hq]; exact h2
  · intro h
    refine ⟨fun d hd hq => h d hd (by rw [fg_bit_add hr, hq]; rfl), h a ha (by rw [fg_bit_add hr]; simp)⟩
theorem fg_S_add {fl : Nat → Nat → Bool} {r a k : Nat} (ha : a < 7) (hr : r < 2 ^ a) (hkb : ∀ b, b < 7 → k.testBit b = !(fg_str fl a b)) (hk : k < 128) : (fg_S fl r && decide (k &&& (r ||| 2 ^ a) = 0)) = fg_S fl (r ||| 2 ^ a) := by
  apply Bool.eq_iff_iff.mpr
  rw [Bool.and_eq_true, fg_S_iff, fg_S_iff, decide_eq_true_iff, fm_and0]
  constructor
  · intro ⟨h1, h2⟩ d hd b hb q1 q2
    have key : ∀ c, c < 7 → (r ||| 2 ^ a).testBit c = true → fg_str fl a c = true := fun c hc q => by
      have h3 := h2 c
      rw [q, hkb c hc, Bool.and_true] at h3
      simpa using h3
    have q1' := q1
    have q2' := q2
    rw [fg_bit_add hr, Bool.or_eq_true] at q1 q2
    rcases q1 with q1 | q1
    · rcases q2 with q2 | q2
      · exact h1 d hd b hb q1 q2
      · rw [of_decide_eq_true q2, fg_str_comm]; exact key d hd q1'
    · rw [of_decide_eq_true q1]; exact key b hb q2'
  · intro h
    refine ⟨fun d hd b hb q1 q2 => h d hd b hb (by rw [fg_bit_add hr, q1]; rfl) (by rw [fg_bit_add hr, q2]; rfl), fun i => ?_⟩
    rcases Nat.lt_or_ge i 7 with hi | hi
    · cases q : (r ||| 2 ^ a).testBit i with
      | false => rw [Bool.and_false]
      | true => rw [hkb i hi, h a ha i hi (by rw [fg_bit_add hr]; simp) q]; rfl
    · rw [fb_big hk hi, Bool.false_and]
theorem fg_E0 (fl : Nat → Nat → Bool) : fg_E fl 0 = 127 := by
  refine fb_ext (fg_E_lt _ _) (by decide) (fun b hb => ?_)
  rw [(fg_E_bit hb).mpr (fun a _ h => by rw [Nat.zero_testBit] at h; exact absurd h (by decide))]
  exact ((by decide +kernel : ∀ b, b < 7 → true = (127 : Nat).testBit b) b hb)
theorem fg_S0 (fl : Nat → Nat → Bool) : fg_S fl 0 = true := fg_S_iff.mpr (fun a _ b _ h _ => by rw [Nat.zero_testBit] at h; exact absurd h (by decide))
theorem fg_Q_0 {fl : Nat → Nat → Bool} {i : Nat} (h : i % 128 = 0) : fg_Q fl i = false := by
  unfold fg_Q fg_C
  rw [h]
  simp
/-- followed, in a log of T traces with lengths len, at 15 places each -/
def fg_fl (T : Nat) (len ev : Nat → Nat) (a b : Nat) : Bool := fs_any (fun t => fs_any (fun i => decide (ev (15 * t + i) = a) && decide (ev (15 * t + i + 1) = b)) (len t - 1)) T
theorem fg_fl_iff {T : Nat} {len ev : Nat → Nat} {a b : Nat} : fg_fl T len ev a b = true ↔ ∃ t i, t < T ∧ i + 1 < len t ∧ ev (15 * t + i) = a ∧ ev (15 * t + i + 1) = b := by
  unfold fg_fl
  rw [fs_any_iff]
  constructor
  · intro ⟨t, ht, h⟩
    obtain ⟨i, hi, h2⟩ := fs_any_iff.mp h
    rw [Bool.and_eq_true, decide_eq_true_iff, decide_eq_true_iff] at h2
    exact ⟨t, i, ht, by omega, h2.1, h2.2⟩
  · intro ⟨t, i, ht, hi, h1, h2⟩
    exact ⟨t, ht, fs_any_iff.mpr ⟨i, by omega, by rw [decide_eq_true h1, decide_eq_true h2]; rfl⟩⟩
/-! what occurs, begins, ends in a log -/
theorem fb_or_bit (s e a : Nat) : (s ||| 2 ^ e).testBit a = (s.testBit a || decide (e = a)) := by rw [Nat.testBit_or, Nat.testBit_two_pow]
def fg_oc (T : Nat) (len ev : Nat → Nat) (a : Nat) : Bool := fs_any (fun t => fs_any (fun i => decide (ev (15 * t + i) = a)) (len t)) T
def fg_be (T : Nat) (len ev : Nat → Nat) (a : Nat) : Bool := fs_any (fun t => decide (0 < len t) && decide (ev (15 * t + 0) = a)) T
def fg_nd (T : Nat) (len ev : Nat → Nat) (a : Nat) : Bool := fs_any (fun t => decide (0 < len t) && decide (ev (15 * t + (len t - 1)) = a)) T
theorem fs_any_s (f : Nat → Bool) (n : Nat) : fs_any f (n + 1) = (fs_any f n || f n) := rfl
theorem fs_all_s (f : Nat → Bool) (n : Nat) : fs_all f (n + 1) = (fs_all f n && f n) := rfl
theorem fs_set_of {s : Nat} {f : Nat → Bool} (hs : s < 128) (h : ∀ a, s.testBit a = f a) : s = fs_set f 7 := by
  refine fb_ext hs (fs_set_lt _ (by decide)) (fun a ha => ?_)
  rw [fs_set_bit, decide_eq_true ha, Bool.true_and, h a]
theorem fg_be_s (t : Nat) (len ev : Nat → Nat) (a : Nat) : fg_be (t + 1) len ev a = (fg_be t len ev a || (decide (0 < len t) && decide (ev (15 * t + 0) = a))) := rfl
theorem fg_nd_s (t : Nat) (len ev : Nat → Nat) (a : Nat) : fg_nd (t + 1) len ev a = (fg_nd t len ev a || (decide (0 < len t) && decide (ev (15 * t + (len t - 1)) = a))) := rfl
theorem fg_oc_s (t : Nat) (len ev : Nat → Nat) (a : Nat) : fg_oc (t + 1) len ev a = (fg_oc t len ev a || fs_any (fun i => decide (ev (15 * t + i) = a)) (len t)) := rfl
end
section
/-! a net's places in the class's order: the source, the sink, the inner ones; O j takes from j, I j puts into j -/
theorem fn_lxor {a b : Nat} (ha : a < 2 ^ 64) (hb : b < 2 ^ 64) : lN a ^^^ lN b = lN (a ^^^ b) := by
  apply fn_linj
  rw [Int64.toBitVec_xor, fn_tb, fn_tb, fn_tb]
  apply BitVec.eq_of_toNat_eq
  rw [BitVec.toNat_xor, BitVec.toNat_ofNat, BitVec.toNat_ofNat, BitVec.toNat_ofNat, Nat.mod_eq_of_lt ha, Nat.mod_eq_of_lt hb, Nat.mod_eq_of_lt (Nat.xor_lt_two_pow ha hb)]
def fs_O (cnt : Nat) (outs : Nat → Nat) (fi j : Nat) : Nat := if j = 0 then fi else if j = 1 then 0 else if j < cnt + 2 then outs (j - 2) else 0
def fs_I (cnt : Nat) (ins : Nat → Nat) (la j : Nat) : Nat := if j = 0 then 0 else if j = 1 then la else if j < cnt + 2 then ins (j - 2) else 0
def fs_mem (lo fi la : Nat) (ins outs : Nat → Nat) : Nat → Nat
  | 0 => (lo ||| (0 ||| fi)) ||| (la ||| 0)
  | k + 1 => fs_mem lo fi la ins outs k ||| (ins k ||| outs k)
theorem fs_mem_lt {lo fi la : Nat} {ins outs : Nat → Nat} (h1 : lo < 128) (h2 : fi < 128) (h3 : la < 128) : ∀ {k : Nat}, (∀ j, j < k → ins j < 128 ∧ outs j < 128) → fs_mem lo fi la ins outs k < 128
  | 0, _ => fb_or_lt (fb_or_lt h1 (fb_or_lt (by decide) h2)) (fb_or_lt h3 (by decide))
  | k + 1, h => fb_or_lt (fs_mem_lt h1 h2 h3 (fun j hj => h j (by omega))) (fb_or_lt (h k (by omega)).1 (h k (by omega)).2)
theorem fs_O_s (outs : Nat → Nat) (fi : Nat) {k : Nat} (hk : k < 14) (a : Nat) : ∀ j, j < 16 → fs_tak (fs_O (k + 1) outs fi) a j = (fs_tak (fs_O k outs fi) a j || (decide (j = k + 2) && (outs k).testBit a)) := by
  intro j hj
  unfold fs_tak fs_O
  by_cases h0 : j = 0
  · subst h0
    rw [if_pos rfl, if_pos rfl, decide_eq_false (by omega), Bool.false_and, Bool.or_false]
  · by_cases h1 : j = 1
    · subst h1
      rw [if_neg (by omega), if_pos rfl, if_neg (by omega), if_pos rfl, decide_eq_false (by omega), Bool.false_and, Bool.or_false]
    · rw [if_neg h0, if_neg h1, if_neg h0, if_neg h1]
      by_cases h2 : j = k + 2
      · subst h2
        rw [if_pos (by omega), if_neg (by omega), decide_eq_true rfl, Bool.true_and, Nat.zero_testBit, Bool.false_or, show k + 2 - 2 = k by omega]
      · rw [decide_eq_false h2, Bool.false_and, Bool.or_false]
        by_cases h3 : j < k + 2
        · rw [if_pos (by omega), if_pos h3]
        · rw [if_neg (by omega), if_neg h3]
theorem fs_I_s (ins : Nat → Nat) (la : Nat) {k : Nat} (hk : k < 14) (a : Nat) : ∀ j, j < 16 → fs_tak (fs_I (k + 1) ins la) a j = (fs_tak (fs_I k ins la) a j || (decide (j = k + 2) && (ins k).testBit a)) := by
  intro j hj
  unfold fs_tak fs_I
  by_cases h0 : j = 0
  · subst h0
    rw [if_pos rfl, if_pos rfl, decide_eq_false (by omega), Bool.false_and, Bool.or_false]
  · by_cases h1 : j = 1
    · subst h1
      rw [if_neg (by omega), if_pos rfl, if_neg (by omega), if_pos rfl, decide_eq_false (by omega), Bool.false_and, Bool.or_false]
    · rw [if_neg h0, if_neg h1, if_neg h0, if_neg h1]
      by_cases h2 : j = k + 2
      · subst h2
        rw [if_pos (by omega), if_neg (by omega), decide_eq_true rfl, Bool.true_and, Nat.zero_testBit, Bool.false_or, show k + 2 - 2 = k by omega]
      · rw [decide_eq_false h2, Bool.false_and, Bool.or_false]
        by_cases h3 : j < k + 2
        · rw [if_pos (by omega), if_pos h3]
        · rw [if_neg (by omega), if_neg h3]
theorem fm_mk_congr {f g : Nat → Bool} (h : ∀ j, j < 16 → f j = g j) : fm_mk f = fm_mk g := fm_enc_congr (fun j hj => by rw [h j hj])
/-- a mark more where the bit says so -/
theorem fm_mk_if {f g : Nat → Bool} {k : Nat} {b : Bool} (hk : k < 16) (hg : ∀ j, j < 16 → g j = (f j || (decide (j = k) && b))) : (if b = true then fm_mk f ||| 2 ^ (4 * k) else fm_mk f) = fm_mk g := by
  cases b with
  | true =>
    rw [if_pos rfl]
    exact fm_mk_or hk (fun j hj => by rw [hg j hj, Bool.and_true])
  | false =>
    rw [if_neg (by decide)]
    exact fm_mk_congr (fun j hj => by rw [hg j hj, Bool.and_false, Bool.or_false])
theorem fs_tk0 (outs : Nat → Nat) (fi a : Nat) : (if fi.testBit a = true then 0 ||| 1 else 0) = fm_mk (fs_tak (fs_O 0 outs fi) a) := by
  have h := fm_mk_if (f := fun _ => false) (g := fs_tak (fs_O 0 outs fi) a) (k := 0) (b := fi.testBit a) (by decide) (fun j hj => by
    unfold fs_tak fs_O
    by_cases h0 : j = 0
    · subst h0; simp
    · by_cases h1 : j = 1
      · subst h1; simp
      · rw [if_neg h0, if_neg h1, if_neg (by omega), decide_eq_false h0]; simp)
  rw [fm_mk0 (f := fun _ => false) (fun _ _ => rfl)] at h
  exact h
theorem fs_pu0 (ins : Nat → Nat) (la a : Nat) : (if la.testBit a = true then 0 ||| 16 else 0) = fm_mk (fs_tak (fs_I 0 ins la) a) := by
  have h := fm_mk_if (f := fun _ => false) (g := fs_tak (fs_I 0 ins la) a) (k := 1) (b := la.testBit a) (by decide) (fun j hj => by
    unfold fs_tak fs_I
    by_cases h0 : j = 0
    · subst h0; simp
    · by_cases h1 : j = 1
      · subst h1; simp
      · rw [if_neg h0, if_neg h1, if_neg (by omega), decide_eq_false h1]; simp)
  rw [fm_mk0 (f := fun _ => false) (fun _ _ => rfl)] at h
  exact h
theorem fs_tks (outs : Nat → Nat) (fi a : Nat) {k : Nat} (hk : k < 14) : (if (outs k).testBit a = true then fm_mk (fs_tak (fs_O k outs fi) a) ||| 2 ^ (4 * (k + 2)) else fm_mk (fs_tak (fs_O k outs fi) a)) = fm_mk (fs_tak (fs_O (k + 1) outs fi) a) := fm_mk_if (by omega) (fs_O_s outs fi hk a)
theorem fs_pus (ins : Nat → Nat) (la a : Nat) {k : Nat} (hk : k < 14) : (if (ins k).testBit a = true then fm_mk (fs_tak (fs_I k ins la) a) ||| 2 ^ (4 * (k + 2)) else fm_mk (fs_tak (fs_I k ins la) a)) = fm_mk (fs_tak (fs_I (k + 1) ins la) a) := fm_mk_if (by omega) (fs_I_s ins la hk a)
theorem fs_can_en {O : Nat → Nat} {x a : Nat} : fm_mk (fs_tak O a) &&& (fm_held x ^^^ 18446744073709551615) = 0 ↔ fs_can O x a = true := (fm_en _ _).trans fs_can_iff.symm
theorem fm_held_lt (x : Nat) : fm_held x < 2 ^ 64 := Nat.lt_of_le_of_lt Nat.and_le_right (by decide)
theorem fm_div_lt {x k : Nat} (h : x < 2 ^ 64) : x / 2 ^ k < 2 ^ 64 := Nat.lt_of_le_of_lt (Nat.div_le_self _ _) h
theorem fm_pow_lt {k : Nat} (h : k < 64) : 2 ^ k < 2 ^ 64 := Nat.pow_lt_pow_right (show 1 < 2 by decide) h
theorem fm_or_lt {a b : Nat} (ha : a < 2 ^ 64) (hb : b < 2 ^ 64) : a ||| b < 2 ^ 64 := Nat.or_lt_two_pow ha hb
/-- how many bits a set has -/
def fs_bc : Nat → Nat → Nat
  | _, 0 => 0
  | s, n + 1 => fs_bc s n + (s.testBit n).toNat
theorem fs_two : ∀ s, s < 128 → (2 ≤ fs_bc s 7 ↔ ∃ a, a < 7 ∧ ∃ b, b < 7 ∧ a ≠ b ∧ s.testBit a = true ∧ s.testBit b = true) := by decide +kernel
/-! the bits counted as the library counts them -/
def fs_b1 (v : Nat) : Nat := v - (v / 2 ^ 1 &&& 1431655765)
def fs_b2 (u : Nat) : Nat := (u &&& 858993459) + (u / 2 ^ 2 &&& 858993459)
def fs_b3 (u : Nat) : Nat := (u + u / 2 ^ 4) &&& 252645135
def fs_b4 (u : Nat) : Nat := u + u / 2 ^ 8
def fs_b5 (u : Nat) : Nat := u + u / 2 ^ 16
theorem fs_bc_eq : ∀ v, v < 128 → fs_b5 (fs_b4 (fs_b3 (fs_b2 (fs_b1 v)))) &&& 63 = fs_bc v 7 := by decide +kernel
theorem fs_b_le : ∀ v, v < 128 → v / 2 ^ 1 &&& 1431655765 ≤ v ∧ fs_b1 v < 2 ^ 31 ∧ fs_b2 (fs_b1 v) < 2 ^ 31 ∧ fs_b3 (fs_b2 (fs_b1 v)) < 2 ^ 31 ∧ fs_b4 (fs_b3 (fs_b2 (fs_b1 v))) < 2 ^ 31 := by decide +kernel
theorem fs_bc_lt : ∀ v, v < 128 → fs_bc v 7 < 8 := by decide +kernel
theorem fk_ldcw {E : fk_E} {M : fk_M} {K : fk_K} {n : Nat × Nat} {w : va_W} {pc : Nat} {lv : List (Nat × Value)} {st : List Value} {i : Nat} {v : Int32} (d : decode M.1 pc = .ok (.ldc_w i, 3)) (hv : Cond.constant M.2.1 i v ∈ fk_G) (kk : fk_V E M K n w (pc + 3) lv (.int v :: st)) : fk_V E M K n w pc lv st := by
  obtain ⟨p, l, e, s, m, args, below, meth, c, Q, A⟩ := K
  intro F h1 h2 H locs ls hl hP hD hS
  exact lv_ldcw F.1 F.2.1 F.2.2.2.1 (F.2.2.2.2.1 _ hv) d (kk F h1 h2 H locs ls hl hP hD hS)
/-! shapes -/
def fs_sh (ins outs : Nat → Nat) (p q : Nat) : Bool := decide (outs p &&& ins q ≠ 0) && (decide (outs q &&& ins p ≠ 0) && decide (2 ≤ fs_bc ((outs p &&& ins q) ||| (outs q &&& ins p)) 7))
def fs_ch (cnt : Nat) (outs : Nat → Nat) (fi p : Nat) : Nat := if p = cnt then fi else outs p
def fs_shr (cnt : Nat) (outs : Nat → Nat) (fi p c : Nat) : Bool := fs_any (fun q => decide (q ≠ p) && decide (c &&& fs_ch cnt outs fi q ≠ 0)) (cnt + 1)
def fs_mix (cnt : Nat) (outs : Nat → Nat) (fi p : Nat) : Bool := decide (2 ≤ fs_bc (fs_ch cnt outs fi p) 7) && fs_shr cnt outs fi p (fs_ch cnt outs fi p)
theorem fs_lt_s {f : Nat → Bool} {k : Nat} (h : ∀ j, j < k → f j = false) (h1 : f k = false) : ∀ j, j < k + 1 → f j = false := fun j hj => by
  rcases Nat.lt_or_ge j k with q | q
  · exact h j q
  · rw [show j = k by omega]; exact h1
theorem fs_lt_t {f : Nat → Bool} {k : Nat} (h : ∀ j, j < k → f j = true) (h1 : f k = true) : ∀ j, j < k + 1 → f j = true := fun j hj => by
  rcases Nat.lt_or_ge j k with q | q
  · exact h j q
  · rw [show j = k by omega]; exact h1
theorem fs_lt_0 {f : Nat → Bool} {b : Bool} : ∀ j, j < 0 → f j = b := fun j hj => absurd hj (Nat.not_lt_zero j)
end
section
theorem d_F_isActivity_0 : decode prog_1_method_21_code 0 = .ok (.iload_n 0, 1) := by decide +kernel
theorem d_F_isActivity_1 : decode prog_1_method_21_code 1 = .ok (.ifCond .lt 13, 3) := by decide +kernel
theorem d_F_isActivity_4 : decode prog_1_method_21_code 4 = .ok (.iload_n 0, 1) := by decide +kernel
theorem d_F_isActivity_5 : decode prog_1_method_21_code 5 = .ok (.bipush 7, 2) := by decide +kernel
theorem d_F_isActivity_7 : decode prog_1_method_21_code 7 = .ok (.if_icmp .ge 7, 3) := by decide +kernel
theorem d_F_isActivity_10 : decode prog_1_method_21_code 10 = .ok (.iconst 1, 1) := by decide +kernel
theorem d_F_isActivity_11 : decode prog_1_method_21_code 11 = .ok (.goto 4, 3) := by decide +kernel
theorem d_F_isActivity_14 : decode prog_1_method_21_code 14 = .ok (.iconst 0, 1) := by decide +kernel
theorem d_F_isActivity_15 : decode prog_1_method_21_code 15 = .ok (.ireturn, 1) := by decide +kernel
set_option maxRecDepth 20000 in
set_option maxHeartbeats 4000000 in
theorem cF_isActivity (E : fk_E) (a : Nat) (ha : a < 2 ^ 31) : fk_C E fy_F_isActivity prog_1_method_21_code 1 (some .boolean) 0 0 0 [.int (nI a)] [] (S := Unit) (fun _ => some (.int (nI (Bool.toNat (decide (a < 7)))))) (fun _ => True) (fun _ => []) := by
  refine fk_enterZ (v := fun _ => decide (a < 7)) (by decide) (Nat.le_of_ble_eq_true rfl) (lv0 := [(0, .int (nI a))]) rfl ?_
  intro K hini hret
  refine fk_iload_n 0 d_F_isActivity_0 rfl ?_
  refine fk_if_lt (by omega) d_F_isActivity_1 rfl ?_
  refine fk_iload_n 0 d_F_isActivity_4 rfl ?_
  refine fk_bipush (v := nI 7) d_F_isActivity_5 (by decide +kernel) ?_
  refine fk_icmp_ge (a := a) (b := 7) (by omega) (by omega) d_F_isActivity_7 rfl (fun h7t => ?_) (fun h7f => ?_)
  · refine fk_iconst (v := nI 0) d_F_isActivity_14 (by decide +kernel) ?_
    refine fk_top (fn_rf (b := decide (a < 7)) (by first | assumption | (simp; omega) | simp_all | (simp_all; omega))) ?_
    exact hret (0, 0) _ 15 _ () d_F_isActivity_15 (trivial) (rfl)
  · refine fk_iconst (v := nI 1) d_F_isActivity_10 (by decide +kernel) ?_
    refine fk_goto d_F_isActivity_11 rfl ?_
    refine fk_top (fn_rt (b := decide (a < 7)) (by first | assumption | (simp; omega) | simp_all | (simp_all; omega))) ?_
    exact hret (0, 0) _ 15 _ () d_F_isActivity_15 (trivial) (rfl)
set_option maxRecDepth 20000 in
set_option maxHeartbeats 4000000 in
theorem cF_isActivityM (E : fk_E) (x : Int32) (hx : x < 0) : fk_C E fy_F_isActivity prog_1_method_21_code 1 (some .boolean) 0 0 0 [.int x] [] (S := Unit) (fun _ => some (.int (nI (Bool.toNat false)))) (fun _ => True) (fun _ => []) := by
  refine fk_enterZ (v := fun _ => false) (by decide) (Nat.le_of_ble_eq_true rfl) (lv0 := [(0, .int x)]) rfl ?_
  intro K hini hret
  refine fk_iload_n 0 d_F_isActivity_0 rfl ?_
  refine fk_if_ltR d_F_isActivity_1 rfl (fun h1t => ?_) (fun h1f => ?_)
  · refine fk_iconst (v := nI 0) d_F_isActivity_14 (by decide +kernel) ?_
    refine fk_top (fn_rf (b := false) (by first | assumption | (simp; omega) | simp_all | (simp_all; omega))) ?_
    exact hret (0, 0) _ 15 _ () d_F_isActivity_15 (trivial) (rfl)
  · exact absurd hx h1f
theorem d_F_isSet_0 : decode prog_1_method_22_code 0 = .ok (.iload_n 0, 1) := by decide +kernel
theorem d_F_isSet_1 : decode prog_1_method_22_code 1 = .ok (.ifCond .lt 14, 3) := by decide +kernel
theorem d_F_isSet_4 : decode prog_1_method_22_code 4 = .ok (.iload_n 0, 1) := by decide +kernel
theorem d_F_isSet_5 : decode prog_1_method_22_code 5 = .ok (.sipush 128, 3) := by decide +kernel
theorem d_F_isSet_8 : decode prog_1_method_22_code 8 = .ok (.if_icmp .ge 7, 3) := by decide +kernel
theorem d_F_isSet_11 : decode prog_1_method_22_code 11 = .ok (.iconst 1, 1) := by decide +kernel
theorem d_F_isSet_12 : decode prog_1_method_22_code 12 = .ok (.goto 4, 3) := by decide +kernel
theorem d_F_isSet_15 : decode prog_1_method_22_code 15 = .ok (.iconst 0, 1) := by decide +kernel
theorem d_F_isSet_16 : decode prog_1_method_22_code 16 = .ok (.ireturn, 1) := by decide +kernel
set_option maxRecDepth 20000 in
set_option maxHeartbeats 4000000 in
theorem cF_isSet (E : fk_E) (a : Nat) (ha : a < 2 ^ 31) : fk_C E fy_F_isSet prog_1_method_22_code 1 (some .boolean) 0 0 0 [.int (nI a)] [] (S := Unit) (fun _ => some (.int (nI (Bool.toNat (decide (a < 128)))))) (fun _ => True) (fun _ => []) := by
  refine fk_enterZ (v := fun _ => decide (a < 128)) (by decide) (Nat.le_of_ble_eq_true rfl) (lv0 := [(0, .int (nI a))]) rfl ?_
  intro K hini hret
  refine fk_iload_n 0 d_F_isSet_0 rfl ?_
  refine fk_if_lt (by omega) d_F_isSet_1 rfl ?_
  refine fk_iload_n 0 d_F_isSet_4 rfl ?_
  refine fk_sipush (v := nI 128) d_F_isSet_5 (by decide +kernel) ?_
  refine fk_icmp_ge (a := a) (b := 128) (by omega) (by omega) d_F_isSet_8 rfl (fun h8t => ?_) (fun h8f => ?_)
  · refine fk_iconst (v := nI 0) d_F_isSet_15 (by decide +kernel) ?_
    refine fk_top (fn_rf (b := decide (a < 128)) (by first | assumption | (simp; omega) | simp_all | (simp_all; omega))) ?_
    exact hret (0, 0) _ 16 _ () d_F_isSet_16 (trivial) (rfl)
  · refine fk_iconst (v := nI 1) d_F_isSet_11 (by decide +kernel) ?_
    refine fk_goto d_F_isSet_12 rfl ?_
    refine fk_top (fn_rt (b := decide (a < 128)) (by first | assumption | (simp; omega) | simp_all | (simp_all; omega))) ?_
    exact hret (0, 0) _ 16 _ () d_F_isSet_16 (trivial) (rfl)
set_option maxRecDepth 20000 in
set_option maxHeartbeats 4000000 in
theorem cF_isSetM (E : fk_E) (x : Int32) (hx : x < 0) : fk_C E fy_F_isSet prog_1_method_22_code 1 (some .boolean) 0 0 0 [.int x] [] (S := Unit) (fun _ => some (.int (nI (Bool.toNat false)))) (fun _ => True) (fun _ => []) := by
  refine fk_enterZ (v := fun _ => false) (by decide) (Nat.le_of_ble_eq_true rfl) (lv0 := [(0, .int x)]) rfl ?_
  intro K hini hret
  refine fk_iload_n 0 d_F_isSet_0 rfl ?_
  refine fk_if_ltR d_F_isSet_1 rfl (fun h1t => ?_) (fun h1f => ?_)
  · refine fk_iconst (v := nI 0) d_F_isSet_15 (by decide +kernel) ?_
    refine fk_top (fn_rf (b := false) (by first | assumption | (simp; omega) | simp_all | (simp_all; omega))) ?_
    exact hret (0, 0) _ 16 _ () d_F_isSet_16 (trivial) (rfl)
  · exact absurd hx h1f
theorem d_F_isIn_0 : decode prog_1_method_23_code 0 = .ok (.iload_n 1, 1) := by decide +kernel
theorem d_F_isIn_1 : decode prog_1_method_23_code 1 = .ok (.iconst 1, 1) := by decide +kernel
theorem d_F_isIn_2 : decode prog_1_method_23_code 2 = .ok (.iload_n 0, 1) := by decide +kernel
theorem d_F_isIn_3 : decode prog_1_method_23_code 3 = .ok (.ishl, 1) := by decide +kernel
theorem d_F_isIn_4 : decode prog_1_method_23_code 4 = .ok (.iand, 1) := by decide +kernel
theorem d_F_isIn_5 : decode prog_1_method_23_code 5 = .ok (.ifCond .eq 7, 3) := by decide +kernel
theorem d_F_isIn_8 : decode prog_1_method_23_code 8 = .ok (.iconst 1, 1) := by decide +kernel
theorem d_F_isIn_9 : decode prog_1_method_23_code 9 = .ok (.goto 4, 3) := by decide +kernel
theorem d_F_isIn_12 : decode prog_1_method_23_code 12 = .ok (.iconst 0, 1) := by decide +kernel
theorem d_F_isIn_13 : decode prog_1_method_23_code 13 = .ok (.ireturn, 1) := by decide +kernel
set_option maxRecDepth 20000 in
set_option maxHeartbeats 4000000 in
theorem cF_isIn (E : fk_E) (a : Nat) (s : Nat) (ha : a < 31) (hs : s < 2 ^ 31) : fk_C E fy_F_isIn prog_1_method_23_code 2 (some .boolean) 0 0 0 [.int (nI a), .int (nI s)] [] (S := Unit) (fun _ => some (.int (nI (Bool.toNat (Nat.testBit s a))))) (fun _ => True) (fun _ => []) := by
  refine fk_enterZ (v := fun _ => Nat.testBit s a) (by decide) (Nat.le_of_ble_eq_true rfl) (lv0 := [(0, .int (nI a)), (1, .int (nI s))]) rfl ?_
  intro K hini hret
  refine fk_iload_n 1 d_F_isIn_0 rfl ?_
  refine fk_iconst (v := nI 1) d_F_isIn_1 (by decide +kernel) ?_
  refine fk_iload_n 0 d_F_isIn_2 rfl ?_
  refine fk_ishl (a := 1) (b := a) d_F_isIn_3 (by omega) (by have := fb_pow31 ha; omega) ?_
  refine fk_top (show nI (1 * 2 ^ a) = nI (2 ^ a) by rw [Nat.one_mul]) ?_
  refine fk_iand (a := s) (b := (2 ^ a)) d_F_isIn_4 ?_
  refine fk_if_eq (a := (s &&& (2 ^ a))) (Nat.lt_of_le_of_lt Nat.and_le_left hs) d_F_isIn_5 rfl (fun h5t => ?_) (fun h5f => ?_)
  · have h9 := fb_and.mp h5t
    refine fk_iconst (v := nI 0) d_F_isIn_12 (by decide +kernel) ?_
    refine fk_top (fn_rf (b := Nat.testBit s a) (by first | assumption | (simp; omega) | simp_all | (simp_all; omega))) ?_
    exact hret (0, 0) _ 13 _ () d_F_isIn_13 (trivial) (rfl)
  · have h9 := fb_and_ne.mp h5f
    refine fk_iconst (v := nI 1) d_F_isIn_8 (by decide +kernel) ?_
    refine fk_goto d_F_isIn_9 rfl ?_
    refine fk_top (fn_rt (b := Nat.testBit s a) (by first | assumption | (simp; omega) | simp_all | (simp_all; omega))) ?_
    exact hret (0, 0) _ 13 _ () d_F_isIn_13 (trivial) (rfl)
theorem d_Lg_isFull_0 : decode prog_2_method_2_code 0 = .ok (.aload_n 0, 1) := by decide +kernel
theorem d_Lg_isFull_1 : decode prog_2_method_2_code 1 = .ok (.getfield 21, 3) := by decide +kernel
theorem d_Lg_isFull_4 : decode prog_2_method_2_code 4 = .ok (.bipush 20, 2) := by decide +kernel
theorem d_Lg_isFull_6 : decode prog_2_method_2_code 6 = .ok (.if_icmp .ne 7, 3) := by decide +kernel
theorem d_Lg_isFull_9 : decode prog_2_method_2_code 9 = .ok (.iconst 1, 1) := by decide +kernel
theorem d_Lg_isFull_10 : decode prog_2_method_2_code 10 = .ok (.goto 4, 3) := by decide +kernel
theorem d_Lg_isFull_13 : decode prog_2_method_2_code 13 = .ok (.iconst 0, 1) := by decide +kernel
theorem d_Lg_isFull_14 : decode prog_2_method_2_code 14 = .ok (.ireturn, 1) := by decide +kernel
set_option maxRecDepth 20000 in
set_option maxHeartbeats 4000000 in
theorem cL_isFull (E : fk_E) (a0 : Nat) (a1 : Nat) (a2 : Nat) (a3 : Nat) (tr : Nat) (ht : tr ≤ 20) : fk_C E fy_Lg_isFull prog_2_method_2_code 1 (some .boolean) 0 0 0 [.ref a0] [(a0, .inr (1, [.ref a1, .ref a2, .ref a3, .int (nI tr)]))] (S := Unit) (fun _ => some (.int (nI (Bool.toNat (decide (tr = 20)))))) (fun _ => True) (fun _ => [(a0, .inr (1, [.ref a1, .ref a2, .ref a3, .int (nI tr)]))]) := by
  refine fk_enterZ (v := fun _ => decide (tr = 20)) (by decide) (Nat.le_of_ble_eq_true rfl) (lv0 := [(0, .ref a0)]) rfl ?_
  intro K hini hret
  refine fk_aload_n 0 d_Lg_isFull_0 rfl ?_
  refine fk_get 0 3 rfl rfl fh_Lg (Nat.le_of_ble_eq_true rfl) fw_27 rfl d_Lg_isFull_1 ?_
  refine fk_bipush (v := nI 20) d_Lg_isFull_4 (by decide +kernel) ?_
  refine fk_icmp_ne (a := tr) (b := 20) (by omega) (by omega) d_Lg_isFull_6 rfl (fun h6t => ?_) (fun h6f => ?_)
  · refine fk_iconst (v := nI 0) d_Lg_isFull_13 (by decide +kernel) ?_
    refine fk_top (fn_rf (b := decide (tr = 20)) (by first | assumption | (simp; omega) | simp_all | (simp_all; omega))) ?_
    exact hret (0, 0) _ 14 _ () d_Lg_isFull_14 (trivial) (rfl)
  · refine fk_iconst (v := nI 1) d_Lg_isFull_9 (by decide +kernel) ?_
    refine fk_goto d_Lg_isFull_10 rfl ?_
    refine fk_top (fn_rt (b := decide (tr = 20)) (by first | assumption | (simp; omega) | simp_all | (simp_all; omega))) ?_
    exact hret (0, 0) _ 14 _ () d_Lg_isFull_14 (trivial) (rfl)
theorem d_Lg_hasTrace_0 : decode prog_2_method_3_code 0 = .ok (.iload_n 1, 1) := by decide +kernel
theorem d_Lg_hasTrace_1 : decode prog_2_method_3_code 1 = .ok (.ifCond .lt 15, 3) := by decide +kernel
theorem d_Lg_hasTrace_4 : decode prog_2_method_3_code 4 = .ok (.iload_n 1, 1) := by decide +kernel
theorem d_Lg_hasTrace_5 : decode prog_2_method_3_code 5 = .ok (.aload_n 0, 1) := by decide +kernel
theorem d_Lg_hasTrace_6 : decode prog_2_method_3_code 6 = .ok (.getfield 21, 3) := by decide +kernel
theorem d_Lg_hasTrace_9 : decode prog_2_method_3_code 9 = .ok (.if_icmp .ge 7, 3) := by decide +kernel
theorem d_Lg_hasTrace_12 : decode prog_2_method_3_code 12 = .ok (.iconst 1, 1) := by decide +kernel
theorem d_Lg_hasTrace_13 : decode prog_2_method_3_code 13 = .ok (.goto 4, 3) := by decide +kernel
theorem d_Lg_hasTrace_16 : decode prog_2_method_3_code 16 = .ok (.iconst 0, 1) := by decide +kernel
theorem d_Lg_hasTrace_17 : decode prog_2_method_3_code 17 = .ok (.ireturn, 1) := by decide +kernel
set_option maxRecDepth 20000 in
set_option maxHeartbeats 4000000 in
theorem cL_hasTrace (E : fk_E) (a0 : Nat) (a1 : Nat) (a2 : Nat) (a3 : Nat) (tr : Nat) (t : Nat) (ht : tr ≤ 20) (h1 : t < 2 ^ 31) : fk_C E fy_Lg_hasTrace prog_2_method_3_code 2 (some .boolean) 0 0 0 [.ref a0, .int (nI t)] [(a0, .inr (1, [.ref a1, .ref a2, .ref a3, .int (nI tr)]))] (S := Unit) (fun _ => some (.int (nI (Bool.toNat (decide (t < tr)))))) (fun _ => True) (fun _ => [(a0, .inr (1, [.ref a1, .ref a2, .ref a3, .int (nI tr)]))]) := by
  refine fk_enterZ (v := fun _ => decide (t < tr)) (by decide) (Nat.le_of_ble_eq_true rfl) (lv0 := [(0, .ref a0), (1, .int (nI t))]) rfl ?_
  intro K hini hret
  refine fk_iload_n 1 d_Lg_hasTrace_0 rfl ?_
  refine fk_if_lt (by omega) d_Lg_hasTrace_1 rfl ?_
  refine fk_iload_n 1 d_Lg_hasTrace_4 rfl ?_
  refine fk_aload_n 0 d_Lg_hasTrace_5 rfl ?_
  refine fk_get 0 3 rfl rfl fh_Lg (Nat.le_of_ble_eq_true rfl) fw_27 rfl d_Lg_hasTrace_6 ?_
  refine fk_icmp_ge (a := t) (b := tr) (by omega) (by omega) d_Lg_hasTrace_9 rfl (fun h9t => ?_) (fun h9f => ?_)
  · refine fk_iconst (v := nI 0) d_Lg_hasTrace_16 (by decide +kernel) ?_
    refine fk_top (fn_rf (b := decide (t < tr)) (by first | assumption | (simp; omega) | simp_all | (simp_all; omega))) ?_
    exact hret (0, 0) _ 17 _ () d_Lg_hasTrace_17 (trivial) (rfl)
  · refine fk_iconst (v := nI 1) d_Lg_hasTrace_12 (by decide +kernel) ?_
    refine fk_goto d_Lg_hasTrace_13 rfl ?_
    refine fk_top (fn_rt (b := decide (t < tr)) (by first | assumption | (simp; omega) | simp_all | (simp_all; omega))) ?_
    exact hret (0, 0) _ 17 _ () d_Lg_hasTrace_17 (trivial) (rfl)
set_option maxRecDepth 20000 in
set_option maxHeartbeats 4000000 in
theorem cL_hasTraceM (E : fk_E) (a0 : Nat) (a1 : Nat) (a2 : Nat) (a3 : Nat) (tr : Nat) (x : Int32) (hx : x < 0) : fk_C E fy_Lg_hasTrace prog_2_method_3_code 2 (some .boolean) 0 0 0 [.ref a0, .int x] [(a0, .inr (1, [.ref a1, .ref a2, .ref a3, .int (nI tr)]))] (S := Unit) (fun _ => some (.int (nI (Bool.toNat false)))) (fun _ => True) (fun _ => [(a0, .inr (1, [.ref a1, .ref a2, .ref a3, .int (nI tr)]))]) := by
  refine fk_enterZ (v := fun _ => false) (by decide) (Nat.le_of_ble_eq_true rfl) (lv0 := [(0, .ref a0), (1, .int x)]) rfl ?_
  intro K hini hret
  refine fk_iload_n 1 d_Lg_hasTrace_0 rfl ?_
  refine fk_if_ltR d_Lg_hasTrace_1 rfl (fun h1t => ?_) (fun h1f => ?_)
  · refine fk_iconst (v := nI 0) d_Lg_hasTrace_16 (by decide +kernel) ?_
    refine fk_top (fn_rf (b := false) (by first | assumption | (simp; omega) | simp_all | (simp_all; omega))) ?_
    exact hret (0, 0) _ 17 _ () d_Lg_hasTrace_17 (trivial) (rfl)
  · exact absurd hx h1f
theorem d_Lg_lengthOf_0 : decode prog_2_method_5_code 0 = .ok (.aload_n 0, 1) := by decide +kernel
theorem d_Lg_lengthOf_1 : decode prog_2_method_5_code 1 = .ok (.getfield 9, 3) := by decide +kernel
theorem d_Lg_lengthOf_4 : decode prog_2_method_5_code 4 = .ok (.iload_n 1, 1) := by decide +kernel
theorem d_Lg_lengthOf_5 : decode prog_2_method_5_code 5 = .ok (.iaload, 1) := by decide +kernel
theorem d_Lg_lengthOf_6 : decode prog_2_method_5_code 6 = .ok (.ireturn, 1) := by decide +kernel
set_option maxRecDepth 20000 in
set_option maxHeartbeats 4000000 in
theorem cL_lengthOf (E : fk_E) (a0 : Nat) (a1 : Nat) (a2 : Nat) (a3 : Nat) (tr : Nat) (len : Nat → Nat) (t : Nat) (h1 : t < 20) : fk_C E fy_Lg_lengthOf prog_2_method_5_code 2 (some .int) 0 0 0 [.ref a0, .int (nI t)] [(a0, .inr (1, [.ref a1, .ref a2, .ref a3, .int (nI tr)])), fk_ai E a1 20 len] (S := Unit) (fun _ => some (.int (nI (len t)))) (fun _ => True) (fun _ => [(a0, .inr (1, [.ref a1, .ref a2, .ref a3, .int (nI tr)])), fk_ai E a1 20 len]) := by
  refine fk_enterI (v := fun _ => (nI (len t))) (by decide) (Nat.le_of_ble_eq_true rfl) (lv0 := [(0, .ref a0), (1, .int (nI t))]) rfl ?_
  intro K hini hret
  refine fk_aload_n 0 d_Lg_lengthOf_0 rfl ?_
  refine fk_get 0 0 rfl rfl fh_Lg (Nat.le_of_ble_eq_true rfl) fw_24 rfl d_Lg_lengthOf_1 ?_
  refine fk_iload_n 1 d_Lg_lengthOf_4 rfl ?_
  refine fk_ld_ai (i := t) 1 rfl (by omega) (by decide) d_Lg_lengthOf_5 ?_
  exact hret (0, 0) _ 6 _ () d_Lg_lengthOf_6 (trivial) (rfl)
theorem d_Lg_activityAt_0 : decode prog_2_method_6_code 0 = .ok (.aload_n 0, 1) := by decide +kernel
theorem d_Lg_activityAt_1 : decode prog_2_method_6_code 1 = .ok (.getfield 15, 3) := by decide +kernel
theorem d_Lg_activityAt_4 : decode prog_2_method_6_code 4 = .ok (.iload_n 1, 1) := by decide +kernel
theorem d_Lg_activityAt_5 : decode prog_2_method_6_code 5 = .ok (.bipush 15, 2) := by decide +kernel
theorem d_Lg_activityAt_7 : decode prog_2_method_6_code 7 = .ok (.imul, 1) := by decide +kernel
theorem d_Lg_activityAt_8 : decode prog_2_method_6_code 8 = .ok (.iload_n 2, 1) := by decide +kernel
theorem d_Lg_activityAt_9 : decode prog_2_method_6_code 9 = .ok (.iadd, 1) := by decide +kernel
theorem d_Lg_activityAt_10 : decode prog_2_method_6_code 10 = .ok (.iaload, 1) := by decide +kernel
theorem d_Lg_activityAt_11 : decode prog_2_method_6_code 11 = .ok (.ireturn, 1) := by decide +kernel
set_option maxRecDepth 20000 in
set_option maxHeartbeats 4000000 in
theorem cL_activityAt (E : fk_E) (a0 : Nat) (a1 : Nat) (a2 : Nat) (a3 : Nat) (tr : Nat) (ev : Nat → Nat) (t : Nat) (i : Nat) (h1 : 15 * t + i < 300) : fk_C E fy_Lg_activityAt prog_2_method_6_code 3 (some .int) 0 0 0 [.ref a0, .int (nI t), .int (nI i)] [(a0, .inr (1, [.ref a1, .ref a2, .ref a3, .int (nI tr)])), fk_ai E a2 300 ev] (S := Unit) (fun _ => some (.int (nI (ev (15 * t + i))))) (fun _ => True) (fun _ => [(a0, .inr (1, [.ref a1, .ref a2, .ref a3, .int (nI tr)])), fk_ai E a2 300 ev]) := by
  refine fk_enterI (v := fun _ => (nI (ev (15 * t + i)))) (by decide) (Nat.le_of_ble_eq_true rfl) (lv0 := [(0, .ref a0), (1, .int (nI t)), (2, .int (nI i))]) rfl ?_
  intro K hini hret
  refine fk_aload_n 0 d_Lg_activityAt_0 rfl ?_
  refine fk_get 0 1 rfl rfl fh_Lg (Nat.le_of_ble_eq_true rfl) fw_25 rfl d_Lg_activityAt_1 ?_
  refine fk_iload_n 1 d_Lg_activityAt_4 rfl ?_
  refine fk_bipush (v := nI 15) d_Lg_activityAt_5 (by decide +kernel) ?_
  refine fk_imul (a := t) (b := 15) d_Lg_activityAt_7 ?_
  refine fk_iload_n 2 d_Lg_activityAt_8 rfl ?_
  refine fk_iadd (a := (t * 15)) (b := i) d_Lg_activityAt_9 ?_
  refine fk_top (show (nI ((t * 15) + i)) = (nI (15 * t + i)) from congrArg nI (by omega)) ?_
  refine fk_ld_ai (i := (15 * t + i)) 1 rfl (by omega) (by decide) d_Lg_activityAt_10 ?_
  exact hret (0, 0) _ 11 _ () d_Lg_activityAt_11 (trivial) (rfl)
theorem d_Lg_hasEvent_0 : decode prog_2_method_4_code 0 = .ok (.aload_n 0, 1) := by decide +kernel
theorem d_Lg_hasEvent_1 : decode prog_2_method_4_code 1 = .ok (.iload_n 1, 1) := by decide +kernel
theorem d_Lg_hasEvent_2 : decode prog_2_method_4_code 2 = .ok (.invokevirtual 25, 3) := by decide +kernel
theorem d_Lg_hasEvent_5 : decode prog_2_method_4_code 5 = .ok (.ifCond .eq 21, 3) := by decide +kernel
theorem d_Lg_hasEvent_8 : decode prog_2_method_4_code 8 = .ok (.iload_n 2, 1) := by decide +kernel
theorem d_Lg_hasEvent_9 : decode prog_2_method_4_code 9 = .ok (.ifCond .lt 17, 3) := by decide +kernel
theorem d_Lg_hasEvent_12 : decode prog_2_method_4_code 12 = .ok (.iload_n 2, 1) := by decide +kernel
theorem d_Lg_hasEvent_13 : decode prog_2_method_4_code 13 = .ok (.aload_n 0, 1) := by decide +kernel
theorem d_Lg_hasEvent_14 : decode prog_2_method_4_code 14 = .ok (.getfield 9, 3) := by decide +kernel
theorem d_Lg_hasEvent_17 : decode prog_2_method_4_code 17 = .ok (.iload_n 1, 1) := by decide +kernel
theorem d_Lg_hasEvent_18 : decode prog_2_method_4_code 18 = .ok (.iaload, 1) := by decide +kernel
theorem d_Lg_hasEvent_19 : decode prog_2_method_4_code 19 = .ok (.if_icmp .ge 7, 3) := by decide +kernel
theorem d_Lg_hasEvent_22 : decode prog_2_method_4_code 22 = .ok (.iconst 1, 1) := by decide +kernel
theorem d_Lg_hasEvent_23 : decode prog_2_method_4_code 23 = .ok (.goto 4, 3) := by decide +kernel
theorem d_Lg_hasEvent_26 : decode prog_2_method_4_code 26 = .ok (.iconst 0, 1) := by decide +kernel
theorem d_Lg_hasEvent_27 : decode prog_2_method_4_code 27 = .ok (.ireturn, 1) := by decide +kernel
set_option maxRecDepth 20000 in
set_option maxHeartbeats 4000000 in
theorem cL_hasEvent (E : fk_E) (a0 : Nat) (a1 : Nat) (a2 : Nat) (a3 : Nat) (tr : Nat) (len : Nat → Nat) (t : Nat) (i : Nat) (ht : tr ≤ 20) (h1 : t < 2 ^ 31) (h2 : i < 2 ^ 31) (h3 : ∀ k, k < 20 → len k ≤ 15) : fk_C E fy_Lg_hasEvent prog_2_method_4_code 3 (some .boolean) 1 0 0 [.ref a0, .int (nI t), .int (nI i)] [(a0, .inr (1, [.ref a1, .ref a2, .ref a3, .int (nI tr)])), fk_ai E a1 20 len] (S := Unit) (fun _ => some (.int (nI (Bool.toNat (decide (t < tr ∧ i < len t)))))) (fun _ => True) (fun _ => [(a0, .inr (1, [.ref a1, .ref a2, .ref a3, .int (nI tr)])), fk_ai E a1 20 len]) := by
  refine fk_enterZ (v := fun _ => decide (t < tr ∧ i < len t)) (by decide) (Nat.le_of_ble_eq_true rfl) (lv0 := [(0, .ref a0), (1, .int (nI t)), (2, .int (nI i))]) rfl ?_
  intro K hini hret
  refine fk_aload_n 0 d_Lg_hasEvent_0 rfl ?_
  refine fk_iload_n 1 d_Lg_hasEvent_1 rfl ?_
  refine fk_callV (q0 := 0) (As := [.int (nI t)]) (rest := []) (is := [0]) (ir := [1]) (ip := [1, 0]) (wc := [(a0, .inr (1, [.ref a1, .ref a2, .ref a3, .int (nI tr)]))]) (wr := [fk_ai E a1 20 len]) (w2 := fun _ => [(a0, .inr (1, [.ref a1, .ref a2, .ref a3, .int (nI tr)])), fk_ai E a1 20 len]) (cL_hasTrace E a0 a1 a2 a3 tr t (by first | omega | assumption) (by first | omega | assumption)) d_Lg_hasEvent_2 fz_Lg_hasTrace fw_211 rfl rfl fw_196 fw_197 ⟨Nat.le_of_ble_eq_true rfl, Nat.le_of_ble_eq_true rfl⟩ rfl (Nat.le_of_ble_eq_true rfl) ⟨Nat.zero_le _, Nat.zero_le _⟩ ⟨rfl, rfl, rfl, rfl, by decide, fun _ => rfl, rfl⟩ (fun u hu2 => ?_)
  show fk_V E _ K (0, 0) [(a0, .inr (1, [.ref a1, .ref a2, .ref a3, .int (nI tr)])), fk_ai E a1 20 len] 5 [(0, .ref a0), (1, .int (nI t)), (2, .int (nI i))] [.int (nI (Bool.toNat (decide (t < tr))))]
  refine fk_if_eqB (b := (decide (t < tr))) d_Lg_hasEvent_5 rfl (fun h5t => ?_) (fun h5f => ?_)
  · have h9 : ¬ t < tr := of_decide_eq_false h5t
    refine fk_iconst (v := nI 0) d_Lg_hasEvent_26 (by decide +kernel) ?_
    refine fk_top (fn_rf (b := decide (t < tr ∧ i < len t)) (by first | assumption | (simp; omega) | simp_all | (simp_all; omega))) ?_
    exact hret (0, 0) _ 27 _ () d_Lg_hasEvent_27 (trivial) (rfl)
  · have h9 : t < tr := of_decide_eq_true h5f
    have h8 := h3 t (by omega)
    refine fk_iload_n 2 d_Lg_hasEvent_8 rfl ?_
    refine fk_if_lt (by omega) d_Lg_hasEvent_9 rfl ?_
    refine fk_iload_n 2 d_Lg_hasEvent_12 rfl ?_
    refine fk_aload_n 0 d_Lg_hasEvent_13 rfl ?_
    refine fk_get 0 0 rfl rfl fh_Lg (Nat.le_of_ble_eq_true rfl) fw_24 rfl d_Lg_hasEvent_14 ?_
    refine fk_iload_n 1 d_Lg_hasEvent_17 rfl ?_
    refine fk_ld_ai (i := t) 1 rfl (by omega) (by decide) d_Lg_hasEvent_18 ?_
    refine fk_icmp_ge (a := i) (b := (len t)) (by omega) (by omega) d_Lg_hasEvent_19 rfl (fun h19t => ?_) (fun h19f => ?_)
    · refine fk_iconst (v := nI 0) d_Lg_hasEvent_26 (by decide +kernel) ?_
      refine fk_top (fn_rf (b := decide (t < tr ∧ i < len t)) (by first | assumption | (simp; omega) | simp_all | (simp_all; omega))) ?_
      exact hret (0, 0) _ 27 _ () d_Lg_hasEvent_27 (trivial) (rfl)
    · refine fk_iconst (v := nI 1) d_Lg_hasEvent_22 (by decide +kernel) ?_
      refine fk_goto d_Lg_hasEvent_23 rfl ?_
      refine fk_top (fn_rt (b := decide (t < tr ∧ i < len t)) (by first | assumption | (simp; omega) | simp_all | (simp_all; omega))) ?_
      exact hret (0, 0) _ 27 _ () d_Lg_hasEvent_27 (trivial) (rfl)
set_option maxRecDepth 20000 in
set_option maxHeartbeats 4000000 in
theorem cL_hasEventM (E : fk_E) (a0 : Nat) (a1 : Nat) (a2 : Nat) (a3 : Nat) (tr : Nat) (len : Nat → Nat) (t : Nat) (x : Int32) (ht : tr ≤ 20) (h1 : t < 2 ^ 31) (hx : x < 0) : fk_C E fy_Lg_hasEvent prog_2_method_4_code 3 (some .boolean) 1 0 0 [.ref a0, .int (nI t), .int x] [(a0, .inr (1, [.ref a1, .ref a2, .ref a3, .int (nI tr)])), fk_ai E a1 20 len] (S := Unit) (fun _ => some (.int (nI (Bool.toNat false)))) (fun _ => True) (fun _ => [(a0, .inr (1, [.ref a1, .ref a2, .ref a3, .int (nI tr)])), fk_ai E a1 20 len]) := by
  refine fk_enterZ (v := fun _ => false) (by decide) (Nat.le_of_ble_eq_true rfl) (lv0 := [(0, .ref a0), (1, .int (nI t)), (2, .int x)]) rfl ?_
  intro K hini hret
  refine fk_aload_n 0 d_Lg_hasEvent_0 rfl ?_
  refine fk_iload_n 1 d_Lg_hasEvent_1 rfl ?_
  refine fk_callV (q0 := 0) (As := [.int (nI t)]) (rest := []) (is := [0]) (ir := [1]) (ip := [1, 0]) (wc := [(a0, .inr (1, [.ref a1, .ref a2, .ref a3, .int (nI tr)]))]) (wr := [fk_ai E a1 20 len]) (w2 := fun _ => [(a0, .inr (1, [.ref a1, .ref a2, .ref a3, .int (nI tr)])), fk_ai E a1 20 len]) (cL_hasTrace E a0 a1 a2 a3 tr t (by first | omega | assumption) (by first | omega | assumption)) d_Lg_hasEvent_2 fz_Lg_hasTrace fw_211 rfl rfl fw_196 fw_197 ⟨Nat.le_of_ble_eq_true rfl, Nat.le_of_ble_eq_true rfl⟩ rfl (Nat.le_of_ble_eq_true rfl) ⟨Nat.zero_le _, Nat.zero_le _⟩ ⟨rfl, rfl, rfl, rfl, by decide, fun _ => rfl, rfl⟩ (fun u hu2 => ?_)
  show fk_V E _ K (0, 0) [(a0, .inr (1, [.ref a1, .ref a2, .ref a3, .int (nI tr)])), fk_ai E a1 20 len] 5 [(0, .ref a0), (1, .int (nI t)), (2, .int x)] [.int (nI (Bool.toNat (decide (t < tr))))]
  refine fk_if_eqB (b := (decide (t < tr))) d_Lg_hasEvent_5 rfl (fun h5t => ?_) (fun h5f => ?_)
  · refine fk_iconst (v := nI 0) d_Lg_hasEvent_26 (by decide +kernel) ?_
    refine fk_top (fn_rf (b := false) (by first | assumption | (simp; omega) | simp_all | (simp_all; omega))) ?_
    exact hret (0, 0) _ 27 _ () d_Lg_hasEvent_27 (trivial) (rfl)
  · refine fk_iload_n 2 d_Lg_hasEvent_8 rfl ?_
    refine fk_if_ltR d_Lg_hasEvent_9 rfl (fun h9t => ?_) (fun h9f => ?_)
    · refine fk_iconst (v := nI 0) d_Lg_hasEvent_26 (by decide +kernel) ?_
      refine fk_top (fn_rf (b := false) (by first | assumption | (simp; omega) | simp_all | (simp_all; omega))) ?_
      exact hret (0, 0) _ 27 _ () d_Lg_hasEvent_27 (trivial) (rfl)
    · exact absurd hx h9f
set_option maxRecDepth 20000 in
set_option maxHeartbeats 4000000 in
theorem cL_hasEventN (E : fk_E) (a0 : Nat) (a1 : Nat) (a2 : Nat) (a3 : Nat) (tr : Nat) (len : Nat → Nat) (x : Int32) (y : Int32) (hx : x < 0) : fk_C E fy_Lg_hasEvent prog_2_method_4_code 3 (some .boolean) 1 0 0 [.ref a0, .int x, .int y] [(a0, .inr (1, [.ref a1, .ref a2, .ref a3, .int (nI tr)])), fk_ai E a1 20 len] (S := Unit) (fun _ => some (.int (nI (Bool.toNat false)))) (fun _ => True) (fun _ => [(a0, .inr (1, [.ref a1, .ref a2, .ref a3, .int (nI tr)])), fk_ai E a1 20 len]) := by
  refine fk_enterZ (v := fun _ => false) (by decide) (Nat.le_of_ble_eq_true rfl) (lv0 := [(0, .ref a0), (1, .int x), (2, .int y)]) rfl ?_
  intro K hini hret
  refine fk_aload_n 0 d_Lg_hasEvent_0 rfl ?_
  refine fk_iload_n 1 d_Lg_hasEvent_1 rfl ?_
  refine fk_callV (q0 := 0) (As := [.int x]) (rest := []) (is := [0]) (ir := [1]) (ip := [1, 0]) (wc := [(a0, .inr (1, [.ref a1, .ref a2, .ref a3, .int (nI tr)]))]) (wr := [fk_ai E a1 20 len]) (w2 := fun _ => [(a0, .inr (1, [.ref a1, .ref a2, .ref a3, .int (nI tr)])), fk_ai E a1 20 len]) (cL_hasTraceM E a0 a1 a2 a3 tr x (by first | omega | assumption)) d_Lg_hasEvent_2 fz_Lg_hasTrace fw_211 rfl rfl fw_196 fw_197 ⟨Nat.le_of_ble_eq_true rfl, Nat.le_of_ble_eq_true rfl⟩ rfl (Nat.le_of_ble_eq_true rfl) ⟨Nat.zero_le _, Nat.zero_le _⟩ ⟨rfl, rfl, rfl, rfl, by decide, fun _ => rfl, rfl⟩ (fun u hu2 => ?_)
  show fk_V E _ K (0, 0) [(a0, .inr (1, [.ref a1, .ref a2, .ref a3, .int (nI tr)])), fk_ai E a1 20 len] 5 [(0, .ref a0), (1, .int x), (2, .int y)] [.int (nI (Bool.toNat false))]
  refine fk_if_eqB (b := false) d_Lg_hasEvent_5 rfl (fun h5t => ?_) (fun h5f => ?_)
  · refine fk_iconst (v := nI 0) d_Lg_hasEvent_26 (by decide +kernel) ?_
    refine fk_top (fn_rf (b := false) (by first | assumption | (simp; omega) | simp_all | (simp_all; omega))) ?_
    exact hret (0, 0) _ 27 _ () d_Lg_hasEvent_27 (trivial) (rfl)
  · exact absurd h5f (by decide)
theorem d_Lg_addTrace_0 : decode prog_2_method_7_code 0 = .ok (.aload_n 0, 1) := by decide +kernel
theorem d_Lg_addTrace_1 : decode prog_2_method_7_code 1 = .ok (.invokevirtual 29, 3) := by decide +kernel
theorem d_Lg_addTrace_4 : decode prog_2_method_7_code 4 = .ok (.ifCond .eq 6, 3) := by decide +kernel
theorem d_Lg_addTrace_7 : decode prog_2_method_7_code 7 = .ok (.bipush (-2), 2) := by decide +kernel
theorem d_Lg_addTrace_9 : decode prog_2_method_7_code 9 = .ok (.ireturn, 1) := by decide +kernel
theorem d_Lg_addTrace_10 : decode prog_2_method_7_code 10 = .ok (.aload_n 0, 1) := by decide +kernel
theorem d_Lg_addTrace_11 : decode prog_2_method_7_code 11 = .ok (.getfield 9, 3) := by decide +kernel
theorem d_Lg_addTrace_14 : decode prog_2_method_7_code 14 = .ok (.aload_n 0, 1) := by decide +kernel
theorem d_Lg_addTrace_15 : decode prog_2_method_7_code 15 = .ok (.getfield 21, 3) := by decide +kernel
theorem d_Lg_addTrace_18 : decode prog_2_method_7_code 18 = .ok (.iconst 0, 1) := by decide +kernel
theorem d_Lg_addTrace_19 : decode prog_2_method_7_code 19 = .ok (.iastore, 1) := by decide +kernel
theorem d_Lg_addTrace_20 : decode prog_2_method_7_code 20 = .ok (.aload_n 0, 1) := by decide +kernel
theorem d_Lg_addTrace_21 : decode prog_2_method_7_code 21 = .ok (.dup, 1) := by decide +kernel
theorem d_Lg_addTrace_22 : decode prog_2_method_7_code 22 = .ok (.getfield 21, 3) := by decide +kernel
theorem d_Lg_addTrace_25 : decode prog_2_method_7_code 25 = .ok (.iconst 1, 1) := by decide +kernel
theorem d_Lg_addTrace_26 : decode prog_2_method_7_code 26 = .ok (.iadd, 1) := by decide +kernel
theorem d_Lg_addTrace_27 : decode prog_2_method_7_code 27 = .ok (.putfield 21, 3) := by decide +kernel
theorem d_Lg_addTrace_30 : decode prog_2_method_7_code 30 = .ok (.aload_n 0, 1) := by decide +kernel
theorem d_Lg_addTrace_31 : decode prog_2_method_7_code 31 = .ok (.getfield 21, 3) := by decide +kernel
theorem d_Lg_addTrace_34 : decode prog_2_method_7_code 34 = .ok (.iconst 1, 1) := by decide +kernel
theorem d_Lg_addTrace_35 : decode prog_2_method_7_code 35 = .ok (.isub, 1) := by decide +kernel
theorem d_Lg_addTrace_36 : decode prog_2_method_7_code 36 = .ok (.ireturn, 1) := by decide +kernel
set_option maxRecDepth 20000 in
set_option maxHeartbeats 4000000 in
theorem cL_addTraceF (E : fk_E) (a0 : Nat) (a1 : Nat) (a2 : Nat) (a3 : Nat) (tr : Nat) (len : Nat → Nat) (ht : tr = 20) : fk_C E fy_Lg_addTrace prog_2_method_7_code 1 (some .int) 1 0 0 [.ref a0] [(a0, .inr (1, [.ref a1, .ref a2, .ref a3, .int (nI tr)])), fk_ai E a1 20 len] (S := Unit) (fun _ => some (.int (-2))) (fun _ => True) (fun _ => [(a0, .inr (1, [.ref a1, .ref a2, .ref a3, .int (nI tr)])), fk_ai E a1 20 len]) := by
  refine fk_enterI (v := fun _ => (-2)) (by decide) (Nat.le_of_ble_eq_true rfl) (lv0 := [(0, .ref a0)]) rfl ?_
  intro K hini hret
  refine fk_aload_n 0 d_Lg_addTrace_0 rfl ?_
  refine fk_callV (q0 := 0) (As := []) (rest := []) (is := [0]) (ir := [1]) (ip := [1, 0]) (wc := [(a0, .inr (1, [.ref a1, .ref a2, .ref a3, .int (nI tr)]))]) (wr := [fk_ai E a1 20 len]) (w2 := fun _ => [(a0, .inr (1, [.ref a1, .ref a2, .ref a3, .int (nI tr)])), fk_ai E a1 20 len]) (cL_isFull E a0 a1 a2 a3 tr (by first | omega | assumption)) d_Lg_addTrace_1 fz_Lg_isFull fw_161 rfl rfl fw_162 fw_163 ⟨Nat.le_of_ble_eq_true rfl, Nat.le_of_ble_eq_true rfl⟩ rfl (Nat.le_of_ble_eq_true rfl) ⟨Nat.zero_le _, Nat.zero_le _⟩ ⟨rfl, rfl, rfl, rfl, by decide, fun _ => rfl, rfl⟩ (fun u hu1 => ?_)
  show fk_V E _ K (0, 0) [(a0, .inr (1, [.ref a1, .ref a2, .ref a3, .int (nI tr)])), fk_ai E a1 20 len] 4 [(0, .ref a0)] [.int (nI (Bool.toNat (decide (tr = 20))))]
  refine fk_if_eqB (b := (decide (tr = 20))) d_Lg_addTrace_4 rfl (fun h4t => ?_) (fun h4f => ?_)
  · simp_all
  · refine fk_bipush (v := -2) d_Lg_addTrace_7 (by decide +kernel) ?_
    exact hret (0, 0) _ 9 _ () d_Lg_addTrace_9 (trivial) (rfl)
set_option maxRecDepth 20000 in
set_option maxHeartbeats 4000000 in
theorem cL_addTrace (E : fk_E) (a0 : Nat) (a1 : Nat) (a2 : Nat) (a3 : Nat) (tr : Nat) (len : Nat → Nat) (ht : tr < 20) : fk_C E fy_Lg_addTrace prog_2_method_7_code 1 (some .int) 1 0 0 [.ref a0] [(a0, .inr (1, [.ref a1, .ref a2, .ref a3, .int (nI tr)])), fk_ai E a1 20 len] (S := Unit) (fun _ => some (.int (nI tr))) (fun _ => True) (fun _ => [(a0, .inr (1, [.ref a1, .ref a2, .ref a3, .int (nI (tr + 1))])), fk_ai E a1 20 (va_up len tr 0)]) := by
  refine fk_enterI (v := fun _ => (nI tr)) (by decide) (Nat.le_of_ble_eq_true rfl) (lv0 := [(0, .ref a0)]) rfl ?_
  intro K hini hret
  refine fk_aload_n 0 d_Lg_addTrace_0 rfl ?_
  refine fk_callV (q0 := 0) (As := []) (rest := []) (is := [0]) (ir := [1]) (ip := [1, 0]) (wc := [(a0, .inr (1, [.ref a1, .ref a2, .ref a3, .int (nI tr)]))]) (wr := [fk_ai E a1 20 len]) (w2 := fun _ => [(a0, .inr (1, [.ref a1, .ref a2, .ref a3, .int (nI tr)])), fk_ai E a1 20 len]) (cL_isFull E a0 a1 a2 a3 tr (by first | omega | assumption)) d_Lg_addTrace_1 fz_Lg_isFull fw_161 rfl rfl fw_162 fw_163 ⟨Nat.le_of_ble_eq_true rfl, Nat.le_of_ble_eq_true rfl⟩ rfl (Nat.le_of_ble_eq_true rfl) ⟨Nat.zero_le _, Nat.zero_le _⟩ ⟨rfl, rfl, rfl, rfl, by decide, fun _ => rfl, rfl⟩ (fun u hu1 => ?_)
  show fk_V E _ K (0, 0) [(a0, .inr (1, [.ref a1, .ref a2, .ref a3, .int (nI tr)])), fk_ai E a1 20 len] 4 [(0, .ref a0)] [.int (nI (Bool.toNat (decide (tr = 20))))]
  refine fk_if_eqB (b := (decide (tr = 20))) d_Lg_addTrace_4 rfl (fun h4t => ?_) (fun h4f => ?_)
  · refine fk_aload_n 0 d_Lg_addTrace_10 rfl ?_
    refine fk_get 0 0 rfl rfl fh_Lg (Nat.le_of_ble_eq_true rfl) fw_24 rfl d_Lg_addTrace_11 ?_
    refine fk_aload_n 0 d_Lg_addTrace_14 rfl ?_
    refine fk_get 0 3 rfl rfl fh_Lg (Nat.le_of_ble_eq_true rfl) fw_27 rfl d_Lg_addTrace_15 ?_
    refine fk_iconst (v := nI 0) d_Lg_addTrace_18 (by decide +kernel) ?_
    refine fk_st_ai (i := tr) (x := 0) (w' := [(a0, .inr (1, [.ref a1, .ref a2, .ref a3, .int (nI tr)])), fk_ai E a1 20 (va_up len tr 0)]) 1 rfl (by omega) (by decide) d_Lg_addTrace_19 rfl ?_
    refine fk_aload_n 0 d_Lg_addTrace_20 rfl ?_
    refine fk_dup d_Lg_addTrace_21 rfl ?_
    refine fk_get 0 3 rfl rfl fh_Lg (Nat.le_of_ble_eq_true rfl) fw_27 rfl d_Lg_addTrace_22 ?_
    refine fk_iconst (v := nI 1) d_Lg_addTrace_25 (by decide +kernel) ?_
    refine fk_iadd (a := tr) (b := 1) d_Lg_addTrace_26 ?_
    refine fk_put (w' := [(a0, .inr (1, [.ref a1, .ref a2, .ref a3, .int (nI (tr + 1))])), fk_ai E a1 20 (va_up len tr 0)]) 0 3 fT_Lg fT_Lg_ok fT_Lg_nm rfl rfl fh_Lg (Nat.le_of_ble_eq_true rfl) fw_27 rfl (fT_Lg_ok 3 (Nat.le_of_ble_eq_true rfl)) rfl rfl (Nat.le_of_ble_eq_true rfl) d_Lg_addTrace_27 rfl ?_
    refine fk_aload_n 0 d_Lg_addTrace_30 rfl ?_
    refine fk_get 0 3 rfl rfl fh_Lg (Nat.le_of_ble_eq_true rfl) fw_27 rfl d_Lg_addTrace_31 ?_
    refine fk_iconst (v := nI 1) d_Lg_addTrace_34 (by decide +kernel) ?_
    refine fk_isub (a := (tr + 1)) (b := 1) d_Lg_addTrace_35 (by omega) ?_
    refine fk_top (congrArg nI (show (tr + 1) - 1 = tr from by first | omega | simp_all)) ?_
    exact hret (0, 0) _ 36 _ () d_Lg_addTrace_36 (trivial) (rfl)
  · exact absurd (of_decide_eq_true h4f) (by omega)
theorem d_Ar_fillI_0 : decode prog_10_method_103_code 0 = .ok (.iconst 0, 1) := by decide +kernel
theorem d_Ar_fillI_1 : decode prog_10_method_103_code 1 = .ok (.istore_n 2, 1) := by decide +kernel
theorem d_Ar_fillI_2 : decode prog_10_method_103_code 2 = .ok (.aload_n 0, 1) := by decide +kernel
theorem d_Ar_fillI_3 : decode prog_10_method_103_code 3 = .ok (.arraylength, 1) := by decide +kernel
theorem d_Ar_fillI_4 : decode prog_10_method_103_code 4 = .ok (.istore_n 3, 1) := by decide +kernel
theorem d_Ar_fillI_5 : decode prog_10_method_103_code 5 = .ok (.iload_n 2, 1) := by decide +kernel
theorem d_Ar_fillI_6 : decode prog_10_method_103_code 6 = .ok (.iload_n 3, 1) := by decide +kernel
theorem d_Ar_fillI_7 : decode prog_10_method_103_code 7 = .ok (.if_icmp .ge 13, 3) := by decide +kernel
theorem d_Ar_fillI_10 : decode prog_10_method_103_code 10 = .ok (.aload_n 0, 1) := by decide +kernel
theorem d_Ar_fillI_11 : decode prog_10_method_103_code 11 = .ok (.iload_n 2, 1) := by decide +kernel
theorem d_Ar_fillI_12 : decode prog_10_method_103_code 12 = .ok (.iload_n 1, 1) := by decide +kernel
theorem d_Ar_fillI_13 : decode prog_10_method_103_code 13 = .ok (.iastore, 1) := by decide +kernel
theorem d_Ar_fillI_14 : decode prog_10_method_103_code 14 = .ok (.iinc 2 1, 3) := by decide +kernel
theorem d_Ar_fillI_17 : decode prog_10_method_103_code 17 = .ok (.goto (-12), 3) := by decide +kernel
theorem d_Ar_fillI_20 : decode prog_10_method_103_code 20 = .ok (.return_, 1) := by decide +kernel
set_option maxRecDepth 20000 in
set_option maxHeartbeats 4000000 in
theorem cA_fillI (E : fk_E) (a : Nat) (N : Nat) (v : Nat) (g : Nat → Nat) (hN : N < 2 ^ 31) : fk_C E fy_Ar_fillI prog_10_method_103_code 4 none 0 0 0 [.ref a, .int (nI v)] [fk_ai E a N g] (S := (Nat → Nat)) (fun (u : (Nat → Nat)) => none) (fun (u : (Nat → Nat)) => ∀ k, k < N → u k = v) (fun (u : (Nat → Nat)) => [fk_ai E a N u]) := by
  refine fk_enterV (by decide) (Nat.le_of_ble_eq_true rfl) (lv0 := [(0, .ref a), (1, .int (nI v))]) rfl ?_
  intro K hini hret
  refine fk_iconst (v := nI 0) d_Ar_fillI_0 (by decide +kernel) ?_
  refine fk_istore_n (lv' := [(0, .ref a), (1, .int (nI v)), (2, .int (nI 0))]) d_Ar_fillI_1 rfl (Nat.le_of_ble_eq_true rfl) [1, 2, 0] rfl ?_
  refine fk_aload_n 0 d_Ar_fillI_2 rfl ?_
  refine fk_alen (t0 := 0) 0 rfl rfl d_Ar_fillI_3 ?_
  refine fk_istore_n (lv' := [(0, .ref a), (1, .int (nI v)), (2, .int (nI 0)), (3, .int (nI N))]) d_Ar_fillI_4 rfl (Nat.le_of_ble_eq_true rfl) [1, 2, 3, 0] rfl ?_
  have L5 : ∀ (fuel : Nat) (i : Nat) (g1 : Nat → Nat), (i ≤ N) → (∀ k, k < i → g1 k = v) → N - i < fuel → fk_V E (prog_10_method_103_code, fy_Ar_fillI.cls, 4, fk_rm 0 0 0) K (0, 0) [fk_ai E a N g1] 5 [(0, .ref a), (1, .int (nI v)), (2, .int (nI i)), (3, .int (nI N))] [] := by
    intro fuel
    induction fuel with
    | zero => intro i g1 _ _ hm; exact absurd hm (Nat.not_lt_zero _)
    | succ fuel ih =>
      intro i g1 hi hg hm5
      have ih5 := ih
      clear ih
      refine fk_iload_n 2 d_Ar_fillI_5 rfl ?_
      refine fk_iload_n 3 d_Ar_fillI_6 rfl ?_
      refine fk_icmp_ge (a := i) (b := N) (by omega) (by omega) d_Ar_fillI_7 rfl (fun h7t => ?_) (fun h7f => ?_)
      · exact hret (0, 0) _ 20 _ g1 d_Ar_fillI_20 (fun k hk => hg k (by omega)) (rfl)
      · refine fk_aload_n 0 d_Ar_fillI_10 rfl ?_
        refine fk_iload_n 2 d_Ar_fillI_11 rfl ?_
        refine fk_iload_n 1 d_Ar_fillI_12 rfl ?_
        refine fk_st_ai (i := i) (x := v) (w' := [fk_ai E a N (va_up g1 i v)]) 0 rfl (by omega) (by omega) d_Ar_fillI_13 rfl ?_
        refine fk_iinc (j := 2) (lv' := [(0, .ref a), (1, .int (nI v)), (2, .int (nI (i + 1))), (3, .int (nI N))]) (i + 1) d_Ar_fillI_14 rfl (nI_1 i) (Nat.le_of_ble_eq_true rfl) [1, 2, 0, 3] rfl ?_
        refine fk_goto d_Ar_fillI_17 rfl ?_
        refine ih5 _ _ ?_ ?_ ?_
        · first | omega | assumption | exact Nat.zero_le _
        · intro k hk
          by_cases e : k = i
          · subst e
            exact va_up_self _ _ _
          · rw [va_up_ne _ _ e]
            exact hg k (by omega)
        · omega
  refine L5 _ _ _ ?_ ?_ (Nat.lt_succ_self _)
  · first | omega | assumption | exact Nat.zero_le _
  · exact fun k hk => absurd hk (Nat.not_lt_zero k)
theorem d_Ar_fillJ_0 : decode prog_10_method_101_code 0 = .ok (.iconst 0, 1) := by decide +kernel
theorem d_Ar_fillJ_1 : decode prog_10_method_101_code 1 = .ok (.istore_n 3, 1) := by decide +kernel
theorem d_Ar_fillJ_2 : decode prog_10_method_101_code 2 = .ok (.aload_n 0, 1) := by decide +kernel
theorem d_Ar_fillJ_3 : decode prog_10_method_101_code 3 = .ok (.arraylength, 1) := by decide +kernel
theorem d_Ar_fillJ_4 : decode prog_10_method_101_code 4 = .ok (.istore 4, 2) := by decide +kernel
theorem d_Ar_fillJ_6 : decode prog_10_method_101_code 6 = .ok (.iload_n 3, 1) := by decide +kernel
theorem d_Ar_fillJ_7 : decode prog_10_method_101_code 7 = .ok (.iload 4, 2) := by decide +kernel
theorem d_Ar_fillJ_9 : decode prog_10_method_101_code 9 = .ok (.if_icmp .ge 13, 3) := by decide +kernel
theorem d_Ar_fillJ_12 : decode prog_10_method_101_code 12 = .ok (.aload_n 0, 1) := by decide +kernel
theorem d_Ar_fillJ_13 : decode prog_10_method_101_code 13 = .ok (.iload_n 3, 1) := by decide +kernel
theorem d_Ar_fillJ_14 : decode prog_10_method_101_code 14 = .ok (.lload_n 1, 1) := by decide +kernel
theorem d_Ar_fillJ_15 : decode prog_10_method_101_code 15 = .ok (.lastore, 1) := by decide +kernel
theorem d_Ar_fillJ_16 : decode prog_10_method_101_code 16 = .ok (.iinc 3 1, 3) := by decide +kernel
theorem d_Ar_fillJ_19 : decode prog_10_method_101_code 19 = .ok (.goto (-13), 3) := by decide +kernel
theorem d_Ar_fillJ_22 : decode prog_10_method_101_code 22 = .ok (.return_, 1) := by decide +kernel
set_option maxRecDepth 20000 in
set_option maxHeartbeats 4000000 in
theorem cA_fillJ (E : fk_E) (a : Nat) (N : Nat) (v : Nat) (g : Nat → Nat) (hN : N < 2 ^ 31) : fk_C E fy_Ar_fillJ prog_10_method_101_code 5 none 0 0 0 [.ref a, .long (lN v)] [fk_al E a N g] (S := (Nat → Nat)) (fun (u : (Nat → Nat)) => none) (fun (u : (Nat → Nat)) => ∀ k, k < N → u k = v) (fun (u : (Nat → Nat)) => [fk_al E a N u]) := by
  refine fk_enterV (by decide) (Nat.le_of_ble_eq_true rfl) (lv0 := [(0, .ref a), (1, .long (lN v))]) rfl ?_
  intro K hini hret
  refine fk_iconst (v := nI 0) d_Ar_fillJ_0 (by decide +kernel) ?_
  refine fk_istore_n (lv' := [(0, .ref a), (1, .long (lN v)), (3, .int (nI 0))]) d_Ar_fillJ_1 rfl (Nat.le_of_ble_eq_true rfl) [1, 2, 0] rfl ?_
  refine fk_aload_n 0 d_Ar_fillJ_2 rfl ?_
  refine fk_alen (t0 := 1) 0 rfl rfl d_Ar_fillJ_3 ?_
  refine fk_istore (lv' := [(0, .ref a), (1, .long (lN v)), (3, .int (nI 0)), (4, .int (nI N))]) d_Ar_fillJ_4 (Nat.le_of_ble_eq_true rfl) [1, 2, 3, 0] rfl ?_
  have L6 : ∀ (fuel : Nat) (i : Nat) (g1 : Nat → Nat), (i ≤ N) → (∀ k, k < i → g1 k = v) → N - i < fuel → fk_V E (prog_10_method_101_code, fy_Ar_fillJ.cls, 5, fk_rm 0 0 0) K (0, 0) [fk_al E a N g1] 6 [(0, .ref a), (1, .long (lN v)), (3, .int (nI i)), (4, .int (nI N))] [] := by
    intro fuel
    induction fuel with
    | zero => intro i g1 _ _ hm; exact absurd hm (Nat.not_lt_zero _)
    | succ fuel ih =>
      intro i g1 hi hg hm6
      have ih6 := ih
      clear ih
      refine fk_iload_n 2 d_Ar_fillJ_6 rfl ?_
      refine fk_iload 3 d_Ar_fillJ_7 rfl ?_
      refine fk_icmp_ge (a := i) (b := N) (by omega) (by omega) d_Ar_fillJ_9 rfl (fun h9t => ?_) (fun h9f => ?_)
      · exact hret (0, 0) _ 22 _ g1 d_Ar_fillJ_22 (fun k hk => hg k (by omega)) (rfl)
      · refine fk_aload_n 0 d_Ar_fillJ_12 rfl ?_
        refine fk_iload_n 2 d_Ar_fillJ_13 rfl ?_
        refine fk_lload_n 1 d_Ar_fillJ_14 rfl ?_
        refine fk_st_al (i := i) (x := v) (w' := [fk_al E a N (va_up g1 i v)]) 0 rfl (by omega) (by omega) d_Ar_fillJ_15 rfl ?_
        refine fk_iinc (j := 2) (lv' := [(0, .ref a), (1, .long (lN v)), (3, .int (nI (i + 1))), (4, .int (nI N))]) (i + 1) d_Ar_fillJ_16 rfl (nI_1 i) (Nat.le_of_ble_eq_true rfl) [1, 2, 0, 3] rfl ?_
        refine fk_goto d_Ar_fillJ_19 rfl ?_
        refine ih6 _ _ ?_ ?_ ?_
        · first | omega | assumption | exact Nat.zero_le _
        · intro k hk
          by_cases e : k = i
          · subst e
            exact va_up_self _ _ _
          · rw [va_up_ne _ _ e]
            exact hg k (by omega)
        · omega
  refine L6 _ _ _ ?_ ?_ (Nat.lt_succ_self _)
  · first | omega | assumption | exact Nat.zero_le _
  · exact fun k hk => absurd hk (Nat.not_lt_zero k)
theorem d_Lg_removeTraces_0 : decode prog_2_method_9_code 0 = .ok (.aload_n 0, 1) := by decide +kernel
theorem d_Lg_removeTraces_1 : decode prog_2_method_9_code 1 = .ok (.iconst 0, 1) := by decide +kernel
theorem d_Lg_removeTraces_2 : decode prog_2_method_9_code 2 = .ok (.putfield 21, 3) := by decide +kernel
theorem d_Lg_removeTraces_5 : decode prog_2_method_9_code 5 = .ok (.aload_n 0, 1) := by decide +kernel
theorem d_Lg_removeTraces_6 : decode prog_2_method_9_code 6 = .ok (.getfield 18, 3) := by decide +kernel
theorem d_Lg_removeTraces_9 : decode prog_2_method_9_code 9 = .ok (.iconst 0, 1) := by decide +kernel
theorem d_Lg_removeTraces_10 : decode prog_2_method_9_code 10 = .ok (.invokestatic 40, 3) := by decide +kernel
theorem d_Lg_removeTraces_13 : decode prog_2_method_9_code 13 = .ok (.return_, 1) := by decide +kernel
set_option maxRecDepth 20000 in
set_option maxHeartbeats 4000000 in
theorem cL_removeTraces (E : fk_E) (a0 : Nat) (a1 : Nat) (a2 : Nat) (a3 : Nat) (tr : Nat) (fo : Nat → Nat)  : fk_C E fy_Lg_removeTraces prog_2_method_9_code 1 none 1 0 0 [.ref a0] [(a0, .inr (1, [.ref a1, .ref a2, .ref a3, .int (nI tr)])), fk_ai E a3 7 fo] (S := (Nat → Nat)) (fun (u : (Nat → Nat)) => none) (fun (u : (Nat → Nat)) => ∀ k, k < 7 → u k = 0) (fun (u : (Nat → Nat)) => [(a0, .inr (1, [.ref a1, .ref a2, .ref a3, .int (nI 0)])), fk_ai E a3 7 u]) := by
  refine fk_enterV (by decide) (Nat.le_of_ble_eq_true rfl) (lv0 := [(0, .ref a0)]) rfl ?_
  intro K hini hret
  refine fk_aload_n 0 d_Lg_removeTraces_0 rfl ?_
  refine fk_iconst (v := nI 0) d_Lg_removeTraces_1 (by decide +kernel) ?_
  refine fk_put (w' := [(a0, .inr (1, [.ref a1, .ref a2, .ref a3, .int (nI 0)])), fk_ai E a3 7 fo]) 0 3 fT_Lg fT_Lg_ok fT_Lg_nm rfl rfl fh_Lg (Nat.le_of_ble_eq_true rfl) fw_27 rfl (fT_Lg_ok 3 (Nat.le_of_ble_eq_true rfl)) rfl rfl (Nat.le_of_ble_eq_true rfl) d_Lg_removeTraces_2 rfl ?_
  refine fk_aload_n 0 d_Lg_removeTraces_5 rfl ?_
  refine fk_get 0 2 rfl rfl fh_Lg (Nat.le_of_ble_eq_true rfl) fw_26 rfl d_Lg_removeTraces_6 ?_
  refine fk_iconst (v := nI 0) d_Lg_removeTraces_9 (by decide +kernel) ?_
  refine fk_callS (As := [.ref a3, .int (nI 0)]) (rest := []) (is := [1]) (ir := [0]) (ip := [0, 1]) (wc := [fk_ai E a3 7 fo]) (wr := [(a0, .inr (1, [.ref a1, .ref a2, .ref a3, .int (nI 0)]))]) (w2 := fun u => [(a0, .inr (1, [.ref a1, .ref a2, .ref a3, .int (nI 0)])), fk_ai E a3 7 u]) (cA_fillI E a3 7 0 fo (by first | omega | assumption)) d_Lg_removeTraces_10 fz_Ar_fillI fw_188 fw_189 ⟨Nat.le_of_ble_eq_true rfl, Nat.le_of_ble_eq_true rfl⟩ rfl (Nat.le_of_ble_eq_true rfl) ⟨Nat.zero_le _, Nat.zero_le _⟩ ⟨rfl, rfl, rfl, rfl, by decide, fun _ => rfl, rfl⟩ (fun u hu10 => ?_)
  obtain ⟨g9_10, rfl⟩ : ∃ z, z = u := ⟨_, rfl⟩
  have hq10 : ∀ k, k < 7 → g9_10 k = 0 := hu10
  show fk_V E _ K (0, 0) [(a0, .inr (1, [.ref a1, .ref a2, .ref a3, .int (nI 0)])), fk_ai E a3 7 g9_10] 13 [(0, .ref a0)] []
  exact hret (0, 0) _ 13 _ g9_10 d_Lg_removeTraces_13 (hq10) (rfl)
theorem d_Lg_isFollowed_0 : decode prog_2_method_10_code 0 = .ok (.iload_n 2, 1) := by decide +kernel
theorem d_Lg_isFollowed_1 : decode prog_2_method_10_code 1 = .ok (.aload_n 0, 1) := by decide +kernel
theorem d_Lg_isFollowed_2 : decode prog_2_method_10_code 2 = .ok (.getfield 18, 3) := by decide +kernel
theorem d_Lg_isFollowed_5 : decode prog_2_method_10_code 5 = .ok (.iload_n 1, 1) := by decide +kernel
theorem d_Lg_isFollowed_6 : decode prog_2_method_10_code 6 = .ok (.iaload, 1) := by decide +kernel
theorem d_Lg_isFollowed_7 : decode prog_2_method_10_code 7 = .ok (.invokestatic 46, 3) := by decide +kernel
theorem d_Lg_isFollowed_10 : decode prog_2_method_10_code 10 = .ok (.ireturn, 1) := by decide +kernel
set_option maxRecDepth 20000 in
set_option maxHeartbeats 4000000 in
theorem cL_isFollowed (E : fk_E) (a0 : Nat) (a1 : Nat) (a2 : Nat) (a3 : Nat) (tr : Nat) (fo : Nat → Nat) (a : Nat) (b : Nat) (ha : a < 7) (hb : b < 7) (hf : ∀ k, k < 7 → fo k < 128) : fk_C E fy_Lg_isFollowed prog_2_method_10_code 3 (some .boolean) 1 0 0 [.ref a0, .int (nI a), .int (nI b)] [(a0, .inr (1, [.ref a1, .ref a2, .ref a3, .int (nI tr)])), fk_ai E a3 7 fo] (S := Unit) (fun _ => some (.int (nI (Bool.toNat (Nat.testBit (fo a) b))))) (fun _ => True) (fun _ => [(a0, .inr (1, [.ref a1, .ref a2, .ref a3, .int (nI tr)])), fk_ai E a3 7 fo]) := by
  refine fk_enterZ (v := fun _ => Nat.testBit (fo a) b) (by decide) (Nat.le_of_ble_eq_true rfl) (lv0 := [(0, .ref a0), (1, .int (nI a)), (2, .int (nI b))]) rfl ?_
  intro K hini hret
  refine fk_iload_n 2 d_Lg_isFollowed_0 rfl ?_
  refine fk_aload_n 0 d_Lg_isFollowed_1 rfl ?_
  refine fk_get 0 2 rfl rfl fh_Lg (Nat.le_of_ble_eq_true rfl) fw_26 rfl d_Lg_isFollowed_2 ?_
  refine fk_iload_n 1 d_Lg_isFollowed_5 rfl ?_
  refine fk_ld_ai (i := a) 1 rfl (by omega) (by decide) d_Lg_isFollowed_6 ?_
  have h9 := hf a ha
  refine fk_callSN (As := [.int (nI b), .int (nI (fo a))]) (rest := []) (is := []) (ir := [0, 1]) (ip := [0, 1]) (wc := []) (wr := [(a0, .inr (1, [.ref a1, .ref a2, .ref a3, .int (nI tr)])), fk_ai E a3 7 fo]) (w2 := fun _ => [(a0, .inr (1, [.ref a1, .ref a2, .ref a3, .int (nI tr)])), fk_ai E a3 7 fo]) (cF_isIn E b (fo a) (by first | omega | assumption) (by first | omega | assumption)) d_Lg_isFollowed_7 fz_F_isIn fw_222 fw_223 ⟨Nat.le_of_ble_eq_true rfl, Nat.le_of_ble_eq_true rfl⟩ rfl (Nat.le_of_ble_eq_true rfl) ⟨Nat.zero_le _, Nat.zero_le _⟩ ⟨rfl, rfl, rfl, rfl, by decide, fun _ => rfl, rfl⟩ (fun u hu7 => ?_)
  show fk_V E _ K (0, 0) [(a0, .inr (1, [.ref a1, .ref a2, .ref a3, .int (nI tr)])), fk_ai E a3 7 fo] 10 [(0, .ref a0), (1, .int (nI a)), (2, .int (nI b))] [.int (nI (Bool.toNat (Nat.testBit (fo a) b)))]
  exact hret (0, 0) _ 10 _ () d_Lg_isFollowed_10 (trivial) (rfl)
theorem d_Lg_append_0 : decode prog_2_method_8_code 0 = .ok (.aload_n 0, 1) := by decide +kernel
theorem d_Lg_append_1 : decode prog_2_method_8_code 1 = .ok (.getfield 21, 3) := by decide +kernel
theorem d_Lg_append_4 : decode prog_2_method_8_code 4 = .ok (.iconst 1, 1) := by decide +kernel
theorem d_Lg_append_5 : decode prog_2_method_8_code 5 = .ok (.isub, 1) := by decide +kernel
theorem d_Lg_append_6 : decode prog_2_method_8_code 6 = .ok (.istore_n 2, 1) := by decide +kernel
theorem d_Lg_append_7 : decode prog_2_method_8_code 7 = .ok (.iload_n 1, 1) := by decide +kernel
theorem d_Lg_append_8 : decode prog_2_method_8_code 8 = .ok (.invokestatic 33, 3) := by decide +kernel
theorem d_Lg_append_11 : decode prog_2_method_8_code 11 = .ok (.ifCond .eq 18, 3) := by decide +kernel
theorem d_Lg_append_14 : decode prog_2_method_8_code 14 = .ok (.iload_n 2, 1) := by decide +kernel
theorem d_Lg_append_15 : decode prog_2_method_8_code 15 = .ok (.ifCond .lt 14, 3) := by decide +kernel
theorem d_Lg_append_18 : decode prog_2_method_8_code 18 = .ok (.aload_n 0, 1) := by decide +kernel
theorem d_Lg_append_19 : decode prog_2_method_8_code 19 = .ok (.getfield 9, 3) := by decide +kernel
theorem d_Lg_append_22 : decode prog_2_method_8_code 22 = .ok (.iload_n 2, 1) := by decide +kernel
theorem d_Lg_append_23 : decode prog_2_method_8_code 23 = .ok (.iaload, 1) := by decide +kernel
theorem d_Lg_append_24 : decode prog_2_method_8_code 24 = .ok (.bipush 15, 2) := by decide +kernel
theorem d_Lg_append_26 : decode prog_2_method_8_code 26 = .ok (.if_icmp .ne 5, 3) := by decide +kernel
theorem d_Lg_append_29 : decode prog_2_method_8_code 29 = .ok (.iconst 0, 1) := by decide +kernel
theorem d_Lg_append_30 : decode prog_2_method_8_code 30 = .ok (.ireturn, 1) := by decide +kernel
theorem d_Lg_append_31 : decode prog_2_method_8_code 31 = .ok (.aload_n 0, 1) := by decide +kernel
theorem d_Lg_append_32 : decode prog_2_method_8_code 32 = .ok (.getfield 9, 3) := by decide +kernel
theorem d_Lg_append_35 : decode prog_2_method_8_code 35 = .ok (.iload_n 2, 1) := by decide +kernel
theorem d_Lg_append_36 : decode prog_2_method_8_code 36 = .ok (.iaload, 1) := by decide +kernel
theorem d_Lg_append_37 : decode prog_2_method_8_code 37 = .ok (.istore_n 3, 1) := by decide +kernel
theorem d_Lg_append_38 : decode prog_2_method_8_code 38 = .ok (.iload_n 3, 1) := by decide +kernel
theorem d_Lg_append_39 : decode prog_2_method_8_code 39 = .ok (.ifCond .le 22, 3) := by decide +kernel
theorem d_Lg_append_42 : decode prog_2_method_8_code 42 = .ok (.aload_n 0, 1) := by decide +kernel
theorem d_Lg_append_43 : decode prog_2_method_8_code 43 = .ok (.getfield 18, 3) := by decide +kernel
theorem d_Lg_append_46 : decode prog_2_method_8_code 46 = .ok (.aload_n 0, 1) := by decide +kernel
theorem d_Lg_append_47 : decode prog_2_method_8_code 47 = .ok (.iload_n 2, 1) := by decide +kernel
theorem d_Lg_append_48 : decode prog_2_method_8_code 48 = .ok (.iload_n 3, 1) := by decide +kernel
theorem d_Lg_append_49 : decode prog_2_method_8_code 49 = .ok (.iconst 1, 1) := by decide +kernel
theorem d_Lg_append_50 : decode prog_2_method_8_code 50 = .ok (.isub, 1) := by decide +kernel
theorem d_Lg_append_51 : decode prog_2_method_8_code 51 = .ok (.invokevirtual 36, 3) := by decide +kernel
theorem d_Lg_append_54 : decode prog_2_method_8_code 54 = .ok (.dup2, 1) := by decide +kernel
theorem d_Lg_append_55 : decode prog_2_method_8_code 55 = .ok (.iaload, 1) := by decide +kernel
theorem d_Lg_append_56 : decode prog_2_method_8_code 56 = .ok (.iconst 1, 1) := by decide +kernel
theorem d_Lg_append_57 : decode prog_2_method_8_code 57 = .ok (.iload_n 1, 1) := by decide +kernel
theorem d_Lg_append_58 : decode prog_2_method_8_code 58 = .ok (.ishl, 1) := by decide +kernel
theorem d_Lg_append_59 : decode prog_2_method_8_code 59 = .ok (.ior, 1) := by decide +kernel
theorem d_Lg_append_60 : decode prog_2_method_8_code 60 = .ok (.iastore, 1) := by decide +kernel
theorem d_Lg_append_61 : decode prog_2_method_8_code 61 = .ok (.aload_n 0, 1) := by decide +kernel
theorem d_Lg_append_62 : decode prog_2_method_8_code 62 = .ok (.getfield 15, 3) := by decide +kernel
theorem d_Lg_append_65 : decode prog_2_method_8_code 65 = .ok (.iload_n 2, 1) := by decide +kernel
theorem d_Lg_append_66 : decode prog_2_method_8_code 66 = .ok (.bipush 15, 2) := by decide +kernel
theorem d_Lg_append_68 : decode prog_2_method_8_code 68 = .ok (.imul, 1) := by decide +kernel
theorem d_Lg_append_69 : decode prog_2_method_8_code 69 = .ok (.iload_n 3, 1) := by decide +kernel
theorem d_Lg_append_70 : decode prog_2_method_8_code 70 = .ok (.iadd, 1) := by decide +kernel
theorem d_Lg_append_71 : decode prog_2_method_8_code 71 = .ok (.iload_n 1, 1) := by decide +kernel
theorem d_Lg_append_72 : decode prog_2_method_8_code 72 = .ok (.iastore, 1) := by decide +kernel
theorem d_Lg_append_73 : decode prog_2_method_8_code 73 = .ok (.aload_n 0, 1) := by decide +kernel
theorem d_Lg_append_74 : decode prog_2_method_8_code 74 = .ok (.getfield 9, 3) := by decide +kernel
theorem d_Lg_append_77 : decode prog_2_method_8_code 77 = .ok (.iload_n 2, 1) := by decide +kernel
theorem d_Lg_append_78 : decode prog_2_method_8_code 78 = .ok (.iload_n 3, 1) := by decide +kernel
theorem d_Lg_append_79 : decode prog_2_method_8_code 79 = .ok (.iconst 1, 1) := by decide +kernel
theorem d_Lg_append_80 : decode prog_2_method_8_code 80 = .ok (.iadd, 1) := by decide +kernel
theorem d_Lg_append_81 : decode prog_2_method_8_code 81 = .ok (.iastore, 1) := by decide +kernel
theorem d_Lg_append_82 : decode prog_2_method_8_code 82 = .ok (.iconst 1, 1) := by decide +kernel
theorem d_Lg_append_83 : decode prog_2_method_8_code 83 = .ok (.ireturn, 1) := by decide +kernel
set_option maxRecDepth 20000 in
set_option maxHeartbeats 4000000 in
theorem cL_append (E : fk_E) (a0 : Nat) (a1 : Nat) (a2 : Nat) (a3 : Nat) (tr : Nat) (len : Nat → Nat) (ev : Nat → Nat) (fo : Nat → Nat) (a : Nat) (ha : a < 7) (h0 : 0 < tr) (ht : tr ≤ 20) (hl : len (tr - 1) < 15) (he : ∀ i, i < len (tr - 1) → ev (15 * (tr - 1) + i) < 7) (hf : ∀ k, k < 7 → fo k < 128) : fk_C E fy_Lg_append prog_2_method_8_code 4 (some .boolean) 1 0 0 [.ref a0, .int (nI a)] [(a0, .inr (1, [.ref a1, .ref a2, .ref a3, .int (nI tr)])), fk_ai E a1 20 len, fk_ai E a2 300 ev, fk_ai E a3 7 fo] (S := Unit) (fun _ => some (.int (nI (Bool.toNat true)))) (fun _ => True) (fun _ => [(a0, .inr (1, [.ref a1, .ref a2, .ref a3, .int (nI tr)])), fk_ai E a1 20 (va_up len (tr - 1) (len (tr - 1) + 1)), fk_ai E a2 300 (va_up ev (15 * (tr - 1) + len (tr - 1)) a), fk_ai E a3 7 (if 0 < len (tr - 1) then va_up fo (ev (15 * (tr - 1) + (len (tr - 1) - 1))) (fo (ev (15 * (tr - 1) + (len (tr - 1) - 1))) ||| 2 ^ a) else fo)]) := by
  refine fk_enterZ (v := fun _ => true) (by decide) (Nat.le_of_ble_eq_true rfl) (lv0 := [(0, .ref a0), (1, .int (nI a))]) rfl ?_
  intro K hini hret
  refine fk_aload_n 0 d_Lg_append_0 rfl ?_
  refine fk_get 0 3 rfl rfl fh_Lg (Nat.le_of_ble_eq_true rfl) fw_27 rfl d_Lg_append_1 ?_
  refine fk_iconst (v := nI 1) d_Lg_append_4 (by decide +kernel) ?_
  refine fk_isub (a := tr) (b := 1) d_Lg_append_5 (by omega) ?_
  refine fk_istore_n (lv' := [(0, .ref a0), (1, .int (nI a)), (2, .int (nI (tr - 1)))]) d_Lg_append_6 rfl (Nat.le_of_ble_eq_true rfl) [1, 2, 0] rfl ?_
  refine fk_iload_n 1 d_Lg_append_7 rfl ?_
  refine fk_callSN (As := [.int (nI a)]) (rest := []) (is := []) (ir := [0, 1, 2, 3]) (ip := [0, 1, 2, 3]) (wc := []) (wr := [(a0, .inr (1, [.ref a1, .ref a2, .ref a3, .int (nI tr)])), fk_ai E a1 20 len, fk_ai E a2 300 ev, fk_ai E a3 7 fo]) (w2 := fun _ => [(a0, .inr (1, [.ref a1, .ref a2, .ref a3, .int (nI tr)])), fk_ai E a1 20 len, fk_ai E a2 300 ev, fk_ai E a3 7 fo]) (cF_isActivity E a (by first | omega | assumption)) d_Lg_append_8 fz_F_isActivity fw_173 fw_174 ⟨Nat.le_of_ble_eq_true rfl, Nat.le_of_ble_eq_true rfl⟩ rfl (Nat.le_of_ble_eq_true rfl) ⟨Nat.zero_le _, Nat.zero_le _⟩ ⟨rfl, rfl, rfl, rfl, by decide, fun _ => rfl, rfl⟩ (fun u hu8 => ?_)
  show fk_V E _ K (0, 0) [(a0, .inr (1, [.ref a1, .ref a2, .ref a3, .int (nI tr)])), fk_ai E a1 20 len, fk_ai E a2 300 ev, fk_ai E a3 7 fo] 11 [(0, .ref a0), (1, .int (nI a)), (2, .int (nI (tr - 1)))] [.int (nI (Bool.toNat (decide (a < 7))))]
  refine fk_if_eqB (b := (decide (a < 7))) d_Lg_append_11 rfl (fun h11t => ?_) (fun h11f => ?_)
  · exact absurd h11t (by simp [ha])
  · refine fk_iload_n 2 d_Lg_append_14 rfl ?_
    refine fk_if_lt (by omega) d_Lg_append_15 rfl ?_
    refine fk_aload_n 0 d_Lg_append_18 rfl ?_
    refine fk_get 0 0 rfl rfl fh_Lg (Nat.le_of_ble_eq_true rfl) fw_24 rfl d_Lg_append_19 ?_
    refine fk_iload_n 2 d_Lg_append_22 rfl ?_
    refine fk_ld_ai (i := (tr - 1)) 1 rfl (by omega) (by decide) d_Lg_append_23 ?_
    refine fk_bipush (v := nI 15) d_Lg_append_24 (by decide +kernel) ?_
    refine fk_icmp_ne (a := (len (tr - 1))) (b := 15) (by omega) (by omega) d_Lg_append_26 rfl (fun h26t => ?_) (fun h26f => ?_)
    · refine fk_aload_n 0 d_Lg_append_31 rfl ?_
      refine fk_get 0 0 rfl rfl fh_Lg (Nat.le_of_ble_eq_true rfl) fw_24 rfl d_Lg_append_32 ?_
      refine fk_iload_n 2 d_Lg_append_35 rfl ?_
      refine fk_ld_ai (i := (tr - 1)) 1 rfl (by omega) (by decide) d_Lg_append_36 ?_
      refine fk_istore_n (lv' := [(0, .ref a0), (1, .int (nI a)), (2, .int (nI (tr - 1))), (3, .int (nI (len (tr - 1))))]) d_Lg_append_37 rfl (Nat.le_of_ble_eq_true rfl) [1, 2, 3, 0] rfl ?_
      refine fk_iload_n 3 d_Lg_append_38 rfl ?_
      refine fk_if_le (a := (len (tr - 1))) (by omega) d_Lg_append_39 rfl (fun h39t => ?_) (fun h39f => ?_)
      · refine fk_aload_n 0 d_Lg_append_61 rfl ?_
        refine fk_get 0 1 rfl rfl fh_Lg (Nat.le_of_ble_eq_true rfl) fw_25 rfl d_Lg_append_62 ?_
        refine fk_iload_n 2 d_Lg_append_65 rfl ?_
        refine fk_bipush (v := nI 15) d_Lg_append_66 (by decide +kernel) ?_
        refine fk_imul (a := (tr - 1)) (b := 15) d_Lg_append_68 ?_
        refine fk_iload_n 3 d_Lg_append_69 rfl ?_
        refine fk_iadd (a := ((tr - 1) * 15)) (b := (len (tr - 1))) d_Lg_append_70 ?_
        refine fk_top (show (nI (((tr - 1) * 15) + (len (tr - 1)))) = (nI (15 * (tr - 1) + len (tr - 1))) from congrArg nI (by omega)) ?_
        refine fk_iload_n 1 d_Lg_append_71 rfl ?_
        refine fk_st_ai (i := (15 * (tr - 1) + len (tr - 1))) (x := a) (w' := [(a0, .inr (1, [.ref a1, .ref a2, .ref a3, .int (nI tr)])), fk_ai E a1 20 len, fk_ai E a2 300 (va_up ev (15 * (tr - 1) + len (tr - 1)) a), fk_ai E a3 7 fo]) 2 rfl (by omega) (by decide) d_Lg_append_72 rfl ?_
        refine fk_aload_n 0 d_Lg_append_73 rfl ?_
        refine fk_get 0 0 rfl rfl fh_Lg (Nat.le_of_ble_eq_true rfl) fw_24 rfl d_Lg_append_74 ?_
        refine fk_iload_n 2 d_Lg_append_77 rfl ?_
        refine fk_iload_n 3 d_Lg_append_78 rfl ?_
        refine fk_iconst (v := nI 1) d_Lg_append_79 (by decide +kernel) ?_
        refine fk_iadd (a := (len (tr - 1))) (b := 1) d_Lg_append_80 ?_
        refine fk_st_ai (i := (tr - 1)) (x := ((len (tr - 1)) + 1)) (w' := [(a0, .inr (1, [.ref a1, .ref a2, .ref a3, .int (nI tr)])), fk_ai E a1 20 (va_up len (tr - 1) ((len (tr - 1)) + 1)), fk_ai E a2 300 (va_up ev (15 * (tr - 1) + len (tr - 1)) a), fk_ai E a3 7 fo]) 1 rfl (by omega) (by decide) d_Lg_append_81 rfl ?_
        refine fk_iconst (v := nI 1) d_Lg_append_82 (by decide +kernel) ?_
        refine fk_top (fn_rt (b := true) (by first | assumption | (simp; omega) | simp_all | (simp_all; omega))) ?_
        exact hret (0, 0) _ 83 _ () d_Lg_append_83 (trivial) (by rw [if_neg (by omega)])
      · have h9 := he (len (tr - 1) - 1) (by omega)
        refine fk_aload_n 0 d_Lg_append_42 rfl ?_
        refine fk_get 0 2 rfl rfl fh_Lg (Nat.le_of_ble_eq_true rfl) fw_26 rfl d_Lg_append_43 ?_
        refine fk_aload_n 0 d_Lg_append_46 rfl ?_
        refine fk_iload_n 2 d_Lg_append_47 rfl ?_
        refine fk_iload_n 3 d_Lg_append_48 rfl ?_
        refine fk_iconst (v := nI 1) d_Lg_append_49 (by decide +kernel) ?_
        refine fk_isub (a := (len (tr - 1))) (b := 1) d_Lg_append_50 (by omega) ?_
        refine fk_callV (q0 := 0) (As := [.int (nI (tr - 1)), .int (nI ((len (tr - 1)) - 1))]) (rest := [.ref a3]) (is := [0, 2]) (ir := [1, 3]) (ip := [2, 0, 3, 1]) (wc := [(a0, .inr (1, [.ref a1, .ref a2, .ref a3, .int (nI tr)])), fk_ai E a2 300 ev]) (wr := [fk_ai E a1 20 len, fk_ai E a3 7 fo]) (w2 := fun _ => [(a0, .inr (1, [.ref a1, .ref a2, .ref a3, .int (nI tr)])), fk_ai E a1 20 len, fk_ai E a2 300 ev, fk_ai E a3 7 fo]) (cL_activityAt E a0 a1 a2 a3 tr ev (tr - 1) ((len (tr - 1)) - 1) (by first | omega | assumption)) d_Lg_append_51 fz_Lg_activityAt fw_176 rfl rfl fw_177 fw_178 ⟨Nat.le_of_ble_eq_true rfl, Nat.le_of_ble_eq_true rfl⟩ rfl (Nat.le_of_ble_eq_true rfl) ⟨Nat.zero_le _, Nat.zero_le _⟩ ⟨rfl, rfl, rfl, rfl, by decide, fun _ => rfl, rfl⟩ (fun u hu51 => ?_)
        show fk_V E _ K (0, 0) [(a0, .inr (1, [.ref a1, .ref a2, .ref a3, .int (nI tr)])), fk_ai E a1 20 len, fk_ai E a2 300 ev, fk_ai E a3 7 fo] 54 [(0, .ref a0), (1, .int (nI a)), (2, .int (nI (tr - 1))), (3, .int (nI (len (tr - 1))))] [.int (nI (ev (15 * (tr - 1) + ((len (tr - 1)) - 1)))), .ref a3]
        refine fk_dup2 d_Lg_append_54 rfl rfl ?_
        refine fk_ld_ai (i := (ev (15 * (tr - 1) + ((len (tr - 1)) - 1)))) 3 rfl (h9) (by decide) d_Lg_append_55 ?_
        refine fk_iconst (v := nI 1) d_Lg_append_56 (by decide +kernel) ?_
        refine fk_iload_n 1 d_Lg_append_57 rfl ?_
        refine fk_ishl (a := 1) (b := a) d_Lg_append_58 (by omega) (by have := fb_pow_lt ha; omega) ?_
        refine fk_top (show nI (1 * 2 ^ a) = nI (2 ^ a) by rw [Nat.one_mul]) ?_
        refine fk_ior (a := (fo (ev (15 * (tr - 1) + ((len (tr - 1)) - 1))))) (b := (2 ^ a)) d_Lg_append_59 ?_
        refine fk_st_ai (i := (ev (15 * (tr - 1) + ((len (tr - 1)) - 1)))) (x := ((fo (ev (15 * (tr - 1) + ((len (tr - 1)) - 1)))) ||| (2 ^ a))) (w' := [(a0, .inr (1, [.ref a1, .ref a2, .ref a3, .int (nI tr)])), fk_ai E a1 20 len, fk_ai E a2 300 ev, fk_ai E a3 7 (va_up fo (ev (15 * (tr - 1) + ((len (tr - 1)) - 1))) ((fo (ev (15 * (tr - 1) + ((len (tr - 1)) - 1)))) ||| (2 ^ a)))]) 3 rfl (h9) (by decide) d_Lg_append_60 rfl ?_
        refine fk_aload_n 0 d_Lg_append_61 rfl ?_
        refine fk_get 0 1 rfl rfl fh_Lg (Nat.le_of_ble_eq_true rfl) fw_25 rfl d_Lg_append_62 ?_
        refine fk_iload_n 2 d_Lg_append_65 rfl ?_
        refine fk_bipush (v := nI 15) d_Lg_append_66 (by decide +kernel) ?_
        refine fk_imul (a := (tr - 1)) (b := 15) d_Lg_append_68 ?_
        refine fk_iload_n 3 d_Lg_append_69 rfl ?_
        refine fk_iadd (a := ((tr - 1) * 15)) (b := (len (tr - 1))) d_Lg_append_70 ?_
        refine fk_top (show (nI (((tr - 1) * 15) + (len (tr - 1)))) = (nI (15 * (tr - 1) + len (tr - 1))) from congrArg nI (by omega)) ?_
        refine fk_iload_n 1 d_Lg_append_71 rfl ?_
        refine fk_st_ai (i := (15 * (tr - 1) + len (tr - 1))) (x := a) (w' := [(a0, .inr (1, [.ref a1, .ref a2, .ref a3, .int (nI tr)])), fk_ai E a1 20 len, fk_ai E a2 300 (va_up ev (15 * (tr - 1) + len (tr - 1)) a), fk_ai E a3 7 (va_up fo (ev (15 * (tr - 1) + ((len (tr - 1)) - 1))) ((fo (ev (15 * (tr - 1) + ((len (tr - 1)) - 1)))) ||| (2 ^ a)))]) 2 rfl (by omega) (by decide) d_Lg_append_72 rfl ?_
        refine fk_aload_n 0 d_Lg_append_73 rfl ?_
        refine fk_get 0 0 rfl rfl fh_Lg (Nat.le_of_ble_eq_true rfl) fw_24 rfl d_Lg_append_74 ?_
        refine fk_iload_n 2 d_Lg_append_77 rfl ?_
        refine fk_iload_n 3 d_Lg_append_78 rfl ?_
        refine fk_iconst (v := nI 1) d_Lg_append_79 (by decide +kernel) ?_
        refine fk_iadd (a := (len (tr - 1))) (b := 1) d_Lg_append_80 ?_
        refine fk_st_ai (i := (tr - 1)) (x := ((len (tr - 1)) + 1)) (w' := [(a0, .inr (1, [.ref a1, .ref a2, .ref a3, .int (nI tr)])), fk_ai E a1 20 (va_up len (tr - 1) ((len (tr - 1)) + 1)), fk_ai E a2 300 (va_up ev (15 * (tr - 1) + len (tr - 1)) a), fk_ai E a3 7 (va_up fo (ev (15 * (tr - 1) + ((len (tr - 1)) - 1))) ((fo (ev (15 * (tr - 1) + ((len (tr - 1)) - 1)))) ||| (2 ^ a)))]) 1 rfl (by omega) (by decide) d_Lg_append_81 rfl ?_
        refine fk_iconst (v := nI 1) d_Lg_append_82 (by decide +kernel) ?_
        refine fk_top (fn_rt (b := true) (by first | assumption | (simp; omega) | simp_all | (simp_all; omega))) ?_
        exact hret (0, 0) _ 83 _ () d_Lg_append_83 (trivial) (by rw [if_pos h39f])
    · omega
set_option maxRecDepth 20000 in
set_option maxHeartbeats 4000000 in
theorem cL_appendA (E : fk_E) (a0 : Nat) (a1 : Nat) (a2 : Nat) (a3 : Nat) (tr : Nat) (len : Nat → Nat) (ev : Nat → Nat) (fo : Nat → Nat) (a : Nat) (ha : 7 ≤ a) (ha2 : a < 2 ^ 31) : fk_C E fy_Lg_append prog_2_method_8_code 4 (some .boolean) 1 0 0 [.ref a0, .int (nI a)] [(a0, .inr (1, [.ref a1, .ref a2, .ref a3, .int (nI tr)])), fk_ai E a1 20 len, fk_ai E a2 300 ev, fk_ai E a3 7 fo] (S := Unit) (fun _ => some (.int (nI (Bool.toNat false)))) (fun _ => True) (fun _ => [(a0, .inr (1, [.ref a1, .ref a2, .ref a3, .int (nI tr)])), fk_ai E a1 20 len, fk_ai E a2 300 ev, fk_ai E a3 7 fo]) := by
  refine fk_enterZ (v := fun _ => false) (by decide) (Nat.le_of_ble_eq_true rfl) (lv0 := [(0, .ref a0), (1, .int (nI a))]) rfl ?_
  intro K hini hret
  refine fk_aload_n 0 d_Lg_append_0 rfl ?_
  refine fk_get 0 3 rfl rfl fh_Lg (Nat.le_of_ble_eq_true rfl) fw_27 rfl d_Lg_append_1 ?_
  refine fk_iconst (v := nI 1) d_Lg_append_4 (by decide +kernel) ?_
  refine fk_isubR d_Lg_append_5 ?_
  refine fk_istore_n (lv' := [(0, .ref a0), (1, .int (nI a)), (2, .int ((nI tr) - (nI 1)))]) d_Lg_append_6 rfl (Nat.le_of_ble_eq_true rfl) [1, 2, 0] rfl ?_
  refine fk_iload_n 1 d_Lg_append_7 rfl ?_
  refine fk_callSN (As := [.int (nI a)]) (rest := []) (is := []) (ir := [0, 1, 2, 3]) (ip := [0, 1, 2, 3]) (wc := []) (wr := [(a0, .inr (1, [.ref a1, .ref a2, .ref a3, .int (nI tr)])), fk_ai E a1 20 len, fk_ai E a2 300 ev, fk_ai E a3 7 fo]) (w2 := fun _ => [(a0, .inr (1, [.ref a1, .ref a2, .ref a3, .int (nI tr)])), fk_ai E a1 20 len, fk_ai E a2 300 ev, fk_ai E a3 7 fo]) (cF_isActivity E a (by first | omega | assumption)) d_Lg_append_8 fz_F_isActivity fw_173 fw_174 ⟨Nat.le_of_ble_eq_true rfl, Nat.le_of_ble_eq_true rfl⟩ rfl (Nat.le_of_ble_eq_true rfl) ⟨Nat.zero_le _, Nat.zero_le _⟩ ⟨rfl, rfl, rfl, rfl, by decide, fun _ => rfl, rfl⟩ (fun u hu8 => ?_)
  show fk_V E _ K (0, 0) [(a0, .inr (1, [.ref a1, .ref a2, .ref a3, .int (nI tr)])), fk_ai E a1 20 len, fk_ai E a2 300 ev, fk_ai E a3 7 fo] 11 [(0, .ref a0), (1, .int (nI a)), (2, .int ((nI tr) - (nI 1)))] [.int (nI (Bool.toNat (decide (a < 7))))]
  refine fk_if_eqB (b := (decide (a < 7))) d_Lg_append_11 rfl (fun h11t => ?_) (fun h11f => ?_)
  · refine fk_iconst (v := nI 0) d_Lg_append_29 (by decide +kernel) ?_
    refine fk_top (fn_rf (b := false) (by first | assumption | (simp; omega) | simp_all | (simp_all; omega))) ?_
    exact hret (0, 0) _ 30 _ () d_Lg_append_30 (trivial) (rfl)
  · exact absurd (of_decide_eq_true h11f) (by omega)
set_option maxRecDepth 20000 in
set_option maxHeartbeats 4000000 in
theorem cL_appendM (E : fk_E) (a0 : Nat) (a1 : Nat) (a2 : Nat) (a3 : Nat) (tr : Nat) (len : Nat → Nat) (ev : Nat → Nat) (fo : Nat → Nat) (x : Int32) (hx : x < 0) : fk_C E fy_Lg_append prog_2_method_8_code 4 (some .boolean) 1 0 0 [.ref a0, .int x] [(a0, .inr (1, [.ref a1, .ref a2, .ref a3, .int (nI tr)])), fk_ai E a1 20 len, fk_ai E a2 300 ev, fk_ai E a3 7 fo] (S := Unit) (fun _ => some (.int (nI (Bool.toNat false)))) (fun _ => True) (fun _ => [(a0, .inr (1, [.ref a1, .ref a2, .ref a3, .int (nI tr)])), fk_ai E a1 20 len, fk_ai E a2 300 ev, fk_ai E a3 7 fo]) := by
  refine fk_enterZ (v := fun _ => false) (by decide) (Nat.le_of_ble_eq_true rfl) (lv0 := [(0, .ref a0), (1, .int x)]) rfl ?_
  intro K hini hret
  refine fk_aload_n 0 d_Lg_append_0 rfl ?_
  refine fk_get 0 3 rfl rfl fh_Lg (Nat.le_of_ble_eq_true rfl) fw_27 rfl d_Lg_append_1 ?_
  refine fk_iconst (v := nI 1) d_Lg_append_4 (by decide +kernel) ?_
  refine fk_isubR d_Lg_append_5 ?_
  refine fk_istore_n (lv' := [(0, .ref a0), (1, .int x), (2, .int ((nI tr) - (nI 1)))]) d_Lg_append_6 rfl (Nat.le_of_ble_eq_true rfl) [1, 2, 0] rfl ?_
  refine fk_iload_n 1 d_Lg_append_7 rfl ?_
  refine fk_callSN (As := [.int x]) (rest := []) (is := []) (ir := [0, 1, 2, 3]) (ip := [0, 1, 2, 3]) (wc := []) (wr := [(a0, .inr (1, [.ref a1, .ref a2, .ref a3, .int (nI tr)])), fk_ai E a1 20 len, fk_ai E a2 300 ev, fk_ai E a3 7 fo]) (w2 := fun _ => [(a0, .inr (1, [.ref a1, .ref a2, .ref a3, .int (nI tr)])), fk_ai E a1 20 len, fk_ai E a2 300 ev, fk_ai E a3 7 fo]) (cF_isActivityM E x (by first | omega | assumption)) d_Lg_append_8 fz_F_isActivity fw_173 fw_174 ⟨Nat.le_of_ble_eq_true rfl, Nat.le_of_ble_eq_true rfl⟩ rfl (Nat.le_of_ble_eq_true rfl) ⟨Nat.zero_le _, Nat.zero_le _⟩ ⟨rfl, rfl, rfl, rfl, by decide, fun _ => rfl, rfl⟩ (fun u hu8 => ?_)
  show fk_V E _ K (0, 0) [(a0, .inr (1, [.ref a1, .ref a2, .ref a3, .int (nI tr)])), fk_ai E a1 20 len, fk_ai E a2 300 ev, fk_ai E a3 7 fo] 11 [(0, .ref a0), (1, .int x), (2, .int ((nI tr) - (nI 1)))] [.int (nI (Bool.toNat false))]
  refine fk_if_eqB (b := false) d_Lg_append_11 rfl (fun h11t => ?_) (fun h11f => ?_)
  · refine fk_iconst (v := nI 0) d_Lg_append_29 (by decide +kernel) ?_
    refine fk_top (fn_rf (b := false) (by first | assumption | (simp; omega) | simp_all | (simp_all; omega))) ?_
    exact hret (0, 0) _ 30 _ () d_Lg_append_30 (trivial) (rfl)
  · exact absurd h11f (by decide)
set_option maxRecDepth 20000 in
set_option maxHeartbeats 4000000 in
theorem cL_append0 (E : fk_E) (a0 : Nat) (a1 : Nat) (a2 : Nat) (a3 : Nat) (tr : Nat) (len : Nat → Nat) (ev : Nat → Nat) (fo : Nat → Nat) (a : Nat) (ha2 : a < 2 ^ 31) (h0 : tr = 0) : fk_C E fy_Lg_append prog_2_method_8_code 4 (some .boolean) 1 0 0 [.ref a0, .int (nI a)] [(a0, .inr (1, [.ref a1, .ref a2, .ref a3, .int (nI tr)])), fk_ai E a1 20 len, fk_ai E a2 300 ev, fk_ai E a3 7 fo] (S := Unit) (fun _ => some (.int (nI (Bool.toNat false)))) (fun _ => True) (fun _ => [(a0, .inr (1, [.ref a1, .ref a2, .ref a3, .int (nI tr)])), fk_ai E a1 20 len, fk_ai E a2 300 ev, fk_ai E a3 7 fo]) := by
  refine fk_enterZ (v := fun _ => false) (by decide) (Nat.le_of_ble_eq_true rfl) (lv0 := [(0, .ref a0), (1, .int (nI a))]) rfl ?_
  intro K hini hret
  refine fk_aload_n 0 d_Lg_append_0 rfl ?_
  refine fk_get 0 3 rfl rfl fh_Lg (Nat.le_of_ble_eq_true rfl) fw_27 rfl d_Lg_append_1 ?_
  refine fk_iconst (v := nI 1) d_Lg_append_4 (by decide +kernel) ?_
  refine fk_isubR d_Lg_append_5 ?_
  refine fk_istore_n (lv' := [(0, .ref a0), (1, .int (nI a)), (2, .int ((nI tr) - (nI 1)))]) d_Lg_append_6 rfl (Nat.le_of_ble_eq_true rfl) [1, 2, 0] rfl ?_
  refine fk_iload_n 1 d_Lg_append_7 rfl ?_
  refine fk_callSN (As := [.int (nI a)]) (rest := []) (is := []) (ir := [0, 1, 2, 3]) (ip := [0, 1, 2, 3]) (wc := []) (wr := [(a0, .inr (1, [.ref a1, .ref a2, .ref a3, .int (nI tr)])), fk_ai E a1 20 len, fk_ai E a2 300 ev, fk_ai E a3 7 fo]) (w2 := fun _ => [(a0, .inr (1, [.ref a1, .ref a2, .ref a3, .int (nI tr)])), fk_ai E a1 20 len, fk_ai E a2 300 ev, fk_ai E a3 7 fo]) (cF_isActivity E a (by first | omega | assumption)) d_Lg_append_8 fz_F_isActivity fw_173 fw_174 ⟨Nat.le_of_ble_eq_true rfl, Nat.le_of_ble_eq_true rfl⟩ rfl (Nat.le_of_ble_eq_true rfl) ⟨Nat.zero_le _, Nat.zero_le _⟩ ⟨rfl, rfl, rfl, rfl, by decide, fun _ => rfl, rfl⟩ (fun u hu8 => ?_)
  show fk_V E _ K (0, 0) [(a0, .inr (1, [.ref a1, .ref a2, .ref a3, .int (nI tr)])), fk_ai E a1 20 len, fk_ai E a2 300 ev, fk_ai E a3 7 fo] 11 [(0, .ref a0), (1, .int (nI a)), (2, .int ((nI tr) - (nI 1)))] [.int (nI (Bool.toNat (decide (a < 7))))]
  refine fk_if_eqB (b := (decide (a < 7))) d_Lg_append_11 rfl (fun h11t => ?_) (fun h11f => ?_)
  · refine fk_iconst (v := nI 0) d_Lg_append_29 (by decide +kernel) ?_
    refine fk_top (fn_rf (b := false) (by first | assumption | (simp; omega) | simp_all | (simp_all; omega))) ?_
    exact hret (0, 0) _ 30 _ () d_Lg_append_30 (trivial) (rfl)
  · refine fk_iload_n 2 d_Lg_append_14 rfl ?_
    refine fk_if_ltR d_Lg_append_15 rfl (fun h15t => ?_) (fun h15f => ?_)
    · refine fk_iconst (v := nI 0) d_Lg_append_29 (by decide +kernel) ?_
      refine fk_top (fn_rf (b := false) (by first | assumption | (simp; omega) | simp_all | (simp_all; omega))) ?_
      exact hret (0, 0) _ 30 _ () d_Lg_append_30 (trivial) (rfl)
    · exact absurd (by rw [h0]; decide) h15f
set_option maxRecDepth 20000 in
set_option maxHeartbeats 4000000 in
theorem cL_appendF (E : fk_E) (a0 : Nat) (a1 : Nat) (a2 : Nat) (a3 : Nat) (tr : Nat) (len : Nat → Nat) (ev : Nat → Nat) (fo : Nat → Nat) (a : Nat) (ha2 : a < 2 ^ 31) (h0 : 0 < tr) (ht : tr ≤ 20) (hl : len (tr - 1) = 15) : fk_C E fy_Lg_append prog_2_method_8_code 4 (some .boolean) 1 0 0 [.ref a0, .int (nI a)] [(a0, .inr (1, [.ref a1, .ref a2, .ref a3, .int (nI tr)])), fk_ai E a1 20 len, fk_ai E a2 300 ev, fk_ai E a3 7 fo] (S := Unit) (fun _ => some (.int (nI (Bool.toNat false)))) (fun _ => True) (fun _ => [(a0, .inr (1, [.ref a1, .ref a2, .ref a3, .int (nI tr)])), fk_ai E a1 20 len, fk_ai E a2 300 ev, fk_ai E a3 7 fo]) := by
  refine fk_enterZ (v := fun _ => false) (by decide) (Nat.le_of_ble_eq_true rfl) (lv0 := [(0, .ref a0), (1, .int (nI a))]) rfl ?_
  intro K hini hret
  refine fk_aload_n 0 d_Lg_append_0 rfl ?_
  refine fk_get 0 3 rfl rfl fh_Lg (Nat.le_of_ble_eq_true rfl) fw_27 rfl d_Lg_append_1 ?_
  refine fk_iconst (v := nI 1) d_Lg_append_4 (by decide +kernel) ?_
  refine fk_isub (a := tr) (b := 1) d_Lg_append_5 (by omega) ?_
  refine fk_istore_n (lv' := [(0, .ref a0), (1, .int (nI a)), (2, .int (nI (tr - 1)))]) d_Lg_append_6 rfl (Nat.le_of_ble_eq_true rfl) [1, 2, 0] rfl ?_
  refine fk_iload_n 1 d_Lg_append_7 rfl ?_
  refine fk_callSN (As := [.int (nI a)]) (rest := []) (is := []) (ir := [0, 1, 2, 3]) (ip := [0, 1, 2, 3]) (wc := []) (wr := [(a0, .inr (1, [.ref a1, .ref a2, .ref a3, .int (nI tr)])), fk_ai E a1 20 len, fk_ai E a2 300 ev, fk_ai E a3 7 fo]) (w2 := fun _ => [(a0, .inr (1, [.ref a1, .ref a2, .ref a3, .int (nI tr)])), fk_ai E a1 20 len, fk_ai E a2 300 ev, fk_ai E a3 7 fo]) (cF_isActivity E a (by first | omega | assumption)) d_Lg_append_8 fz_F_isActivity fw_173 fw_174 ⟨Nat.le_of_ble_eq_true rfl, Nat.le_of_ble_eq_true rfl⟩ rfl (Nat.le_of_ble_eq_true rfl) ⟨Nat.zero_le _, Nat.zero_le _⟩ ⟨rfl, rfl, rfl, rfl, by decide, fun _ => rfl, rfl⟩ (fun u hu8 => ?_)
  show fk_V E _ K (0, 0) [(a0, .inr (1, [.ref a1, .ref a2, .ref a3, .int (nI tr)])), fk_ai E a1 20 len, fk_ai E a2 300 ev, fk_ai E a3 7 fo] 11 [(0, .ref a0), (1, .int (nI a)), (2, .int (nI (tr - 1)))] [.int (nI (Bool.toNat (decide (a < 7))))]
  refine fk_if_eqB (b := (decide (a < 7))) d_Lg_append_11 rfl (fun h11t => ?_) (fun h11f => ?_)
  · refine fk_iconst (v := nI 0) d_Lg_append_29 (by decide +kernel) ?_
    refine fk_top (fn_rf (b := false) (by first | assumption | (simp; omega) | simp_all | (simp_all; omega))) ?_
    exact hret (0, 0) _ 30 _ () d_Lg_append_30 (trivial) (rfl)
  · refine fk_iload_n 2 d_Lg_append_14 rfl ?_
    refine fk_if_lt (by omega) d_Lg_append_15 rfl ?_
    refine fk_aload_n 0 d_Lg_append_18 rfl ?_
    refine fk_get 0 0 rfl rfl fh_Lg (Nat.le_of_ble_eq_true rfl) fw_24 rfl d_Lg_append_19 ?_
    refine fk_iload_n 2 d_Lg_append_22 rfl ?_
    refine fk_ld_ai (i := (tr - 1)) 1 rfl (by omega) (by decide) d_Lg_append_23 ?_
    refine fk_bipush (v := nI 15) d_Lg_append_24 (by decide +kernel) ?_
    refine fk_icmp_ne (a := (len (tr - 1))) (b := 15) (by omega) (by omega) d_Lg_append_26 rfl (fun h26t => ?_) (fun h26f => ?_)
    · exact absurd hl h26t
    · refine fk_iconst (v := nI 0) d_Lg_append_29 (by decide +kernel) ?_
      refine fk_top (fn_rf (b := false) (by first | assumption | (simp; omega) | simp_all | (simp_all; omega))) ?_
      exact hret (0, 0) _ 30 _ () d_Lg_append_30 (trivial) (rfl)
theorem d_Lg_occurring_0 : decode prog_2_method_11_code 0 = .ok (.iconst 0, 1) := by decide +kernel
theorem d_Lg_occurring_1 : decode prog_2_method_11_code 1 = .ok (.istore_n 1, 1) := by decide +kernel
theorem d_Lg_occurring_2 : decode prog_2_method_11_code 2 = .ok (.iconst 0, 1) := by decide +kernel
theorem d_Lg_occurring_3 : decode prog_2_method_11_code 3 = .ok (.istore_n 2, 1) := by decide +kernel
theorem d_Lg_occurring_4 : decode prog_2_method_11_code 4 = .ok (.iload_n 2, 1) := by decide +kernel
theorem d_Lg_occurring_5 : decode prog_2_method_11_code 5 = .ok (.aload_n 0, 1) := by decide +kernel
theorem d_Lg_occurring_6 : decode prog_2_method_11_code 6 = .ok (.getfield 21, 3) := by decide +kernel
theorem d_Lg_occurring_9 : decode prog_2_method_11_code 9 = .ok (.if_icmp .ge 38, 3) := by decide +kernel
theorem d_Lg_occurring_12 : decode prog_2_method_11_code 12 = .ok (.iconst 0, 1) := by decide +kernel
theorem d_Lg_occurring_13 : decode prog_2_method_11_code 13 = .ok (.istore_n 3, 1) := by decide +kernel
theorem d_Lg_occurring_14 : decode prog_2_method_11_code 14 = .ok (.iload_n 3, 1) := by decide +kernel
theorem d_Lg_occurring_15 : decode prog_2_method_11_code 15 = .ok (.aload_n 0, 1) := by decide +kernel
theorem d_Lg_occurring_16 : decode prog_2_method_11_code 16 = .ok (.getfield 9, 3) := by decide +kernel
theorem d_Lg_occurring_19 : decode prog_2_method_11_code 19 = .ok (.iload_n 2, 1) := by decide +kernel
theorem d_Lg_occurring_20 : decode prog_2_method_11_code 20 = .ok (.iaload, 1) := by decide +kernel
theorem d_Lg_occurring_21 : decode prog_2_method_11_code 21 = .ok (.if_icmp .ge 20, 3) := by decide +kernel
theorem d_Lg_occurring_24 : decode prog_2_method_11_code 24 = .ok (.iload_n 1, 1) := by decide +kernel
theorem d_Lg_occurring_25 : decode prog_2_method_11_code 25 = .ok (.iconst 1, 1) := by decide +kernel
theorem d_Lg_occurring_26 : decode prog_2_method_11_code 26 = .ok (.aload_n 0, 1) := by decide +kernel
theorem d_Lg_occurring_27 : decode prog_2_method_11_code 27 = .ok (.iload_n 2, 1) := by decide +kernel
theorem d_Lg_occurring_28 : decode prog_2_method_11_code 28 = .ok (.iload_n 3, 1) := by decide +kernel
theorem d_Lg_occurring_29 : decode prog_2_method_11_code 29 = .ok (.invokevirtual 36, 3) := by decide +kernel
theorem d_Lg_occurring_32 : decode prog_2_method_11_code 32 = .ok (.ishl, 1) := by decide +kernel
theorem d_Lg_occurring_33 : decode prog_2_method_11_code 33 = .ok (.ior, 1) := by decide +kernel
theorem d_Lg_occurring_34 : decode prog_2_method_11_code 34 = .ok (.istore_n 1, 1) := by decide +kernel
theorem d_Lg_occurring_35 : decode prog_2_method_11_code 35 = .ok (.iinc 3 1, 3) := by decide +kernel
theorem d_Lg_occurring_38 : decode prog_2_method_11_code 38 = .ok (.goto (-24), 3) := by decide +kernel
theorem d_Lg_occurring_41 : decode prog_2_method_11_code 41 = .ok (.iinc 2 1, 3) := by decide +kernel
theorem d_Lg_occurring_44 : decode prog_2_method_11_code 44 = .ok (.goto (-40), 3) := by decide +kernel
theorem d_Lg_occurring_47 : decode prog_2_method_11_code 47 = .ok (.iload_n 1, 1) := by decide +kernel
theorem d_Lg_occurring_48 : decode prog_2_method_11_code 48 = .ok (.ireturn, 1) := by decide +kernel
set_option maxRecDepth 20000 in
set_option maxHeartbeats 4000000 in
theorem cL_occurring (E : fk_E) (a0 : Nat) (a1 : Nat) (a2 : Nat) (a3 : Nat) (tr : Nat) (len : Nat → Nat) (ev : Nat → Nat) (ht : tr ≤ 20) (hl : ∀ t, t < tr → len t ≤ 15) (he : ∀ t, t < tr → ∀ i, i < len t → ev (15 * t + i) < 7) : fk_C E fy_Lg_occurring prog_2_method_11_code 4 (some .int) 1 0 0 [.ref a0] [(a0, .inr (1, [.ref a1, .ref a2, .ref a3, .int (nI tr)])), fk_ai E a1 20 len, fk_ai E a2 300 ev] (S := Unit) (fun _ => some (.int (nI (fs_set (fg_oc tr len ev) 7)))) (fun _ => True) (fun _ => [(a0, .inr (1, [.ref a1, .ref a2, .ref a3, .int (nI tr)])), fk_ai E a1 20 len, fk_ai E a2 300 ev]) := by
  refine fk_enterI (v := fun _ => (nI (fs_set (fg_oc tr len ev) 7))) (by decide) (Nat.le_of_ble_eq_true rfl) (lv0 := [(0, .ref a0)]) rfl ?_
  intro K hini hret
  refine fk_iconst (v := nI 0) d_Lg_occurring_0 (by decide +kernel) ?_
  refine fk_istore_n (lv' := [(0, .ref a0), (1, .int (nI 0))]) d_Lg_occurring_1 rfl (Nat.le_of_ble_eq_true rfl) [1, 0] rfl ?_
  refine fk_iconst (v := nI 0) d_Lg_occurring_2 (by decide +kernel) ?_
  refine fk_istore_n (lv' := [(0, .ref a0), (1, .int (nI 0)), (2, .int (nI 0))]) d_Lg_occurring_3 rfl (Nat.le_of_ble_eq_true rfl) [1, 2, 0] rfl ?_
  have L4 : ∀ (fuel : Nat) (s : Nat) (t : Nat), (t ≤ tr) → (s < 128) → (∀ a, s.testBit a = fg_oc t len ev a) → tr - t < fuel → fk_V E (prog_2_method_11_code, fy_Lg_occurring.cls, 4, fk_rm 1 0 0) K (0, 0) [(a0, .inr (1, [.ref a1, .ref a2, .ref a3, .int (nI tr)])), fk_ai E a1 20 len, fk_ai E a2 300 ev] 4 [(0, .ref a0), (1, .int (nI s)), (2, .int (nI t))] [] := by
    intro fuel
    induction fuel with
    | zero => intro s t _ _ _ hm; exact absurd hm (Nat.not_lt_zero _)
    | succ fuel ih =>
      intro s t h1 h2 h3 hm4
      have ih4 := ih
      clear ih
      refine fk_iload_n 2 d_Lg_occurring_4 rfl ?_
      refine fk_aload_n 0 d_Lg_occurring_5 rfl ?_
      refine fk_get 0 3 rfl rfl fh_Lg (Nat.le_of_ble_eq_true rfl) fw_27 rfl d_Lg_occurring_6 ?_
      refine fk_icmp_ge (a := t) (b := tr) (by omega) (by omega) d_Lg_occurring_9 rfl (fun h9t => ?_) (fun h9f => ?_)
      · refine fk_iload_n 1 d_Lg_occurring_47 rfl ?_
        refine fk_top (congrArg nI (show s = fs_set (fg_oc tr len ev) 7 from by rw [show tr = t by omega]; exact fs_set_of h2 h3)) ?_
        exact hret (0, 0) _ 48 _ () d_Lg_occurring_48 (trivial) (rfl)
      · have h7 := hl t (by omega)
        refine fk_iconst (v := nI 0) d_Lg_occurring_12 (by decide +kernel) ?_
        refine fk_istore_n (lv' := [(0, .ref a0), (1, .int (nI s)), (2, .int (nI t)), (3, .int (nI 0))]) d_Lg_occurring_13 rfl (Nat.le_of_ble_eq_true rfl) [1, 2, 3, 0] rfl ?_
        have L14 : ∀ (fuel : Nat) (s2 : Nat) (i : Nat), (i ≤ len t) → (s2 < 128) → (∀ a, s2.testBit a = (fg_oc t len ev a || fs_any (fun i => decide (ev (15 * t + i) = a)) i)) → len t - i < fuel → fk_V E (prog_2_method_11_code, fy_Lg_occurring.cls, 4, fk_rm 1 0 0) K (0, 0) [(a0, .inr (1, [.ref a1, .ref a2, .ref a3, .int (nI tr)])), fk_ai E a1 20 len, fk_ai E a2 300 ev] 14 [(0, .ref a0), (1, .int (nI s2)), (2, .int (nI t)), (3, .int (nI i))] [] := by
          intro fuel
          induction fuel with
          | zero => intro s2 i _ _ _ hm; exact absurd hm (Nat.not_lt_zero _)
          | succ fuel ih =>
            intro s2 i h4 h5 h6 hm14
            have ih14 := ih
            clear ih
            have h7 := hl t (by omega)
            refine fk_iload_n 3 d_Lg_occurring_14 rfl ?_
            refine fk_aload_n 0 d_Lg_occurring_15 rfl ?_
            refine fk_get 0 0 rfl rfl fh_Lg (Nat.le_of_ble_eq_true rfl) fw_24 rfl d_Lg_occurring_16 ?_
            refine fk_iload_n 2 d_Lg_occurring_19 rfl ?_
            refine fk_ld_ai (i := t) 1 rfl (by omega) (by decide) d_Lg_occurring_20 ?_
            refine fk_icmp_ge (a := i) (b := (len t)) (by omega) (by omega) d_Lg_occurring_21 rfl (fun h21t => ?_) (fun h21f => ?_)
            · refine fk_iinc (j := 2) (lv' := [(0, .ref a0), (1, .int (nI s2)), (2, .int (nI (t + 1))), (3, .int (nI i))]) (t + 1) d_Lg_occurring_41 rfl (nI_1 t) (Nat.le_of_ble_eq_true rfl) [1, 2, 0, 3] rfl ?_
              refine fk_goto d_Lg_occurring_44 rfl ?_
              refine fk_lv (lv' := [(0, .ref a0), (1, .int (nI s2)), (2, .int (nI (t + 1)))]) [0, 1, 2] rfl ?_
              refine ih4 _ _ ?_ ?_ ?_ ?_
              · first | omega | assumption | exact Nat.zero_le _
              · first | omega | assumption | exact Nat.zero_le _
              · intro a
                rw [h6 a, show i = len t by omega]
                rfl
              · omega
            · have h8 := he t (by omega) i (by omega)
              refine fk_iload_n 1 d_Lg_occurring_24 rfl ?_
              refine fk_iconst (v := nI 1) d_Lg_occurring_25 (by decide +kernel) ?_
              refine fk_aload_n 0 d_Lg_occurring_26 rfl ?_
              refine fk_iload_n 2 d_Lg_occurring_27 rfl ?_
              refine fk_iload_n 3 d_Lg_occurring_28 rfl ?_
              refine fk_callV (q0 := 0) (As := [.int (nI t), .int (nI i)]) (rest := [.int (nI 1), .int (nI s2)]) (is := [0, 2]) (ir := [1]) (ip := [1, 0, 2]) (wc := [(a0, .inr (1, [.ref a1, .ref a2, .ref a3, .int (nI tr)])), fk_ai E a2 300 ev]) (wr := [fk_ai E a1 20 len]) (w2 := fun _ => [(a0, .inr (1, [.ref a1, .ref a2, .ref a3, .int (nI tr)])), fk_ai E a1 20 len, fk_ai E a2 300 ev]) (cL_activityAt E a0 a1 a2 a3 tr ev t i (by first | omega | assumption)) d_Lg_occurring_29 fz_Lg_activityAt fw_176 rfl rfl fw_177 fw_178 ⟨Nat.le_of_ble_eq_true rfl, Nat.le_of_ble_eq_true rfl⟩ rfl (Nat.le_of_ble_eq_true rfl) ⟨Nat.zero_le _, Nat.zero_le _⟩ ⟨rfl, rfl, rfl, rfl, by decide, fun _ => rfl, rfl⟩ (fun u hu29 => ?_)
              show fk_V E _ K (0, 0) [(a0, .inr (1, [.ref a1, .ref a2, .ref a3, .int (nI tr)])), fk_ai E a1 20 len, fk_ai E a2 300 ev] 32 [(0, .ref a0), (1, .int (nI s2)), (2, .int (nI t)), (3, .int (nI i))] [.int (nI (ev (15 * t + i))), .int (nI 1), .int (nI s2)]
              refine fk_ishl (a := 1) (b := (ev (15 * t + i))) d_Lg_occurring_32 (by omega) (by have := fb_pow_lt h8; omega) ?_
              refine fk_top (show nI (1 * 2 ^ (ev (15 * t + i))) = nI (2 ^ (ev (15 * t + i))) by rw [Nat.one_mul]) ?_
              refine fk_ior (a := s2) (b := (2 ^ (ev (15 * t + i)))) d_Lg_occurring_33 ?_
              refine fk_istore_n (lv' := [(0, .ref a0), (1, .int (nI (s2 ||| (2 ^ (ev (15 * t + i)))))), (2, .int (nI t)), (3, .int (nI i))]) d_Lg_occurring_34 rfl (Nat.le_of_ble_eq_true rfl) [1, 0, 2, 3] rfl ?_
              refine fk_iinc (j := 3) (lv' := [(0, .ref a0), (1, .int (nI (s2 ||| (2 ^ (ev (15 * t + i)))))), (2, .int (nI t)), (3, .int (nI (i + 1)))]) (i + 1) d_Lg_occurring_35 rfl (nI_1 i) (Nat.le_of_ble_eq_true rfl) [1, 2, 3, 0] rfl ?_
              refine fk_goto d_Lg_occurring_38 rfl ?_
              refine ih14 _ _ ?_ ?_ ?_ ?_
              · first | omega | assumption | exact Nat.zero_le _
              · exact fb_or_lt h5 (fb_pow_lt h8)
              · intro a
                rw [fb_or_bit, h6 a, fs_any_s, Bool.or_assoc]
              · omega
        refine L14 _ _ _ ?_ ?_ ?_ (Nat.lt_succ_self _)
        · first | omega | assumption | exact Nat.zero_le _
        · first | omega | assumption | exact Nat.zero_le _
        · intro a
          rw [h3 a]
          exact (Bool.or_false _).symm
  refine L4 _ _ _ ?_ ?_ ?_ (Nat.lt_succ_self _)
  · first | omega | assumption | exact Nat.zero_le _
  · decide
  · exact fun a => Nat.zero_testBit a
theorem d_Lg_beginners_0 : decode prog_2_method_12_code 0 = .ok (.iconst 0, 1) := by decide +kernel
theorem d_Lg_beginners_1 : decode prog_2_method_12_code 1 = .ok (.istore_n 1, 1) := by decide +kernel
theorem d_Lg_beginners_2 : decode prog_2_method_12_code 2 = .ok (.iconst 0, 1) := by decide +kernel
theorem d_Lg_beginners_3 : decode prog_2_method_12_code 3 = .ok (.istore_n 2, 1) := by decide +kernel
theorem d_Lg_beginners_4 : decode prog_2_method_12_code 4 = .ok (.iload_n 2, 1) := by decide +kernel
theorem d_Lg_beginners_5 : decode prog_2_method_12_code 5 = .ok (.aload_n 0, 1) := by decide +kernel
theorem d_Lg_beginners_6 : decode prog_2_method_12_code 6 = .ok (.getfield 21, 3) := by decide +kernel
theorem d_Lg_beginners_9 : decode prog_2_method_12_code 9 = .ok (.if_icmp .ge 29, 3) := by decide +kernel
theorem d_Lg_beginners_12 : decode prog_2_method_12_code 12 = .ok (.aload_n 0, 1) := by decide +kernel
theorem d_Lg_beginners_13 : decode prog_2_method_12_code 13 = .ok (.getfield 9, 3) := by decide +kernel
theorem d_Lg_beginners_16 : decode prog_2_method_12_code 16 = .ok (.iload_n 2, 1) := by decide +kernel
theorem d_Lg_beginners_17 : decode prog_2_method_12_code 17 = .ok (.iaload, 1) := by decide +kernel
theorem d_Lg_beginners_18 : decode prog_2_method_12_code 18 = .ok (.ifCond .le 14, 3) := by decide +kernel
theorem d_Lg_beginners_21 : decode prog_2_method_12_code 21 = .ok (.iload_n 1, 1) := by decide +kernel
theorem d_Lg_beginners_22 : decode prog_2_method_12_code 22 = .ok (.iconst 1, 1) := by decide +kernel
theorem d_Lg_beginners_23 : decode prog_2_method_12_code 23 = .ok (.aload_n 0, 1) := by decide +kernel
theorem d_Lg_beginners_24 : decode prog_2_method_12_code 24 = .ok (.iload_n 2, 1) := by decide +kernel
theorem d_Lg_beginners_25 : decode prog_2_method_12_code 25 = .ok (.iconst 0, 1) := by decide +kernel
theorem d_Lg_beginners_26 : decode prog_2_method_12_code 26 = .ok (.invokevirtual 36, 3) := by decide +kernel
theorem d_Lg_beginners_29 : decode prog_2_method_12_code 29 = .ok (.ishl, 1) := by decide +kernel
theorem d_Lg_beginners_30 : decode prog_2_method_12_code 30 = .ok (.ior, 1) := by decide +kernel
theorem d_Lg_beginners_31 : decode prog_2_method_12_code 31 = .ok (.istore_n 1, 1) := by decide +kernel
theorem d_Lg_beginners_32 : decode prog_2_method_12_code 32 = .ok (.iinc 2 1, 3) := by decide +kernel
theorem d_Lg_beginners_35 : decode prog_2_method_12_code 35 = .ok (.goto (-31), 3) := by decide +kernel
theorem d_Lg_beginners_38 : decode prog_2_method_12_code 38 = .ok (.iload_n 1, 1) := by decide +kernel
theorem d_Lg_beginners_39 : decode prog_2_method_12_code 39 = .ok (.ireturn, 1) := by decide +kernel
set_option maxRecDepth 20000 in
set_option maxHeartbeats 4000000 in
theorem cL_beginners (E : fk_E) (a0 : Nat) (a1 : Nat) (a2 : Nat) (a3 : Nat) (tr : Nat) (len : Nat → Nat) (ev : Nat → Nat) (ht : tr ≤ 20) (hl : ∀ t, t < tr → len t ≤ 15) (he : ∀ t, t < tr → ∀ i, i < len t → ev (15 * t + i) < 7) : fk_C E fy_Lg_beginners prog_2_method_12_code 3 (some .int) 1 0 0 [.ref a0] [(a0, .inr (1, [.ref a1, .ref a2, .ref a3, .int (nI tr)])), fk_ai E a1 20 len, fk_ai E a2 300 ev] (S := Unit) (fun _ => some (.int (nI (fs_set (fg_be tr len ev) 7)))) (fun _ => True) (fun _ => [(a0, .inr (1, [.ref a1, .ref a2, .ref a3, .int (nI tr)])), fk_ai E a1 20 len, fk_ai E a2 300 ev]) := by
  refine fk_enterI (v := fun _ => (nI (fs_set (fg_be tr len ev) 7))) (by decide) (Nat.le_of_ble_eq_true rfl) (lv0 := [(0, .ref a0)]) rfl ?_
  intro K hini hret
  refine fk_iconst (v := nI 0) d_Lg_beginners_0 (by decide +kernel) ?_
  refine fk_istore_n (lv' := [(0, .ref a0), (1, .int (nI 0))]) d_Lg_beginners_1 rfl (Nat.le_of_ble_eq_true rfl) [1, 0] rfl ?_
  refine fk_iconst (v := nI 0) d_Lg_beginners_2 (by decide +kernel) ?_
  refine fk_istore_n (lv' := [(0, .ref a0), (1, .int (nI 0)), (2, .int (nI 0))]) d_Lg_beginners_3 rfl (Nat.le_of_ble_eq_true rfl) [1, 2, 0] rfl ?_
  have L4 : ∀ (fuel : Nat) (s : Nat) (t : Nat), (t ≤ tr) → (s < 128) → (∀ a, s.testBit a = fg_be t len ev a) → tr - t < fuel → fk_V E (prog_2_method_12_code, fy_Lg_beginners.cls, 3, fk_rm 1 0 0) K (0, 0) [(a0, .inr (1, [.ref a1, .ref a2, .ref a3, .int (nI tr)])), fk_ai E a1 20 len, fk_ai E a2 300 ev] 4 [(0, .ref a0), (1, .int (nI s)), (2, .int (nI t))] [] := by
    intro fuel
    induction fuel with
    | zero => intro s t _ _ _ hm; exact absurd hm (Nat.not_lt_zero _)
    | succ fuel ih =>
      intro s t h1 h2 h3 hm4
      have ih4 := ih
      clear ih
      refine fk_iload_n 2 d_Lg_beginners_4 rfl ?_
      refine fk_aload_n 0 d_Lg_beginners_5 rfl ?_
      refine fk_get 0 3 rfl rfl fh_Lg (Nat.le_of_ble_eq_true rfl) fw_27 rfl d_Lg_beginners_6 ?_
      refine fk_icmp_ge (a := t) (b := tr) (by omega) (by omega) d_Lg_beginners_9 rfl (fun h9t => ?_) (fun h9f => ?_)
      · refine fk_iload_n 1 d_Lg_beginners_38 rfl ?_
        refine fk_top (congrArg nI (show s = fs_set (fg_be tr len ev) 7 from by rw [show tr = t by omega]; exact fs_set_of h2 h3)) ?_
        exact hret (0, 0) _ 39 _ () d_Lg_beginners_39 (trivial) (rfl)
      · have h7 := hl t (by omega)
        refine fk_aload_n 0 d_Lg_beginners_12 rfl ?_
        refine fk_get 0 0 rfl rfl fh_Lg (Nat.le_of_ble_eq_true rfl) fw_24 rfl d_Lg_beginners_13 ?_
        refine fk_iload_n 2 d_Lg_beginners_16 rfl ?_
        refine fk_ld_ai (i := t) 1 rfl (by omega) (by decide) d_Lg_beginners_17 ?_
        refine fk_if_le (a := (len t)) (by omega) d_Lg_beginners_18 rfl (fun h18t => ?_) (fun h18f => ?_)
        · refine fk_iinc (j := 2) (lv' := [(0, .ref a0), (1, .int (nI s)), (2, .int (nI (t + 1)))]) (t + 1) d_Lg_beginners_32 rfl (nI_1 t) (Nat.le_of_ble_eq_true rfl) [1, 2, 0] rfl ?_
          refine fk_goto d_Lg_beginners_35 rfl ?_
          refine ih4 _ _ ?_ ?_ ?_ ?_
          · first | omega | assumption | exact Nat.zero_le _
          · first | exact fb_or_lt h2 (fb_pow_lt h8) | assumption
          · intro a
            first | (rw [fb_or_bit, h3 a, fg_be_s, decide_eq_true h18f, Bool.true_and]; done) | rw [h3 a, fg_be_s, decide_eq_false (show ¬ 0 < len t by omega), Bool.false_and, Bool.or_false]
          · omega
        · have h8 := he t (by omega) 0 (by omega)
          refine fk_iload_n 1 d_Lg_beginners_21 rfl ?_
          refine fk_iconst (v := nI 1) d_Lg_beginners_22 (by decide +kernel) ?_
          refine fk_aload_n 0 d_Lg_beginners_23 rfl ?_
          refine fk_iload_n 2 d_Lg_beginners_24 rfl ?_
          refine fk_iconst (v := nI 0) d_Lg_beginners_25 (by decide +kernel) ?_
          refine fk_callV (q0 := 0) (As := [.int (nI t), .int (nI 0)]) (rest := [.int (nI 1), .int (nI s)]) (is := [0, 2]) (ir := [1]) (ip := [1, 0, 2]) (wc := [(a0, .inr (1, [.ref a1, .ref a2, .ref a3, .int (nI tr)])), fk_ai E a2 300 ev]) (wr := [fk_ai E a1 20 len]) (w2 := fun _ => [(a0, .inr (1, [.ref a1, .ref a2, .ref a3, .int (nI tr)])), fk_ai E a1 20 len, fk_ai E a2 300 ev]) (cL_activityAt E a0 a1 a2 a3 tr ev t 0 (by first | omega | assumption)) d_Lg_beginners_26 fz_Lg_activityAt fw_176 rfl rfl fw_177 fw_178 ⟨Nat.le_of_ble_eq_true rfl, Nat.le_of_ble_eq_true rfl⟩ rfl (Nat.le_of_ble_eq_true rfl) ⟨Nat.zero_le _, Nat.zero_le _⟩ ⟨rfl, rfl, rfl, rfl, by decide, fun _ => rfl, rfl⟩ (fun u hu26 => ?_)
          show fk_V E _ K (0, 0) [(a0, .inr (1, [.ref a1, .ref a2, .ref a3, .int (nI tr)])), fk_ai E a1 20 len, fk_ai E a2 300 ev] 29 [(0, .ref a0), (1, .int (nI s)), (2, .int (nI t))] [.int (nI (ev (15 * t + 0))), .int (nI 1), .int (nI s)]
          refine fk_ishl (a := 1) (b := (ev (15 * t + 0))) d_Lg_beginners_29 (by omega) (by have := fb_pow_lt h8; omega) ?_
          refine fk_top (show nI (1 * 2 ^ (ev (15 * t + 0))) = nI (2 ^ (ev (15 * t + 0))) by rw [Nat.one_mul]) ?_
          refine fk_ior (a := s) (b := (2 ^ (ev (15 * t + 0)))) d_Lg_beginners_30 ?_
          refine fk_istore_n (lv' := [(0, .ref a0), (1, .int (nI (s ||| (2 ^ (ev (15 * t + 0)))))), (2, .int (nI t))]) d_Lg_beginners_31 rfl (Nat.le_of_ble_eq_true rfl) [1, 0, 2] rfl ?_
          refine fk_iinc (j := 2) (lv' := [(0, .ref a0), (1, .int (nI (s ||| (2 ^ (ev (15 * t + 0)))))), (2, .int (nI (t + 1)))]) (t + 1) d_Lg_beginners_32 rfl (nI_1 t) (Nat.le_of_ble_eq_true rfl) [1, 2, 0] rfl ?_
          refine fk_goto d_Lg_beginners_35 rfl ?_
          refine ih4 _ _ ?_ ?_ ?_ ?_
          · first | omega | assumption | exact Nat.zero_le _
          · first | exact fb_or_lt h2 (fb_pow_lt h8) | assumption
          · intro a
            first | (rw [fb_or_bit, h3 a, fg_be_s, decide_eq_true h18f, Bool.true_and]; done) | rw [h3 a, fg_be_s, decide_eq_false (show ¬ 0 < len t by omega), Bool.false_and, Bool.or_false]
          · omega
  refine L4 _ _ _ ?_ ?_ ?_ (Nat.lt_succ_self _)
  · first | omega | assumption | exact Nat.zero_le _
  · decide
  · exact fun a => Nat.zero_testBit a
theorem d_Lg_enders_0 : decode prog_2_method_13_code 0 = .ok (.iconst 0, 1) := by decide +kernel
theorem d_Lg_enders_1 : decode prog_2_method_13_code 1 = .ok (.istore_n 1, 1) := by decide +kernel
theorem d_Lg_enders_2 : decode prog_2_method_13_code 2 = .ok (.iconst 0, 1) := by decide +kernel
theorem d_Lg_enders_3 : decode prog_2_method_13_code 3 = .ok (.istore_n 2, 1) := by decide +kernel
theorem d_Lg_enders_4 : decode prog_2_method_13_code 4 = .ok (.iload_n 2, 1) := by decide +kernel
theorem d_Lg_enders_5 : decode prog_2_method_13_code 5 = .ok (.aload_n 0, 1) := by decide +kernel
theorem d_Lg_enders_6 : decode prog_2_method_13_code 6 = .ok (.getfield 21, 3) := by decide +kernel
theorem d_Lg_enders_9 : decode prog_2_method_13_code 9 = .ok (.if_icmp .ge 36, 3) := by decide +kernel
theorem d_Lg_enders_12 : decode prog_2_method_13_code 12 = .ok (.aload_n 0, 1) := by decide +kernel
theorem d_Lg_enders_13 : decode prog_2_method_13_code 13 = .ok (.getfield 9, 3) := by decide +kernel
theorem d_Lg_enders_16 : decode prog_2_method_13_code 16 = .ok (.iload_n 2, 1) := by decide +kernel
theorem d_Lg_enders_17 : decode prog_2_method_13_code 17 = .ok (.iaload, 1) := by decide +kernel
theorem d_Lg_enders_18 : decode prog_2_method_13_code 18 = .ok (.ifCond .le 21, 3) := by decide +kernel
theorem d_Lg_enders_21 : decode prog_2_method_13_code 21 = .ok (.iload_n 1, 1) := by decide +kernel
theorem d_Lg_enders_22 : decode prog_2_method_13_code 22 = .ok (.iconst 1, 1) := by decide +kernel
theorem d_Lg_enders_23 : decode prog_2_method_13_code 23 = .ok (.aload_n 0, 1) := by decide +kernel
theorem d_Lg_enders_24 : decode prog_2_method_13_code 24 = .ok (.iload_n 2, 1) := by decide +kernel
theorem d_Lg_enders_25 : decode prog_2_method_13_code 25 = .ok (.aload_n 0, 1) := by decide +kernel
theorem d_Lg_enders_26 : decode prog_2_method_13_code 26 = .ok (.getfield 9, 3) := by decide +kernel
theorem d_Lg_enders_29 : decode prog_2_method_13_code 29 = .ok (.iload_n 2, 1) := by decide +kernel
theorem d_Lg_enders_30 : decode prog_2_method_13_code 30 = .ok (.iaload, 1) := by decide +kernel
theorem d_Lg_enders_31 : decode prog_2_method_13_code 31 = .ok (.iconst 1, 1) := by decide +kernel
theorem d_Lg_enders_32 : decode prog_2_method_13_code 32 = .ok (.isub, 1) := by decide +kernel
theorem d_Lg_enders_33 : decode prog_2_method_13_code 33 = .ok (.invokevirtual 36, 3) := by decide +kernel
theorem d_Lg_enders_36 : decode prog_2_method_13_code 36 = .ok (.ishl, 1) := by decide +kernel
theorem d_Lg_enders_37 : decode prog_2_method_13_code 37 = .ok (.ior, 1) := by decide +kernel
theorem d_Lg_enders_38 : decode prog_2_method_13_code 38 = .ok (.istore_n 1, 1) := by decide +kernel
theorem d_Lg_enders_39 : decode prog_2_method_13_code 39 = .ok (.iinc 2 1, 3) := by decide +kernel
theorem d_Lg_enders_42 : decode prog_2_method_13_code 42 = .ok (.goto (-38), 3) := by decide +kernel
theorem d_Lg_enders_45 : decode prog_2_method_13_code 45 = .ok (.iload_n 1, 1) := by decide +kernel
theorem d_Lg_enders_46 : decode prog_2_method_13_code 46 = .ok (.ireturn, 1) := by decide +kernel
set_option maxRecDepth 20000 in
set_option maxHeartbeats 4000000 in
theorem cL_enders (E : fk_E) (a0 : Nat) (a1 : Nat) (a2 : Nat) (a3 : Nat) (tr : Nat) (len : Nat → Nat) (ev : Nat → Nat) (ht : tr ≤ 20) (hl : ∀ t, t < tr → len t ≤ 15) (he : ∀ t, t < tr → ∀ i, i < len t → ev (15 * t + i) < 7) : fk_C E fy_Lg_enders prog_2_method_13_code 3 (some .int) 1 0 0 [.ref a0] [(a0, .inr (1, [.ref a1, .ref a2, .ref a3, .int (nI tr)])), fk_ai E a1 20 len, fk_ai E a2 300 ev] (S := Unit) (fun _ => some (.int (nI (fs_set (fg_nd tr len ev) 7)))) (fun _ => True) (fun _ => [(a0, .inr (1, [.ref a1, .ref a2, .ref a3, .int (nI tr)])), fk_ai E a1 20 len, fk_ai E a2 300 ev]) := by
  refine fk_enterI (v := fun _ => (nI (fs_set (fg_nd tr len ev) 7))) (by decide) (Nat.le_of_ble_eq_true rfl) (lv0 := [(0, .ref a0)]) rfl ?_
  intro K hini hret
  refine fk_iconst (v := nI 0) d_Lg_enders_0 (by decide +kernel) ?_
  refine fk_istore_n (lv' := [(0, .ref a0), (1, .int (nI 0))]) d_Lg_enders_1 rfl (Nat.le_of_ble_eq_true rfl) [1, 0] rfl ?_
  refine fk_iconst (v := nI 0) d_Lg_enders_2 (by decide +kernel) ?_
  refine fk_istore_n (lv' := [(0, .ref a0), (1, .int (nI 0)), (2, .int (nI 0))]) d_Lg_enders_3 rfl (Nat.le_of_ble_eq_true rfl) [1, 2, 0] rfl ?_
  have L4 : ∀ (fuel : Nat) (s : Nat) (t : Nat), (t ≤ tr) → (s < 128) → (∀ a, s.testBit a = fg_nd t len ev a) → tr - t < fuel → fk_V E (prog_2_method_13_code, fy_Lg_enders.cls, 3, fk_rm 1 0 0) K (0, 0) [(a0, .inr (1, [.ref a1, .ref a2, .ref a3, .int (nI tr)])), fk_ai E a1 20 len, fk_ai E a2 300 ev] 4 [(0, .ref a0), (1, .int (nI s)), (2, .int (nI t))] [] := by
    intro fuel
    induction fuel with
    | zero => intro s t _ _ _ hm; exact absurd hm (Nat.not_lt_zero _)
    | succ fuel ih =>
      intro s t h1 h2 h3 hm4
      have ih4 := ih
      clear ih
      refine fk_iload_n 2 d_Lg_enders_4 rfl ?_
      refine fk_aload_n 0 d_Lg_enders_5 rfl ?_
      refine fk_get 0 3 rfl rfl fh_Lg (Nat.le_of_ble_eq_true rfl) fw_27 rfl d_Lg_enders_6 ?_
      refine fk_icmp_ge (a := t) (b := tr) (by omega) (by omega) d_Lg_enders_9 rfl (fun h9t => ?_) (fun h9f => ?_)
      · refine fk_iload_n 1 d_Lg_enders_45 rfl ?_
        refine fk_top (congrArg nI (show s = fs_set (fg_nd tr len ev) 7 from by rw [show tr = t by omega]; exact fs_set_of h2 h3)) ?_
        exact hret (0, 0) _ 46 _ () d_Lg_enders_46 (trivial) (rfl)
      · have h7 := hl t (by omega)
        refine fk_aload_n 0 d_Lg_enders_12 rfl ?_
        refine fk_get 0 0 rfl rfl fh_Lg (Nat.le_of_ble_eq_true rfl) fw_24 rfl d_Lg_enders_13 ?_
        refine fk_iload_n 2 d_Lg_enders_16 rfl ?_
        refine fk_ld_ai (i := t) 1 rfl (by omega) (by decide) d_Lg_enders_17 ?_
        refine fk_if_le (a := (len t)) (by omega) d_Lg_enders_18 rfl (fun h18t => ?_) (fun h18f => ?_)
        · refine fk_iinc (j := 2) (lv' := [(0, .ref a0), (1, .int (nI s)), (2, .int (nI (t + 1)))]) (t + 1) d_Lg_enders_39 rfl (nI_1 t) (Nat.le_of_ble_eq_true rfl) [1, 2, 0] rfl ?_
          refine fk_goto d_Lg_enders_42 rfl ?_
          refine ih4 _ _ ?_ ?_ ?_ ?_
          · first | omega | assumption | exact Nat.zero_le _
          · first | exact fb_or_lt h2 (fb_pow_lt h8) | assumption
          · intro a
            first | (rw [fb_or_bit, h3 a, fg_nd_s, decide_eq_true h18f, Bool.true_and]; done) | rw [h3 a, fg_nd_s, decide_eq_false (show ¬ 0 < len t by omega), Bool.false_and, Bool.or_false]
          · omega
        · have h8 := he t (by omega) (len t - 1) (by omega)
          refine fk_iload_n 1 d_Lg_enders_21 rfl ?_
          refine fk_iconst (v := nI 1) d_Lg_enders_22 (by decide +kernel) ?_
          refine fk_aload_n 0 d_Lg_enders_23 rfl ?_
          refine fk_iload_n 2 d_Lg_enders_24 rfl ?_
          refine fk_aload_n 0 d_Lg_enders_25 rfl ?_
          refine fk_get 0 0 rfl rfl fh_Lg (Nat.le_of_ble_eq_true rfl) fw_24 rfl d_Lg_enders_26 ?_
          refine fk_iload_n 2 d_Lg_enders_29 rfl ?_
          refine fk_ld_ai (i := t) 1 rfl (by omega) (by decide) d_Lg_enders_30 ?_
          refine fk_iconst (v := nI 1) d_Lg_enders_31 (by decide +kernel) ?_
          refine fk_isub (a := (len t)) (b := 1) d_Lg_enders_32 (by omega) ?_
          refine fk_callV (q0 := 0) (As := [.int (nI t), .int (nI ((len t) - 1))]) (rest := [.int (nI 1), .int (nI s)]) (is := [0, 2]) (ir := [1]) (ip := [1, 0, 2]) (wc := [(a0, .inr (1, [.ref a1, .ref a2, .ref a3, .int (nI tr)])), fk_ai E a2 300 ev]) (wr := [fk_ai E a1 20 len]) (w2 := fun _ => [(a0, .inr (1, [.ref a1, .ref a2, .ref a3, .int (nI tr)])), fk_ai E a1 20 len, fk_ai E a2 300 ev]) (cL_activityAt E a0 a1 a2 a3 tr ev t ((len t) - 1) (by first | omega | assumption)) d_Lg_enders_33 fz_Lg_activityAt fw_176 rfl rfl fw_177 fw_178 ⟨Nat.le_of_ble_eq_true rfl, Nat.le_of_ble_eq_true rfl⟩ rfl (Nat.le_of_ble_eq_true rfl) ⟨Nat.zero_le _, Nat.zero_le _⟩ ⟨rfl, rfl, rfl, rfl, by decide, fun _ => rfl, rfl⟩ (fun u hu33 => ?_)
          show fk_V E _ K (0, 0) [(a0, .inr (1, [.ref a1, .ref a2, .ref a3, .int (nI tr)])), fk_ai E a1 20 len, fk_ai E a2 300 ev] 36 [(0, .ref a0), (1, .int (nI s)), (2, .int (nI t))] [.int (nI (ev (15 * t + ((len t) - 1)))), .int (nI 1), .int (nI s)]
          refine fk_ishl (a := 1) (b := (ev (15 * t + ((len t) - 1)))) d_Lg_enders_36 (by omega) (by have := fb_pow_lt h8; omega) ?_
          refine fk_top (show nI (1 * 2 ^ (ev (15 * t + ((len t) - 1)))) = nI (2 ^ (ev (15 * t + ((len t) - 1)))) by rw [Nat.one_mul]) ?_
          refine fk_ior (a := s) (b := (2 ^ (ev (15 * t + ((len t) - 1))))) d_Lg_enders_37 ?_
          refine fk_istore_n (lv' := [(0, .ref a0), (1, .int (nI (s ||| (2 ^ (ev (15 * t + ((len t) - 1))))))), (2, .int (nI t))]) d_Lg_enders_38 rfl (Nat.le_of_ble_eq_true rfl) [1, 0, 2] rfl ?_
          refine fk_iinc (j := 2) (lv' := [(0, .ref a0), (1, .int (nI (s ||| (2 ^ (ev (15 * t + ((len t) - 1))))))), (2, .int (nI (t + 1)))]) (t + 1) d_Lg_enders_39 rfl (nI_1 t) (Nat.le_of_ble_eq_true rfl) [1, 2, 0] rfl ?_
          refine fk_goto d_Lg_enders_42 rfl ?_
          refine ih4 _ _ ?_ ?_ ?_ ?_
          · first | omega | assumption | exact Nat.zero_le _
          · first | exact fb_or_lt h2 (fb_pow_lt h8) | assumption
          · intro a
            first | (rw [fb_or_bit, h3 a, fg_nd_s, decide_eq_true h18f, Bool.true_and]; done) | rw [h3 a, fg_nd_s, decide_eq_false (show ¬ 0 < len t by omega), Bool.false_and, Bool.or_false]
          · omega
  refine L4 _ _ _ ?_ ?_ ?_ (Nat.lt_succ_self _)
  · first | omega | assumption | exact Nat.zero_le _
  · decide
  · exact fun a => Nat.zero_testBit a
end
section
theorem d_Nt_placeCount_0 : decode prog_4_method_2_code 0 = .ok (.aload_n 0, 1) := by decide +kernel
theorem d_Nt_placeCount_1 : decode prog_4_method_2_code 1 = .ok (.getfield 25, 3) := by decide +kernel
theorem d_Nt_placeCount_4 : decode prog_4_method_2_code 4 = .ok (.ireturn, 1) := by decide +kernel
set_option maxRecDepth 20000 in
set_option maxHeartbeats 4000000 in
theorem cN_placeCount (E : fk_E) (n0 : Nat) (n1 : Nat) (n2 : Nat) (n3 : Nat) (n4 : Nat) (cnt : Nat) (fi : Nat) (la : Nat) (lo : Nat) (me : Nat)  : fk_C E fy_Nt_placeCount prog_4_method_2_code 1 (some .int) 0 0 0 [.ref n0] [(n0, .inr (2, [.ref n1, .ref n2, .ref n3, .ref n4, .int (nI cnt), .int (nI fi), .int (nI la), .int (nI lo), .int (nI me)]))] (S := Unit) (fun _ => some (.int (nI cnt))) (fun _ => True) (fun _ => [(n0, .inr (2, [.ref n1, .ref n2, .ref n3, .ref n4, .int (nI cnt), .int (nI fi), .int (nI la), .int (nI lo), .int (nI me)]))]) := by
  refine fk_enterI (v := fun _ => (nI cnt)) (by decide) (Nat.le_of_ble_eq_true rfl) (lv0 := [(0, .ref n0)]) rfl ?_
  intro K hini hret
  refine fk_aload_n 0 d_Nt_placeCount_0 rfl ?_
  refine fk_get 0 4 rfl rfl fh_Nt (Nat.le_of_ble_eq_true rfl) fw_48 rfl d_Nt_placeCount_1 ?_
  exact hret (0, 0) _ 4 _ () d_Nt_placeCount_4 (trivial) (rfl)
theorem d_Nt_firstOnes_0 : decode prog_4_method_5_code 0 = .ok (.aload_n 0, 1) := by decide +kernel
theorem d_Nt_firstOnes_1 : decode prog_4_method_5_code 1 = .ok (.getfield 29, 3) := by decide +kernel
theorem d_Nt_firstOnes_4 : decode prog_4_method_5_code 4 = .ok (.ireturn, 1) := by decide +kernel
set_option maxRecDepth 20000 in
set_option maxHeartbeats 4000000 in
theorem cN_firstOnes (E : fk_E) (n0 : Nat) (n1 : Nat) (n2 : Nat) (n3 : Nat) (n4 : Nat) (cnt : Nat) (fi : Nat) (la : Nat) (lo : Nat) (me : Nat)  : fk_C E fy_Nt_firstOnes prog_4_method_5_code 1 (some .int) 0 0 0 [.ref n0] [(n0, .inr (2, [.ref n1, .ref n2, .ref n3, .ref n4, .int (nI cnt), .int (nI fi), .int (nI la), .int (nI lo), .int (nI me)]))] (S := Unit) (fun _ => some (.int (nI fi))) (fun _ => True) (fun _ => [(n0, .inr (2, [.ref n1, .ref n2, .ref n3, .ref n4, .int (nI cnt), .int (nI fi), .int (nI la), .int (nI lo), .int (nI me)]))]) := by
  refine fk_enterI (v := fun _ => (nI fi)) (by decide) (Nat.le_of_ble_eq_true rfl) (lv0 := [(0, .ref n0)]) rfl ?_
  intro K hini hret
  refine fk_aload_n 0 d_Nt_firstOnes_0 rfl ?_
  refine fk_get 0 5 rfl rfl fh_Nt (Nat.le_of_ble_eq_true rfl) fw_49 rfl d_Nt_firstOnes_1 ?_
  exact hret (0, 0) _ 4 _ () d_Nt_firstOnes_4 (trivial) (rfl)
theorem d_Nt_lastOnes_0 : decode prog_4_method_6_code 0 = .ok (.aload_n 0, 1) := by decide +kernel
theorem d_Nt_lastOnes_1 : decode prog_4_method_6_code 1 = .ok (.getfield 32, 3) := by decide +kernel
theorem d_Nt_lastOnes_4 : decode prog_4_method_6_code 4 = .ok (.ireturn, 1) := by decide +kernel
set_option maxRecDepth 20000 in
set_option maxHeartbeats 4000000 in
theorem cN_lastOnes (E : fk_E) (n0 : Nat) (n1 : Nat) (n2 : Nat) (n3 : Nat) (n4 : Nat) (cnt : Nat) (fi : Nat) (la : Nat) (lo : Nat) (me : Nat)  : fk_C E fy_Nt_lastOnes prog_4_method_6_code 1 (some .int) 0 0 0 [.ref n0] [(n0, .inr (2, [.ref n1, .ref n2, .ref n3, .ref n4, .int (nI cnt), .int (nI fi), .int (nI la), .int (nI lo), .int (nI me)]))] (S := Unit) (fun _ => some (.int (nI la))) (fun _ => True) (fun _ => [(n0, .inr (2, [.ref n1, .ref n2, .ref n3, .ref n4, .int (nI cnt), .int (nI fi), .int (nI la), .int (nI lo), .int (nI me)]))]) := by
  refine fk_enterI (v := fun _ => (nI la)) (by decide) (Nat.le_of_ble_eq_true rfl) (lv0 := [(0, .ref n0)]) rfl ?_
  intro K hini hret
  refine fk_aload_n 0 d_Nt_lastOnes_0 rfl ?_
  refine fk_get 0 6 rfl rfl fh_Nt (Nat.le_of_ble_eq_true rfl) fw_50 rfl d_Nt_lastOnes_1 ?_
  exact hret (0, 0) _ 4 _ () d_Nt_lastOnes_4 (trivial) (rfl)
theorem d_Nt_activitySet_0 : decode prog_4_method_7_code 0 = .ok (.aload_n 0, 1) := by decide +kernel
theorem d_Nt_activitySet_1 : decode prog_4_method_7_code 1 = .ok (.getfield 38, 3) := by decide +kernel
theorem d_Nt_activitySet_4 : decode prog_4_method_7_code 4 = .ok (.ireturn, 1) := by decide +kernel
set_option maxRecDepth 20000 in
set_option maxHeartbeats 4000000 in
theorem cN_activitySet (E : fk_E) (n0 : Nat) (n1 : Nat) (n2 : Nat) (n3 : Nat) (n4 : Nat) (cnt : Nat) (fi : Nat) (la : Nat) (lo : Nat) (me : Nat)  : fk_C E fy_Nt_activitySet prog_4_method_7_code 1 (some .int) 0 0 0 [.ref n0] [(n0, .inr (2, [.ref n1, .ref n2, .ref n3, .ref n4, .int (nI cnt), .int (nI fi), .int (nI la), .int (nI lo), .int (nI me)]))] (S := Unit) (fun _ => some (.int (nI me))) (fun _ => True) (fun _ => [(n0, .inr (2, [.ref n1, .ref n2, .ref n3, .ref n4, .int (nI cnt), .int (nI fi), .int (nI la), .int (nI lo), .int (nI me)]))]) := by
  refine fk_enterI (v := fun _ => (nI me)) (by decide) (Nat.le_of_ble_eq_true rfl) (lv0 := [(0, .ref n0)]) rfl ?_
  intro K hini hret
  refine fk_aload_n 0 d_Nt_activitySet_0 rfl ?_
  refine fk_get 0 8 rfl rfl fh_Nt (Nat.le_of_ble_eq_true rfl) fw_52 rfl d_Nt_activitySet_1 ?_
  exact hret (0, 0) _ 4 _ () d_Nt_activitySet_4 (trivial) (rfl)
theorem d_Nt_inputsOf_0 : decode prog_4_method_3_code 0 = .ok (.aload_n 0, 1) := by decide +kernel
theorem d_Nt_inputsOf_1 : decode prog_4_method_3_code 1 = .ok (.getfield 9, 3) := by decide +kernel
theorem d_Nt_inputsOf_4 : decode prog_4_method_3_code 4 = .ok (.iload_n 1, 1) := by decide +kernel
theorem d_Nt_inputsOf_5 : decode prog_4_method_3_code 5 = .ok (.iaload, 1) := by decide +kernel
theorem d_Nt_inputsOf_6 : decode prog_4_method_3_code 6 = .ok (.ireturn, 1) := by decide +kernel
set_option maxRecDepth 20000 in
set_option maxHeartbeats 4000000 in
theorem cN_inputsOf (E : fk_E) (n0 : Nat) (n1 : Nat) (n2 : Nat) (n3 : Nat) (n4 : Nat) (cnt : Nat) (fi : Nat) (la : Nat) (lo : Nat) (me : Nat) (ins : Nat → Nat) (k : Nat) (hk : k < 14) : fk_C E fy_Nt_inputsOf prog_4_method_3_code 2 (some .int) 0 0 0 [.ref n0, .int (nI k)] [(n0, .inr (2, [.ref n1, .ref n2, .ref n3, .ref n4, .int (nI cnt), .int (nI fi), .int (nI la), .int (nI lo), .int (nI me)])), fk_ai E n1 14 ins] (S := Unit) (fun _ => some (.int (nI (ins k)))) (fun _ => True) (fun _ => [(n0, .inr (2, [.ref n1, .ref n2, .ref n3, .ref n4, .int (nI cnt), .int (nI fi), .int (nI la), .int (nI lo), .int (nI me)])), fk_ai E n1 14 ins]) := by
  refine fk_enterI (v := fun _ => (nI (ins k))) (by decide) (Nat.le_of_ble_eq_true rfl) (lv0 := [(0, .ref n0), (1, .int (nI k))]) rfl ?_
  intro K hini hret
  refine fk_aload_n 0 d_Nt_inputsOf_0 rfl ?_
  refine fk_get 0 0 rfl rfl fh_Nt (Nat.le_of_ble_eq_true rfl) fw_44 rfl d_Nt_inputsOf_1 ?_
  refine fk_iload_n 1 d_Nt_inputsOf_4 rfl ?_
  refine fk_ld_ai (i := k) 1 rfl (by omega) (by decide) d_Nt_inputsOf_5 ?_
  exact hret (0, 0) _ 6 _ () d_Nt_inputsOf_6 (trivial) (rfl)
theorem d_Nt_outputsOf_0 : decode prog_4_method_4_code 0 = .ok (.aload_n 0, 1) := by decide +kernel
theorem d_Nt_outputsOf_1 : decode prog_4_method_4_code 1 = .ok (.getfield 15, 3) := by decide +kernel
theorem d_Nt_outputsOf_4 : decode prog_4_method_4_code 4 = .ok (.iload_n 1, 1) := by decide +kernel
theorem d_Nt_outputsOf_5 : decode prog_4_method_4_code 5 = .ok (.iaload, 1) := by decide +kernel
theorem d_Nt_outputsOf_6 : decode prog_4_method_4_code 6 = .ok (.ireturn, 1) := by decide +kernel
set_option maxRecDepth 20000 in
set_option maxHeartbeats 4000000 in
theorem cN_outputsOf (E : fk_E) (n0 : Nat) (n1 : Nat) (n2 : Nat) (n3 : Nat) (n4 : Nat) (cnt : Nat) (fi : Nat) (la : Nat) (lo : Nat) (me : Nat) (outs : Nat → Nat) (k : Nat) (hk : k < 14) : fk_C E fy_Nt_outputsOf prog_4_method_4_code 2 (some .int) 0 0 0 [.ref n0, .int (nI k)] [(n0, .inr (2, [.ref n1, .ref n2, .ref n3, .ref n4, .int (nI cnt), .int (nI fi), .int (nI la), .int (nI lo), .int (nI me)])), fk_ai E n2 14 outs] (S := Unit) (fun _ => some (.int (nI (outs k)))) (fun _ => True) (fun _ => [(n0, .inr (2, [.ref n1, .ref n2, .ref n3, .ref n4, .int (nI cnt), .int (nI fi), .int (nI la), .int (nI lo), .int (nI me)])), fk_ai E n2 14 outs]) := by
  refine fk_enterI (v := fun _ => (nI (outs k))) (by decide) (Nat.le_of_ble_eq_true rfl) (lv0 := [(0, .ref n0), (1, .int (nI k))]) rfl ?_
  intro K hini hret
  refine fk_aload_n 0 d_Nt_outputsOf_0 rfl ?_
  refine fk_get 0 1 rfl rfl fh_Nt (Nat.le_of_ble_eq_true rfl) fw_45 rfl d_Nt_outputsOf_1 ?_
  refine fk_iload_n 1 d_Nt_outputsOf_4 rfl ?_
  refine fk_ld_ai (i := k) 1 rfl (by omega) (by decide) d_Nt_outputsOf_5 ?_
  exact hret (0, 0) _ 6 _ () d_Nt_outputsOf_6 (trivial) (rfl)
theorem d_Nt_hasPlace_0 : decode prog_4_method_8_code 0 = .ok (.iconst 0, 1) := by decide +kernel
theorem d_Nt_hasPlace_1 : decode prog_4_method_8_code 1 = .ok (.istore_n 3, 1) := by decide +kernel
theorem d_Nt_hasPlace_2 : decode prog_4_method_8_code 2 = .ok (.iload_n 3, 1) := by decide +kernel
theorem d_Nt_hasPlace_3 : decode prog_4_method_8_code 3 = .ok (.aload_n 0, 1) := by decide +kernel
theorem d_Nt_hasPlace_4 : decode prog_4_method_8_code 4 = .ok (.getfield 25, 3) := by decide +kernel
theorem d_Nt_hasPlace_7 : decode prog_4_method_8_code 7 = .ok (.if_icmp .ge 31, 3) := by decide +kernel
theorem d_Nt_hasPlace_10 : decode prog_4_method_8_code 10 = .ok (.aload_n 0, 1) := by decide +kernel
theorem d_Nt_hasPlace_11 : decode prog_4_method_8_code 11 = .ok (.getfield 9, 3) := by decide +kernel
theorem d_Nt_hasPlace_14 : decode prog_4_method_8_code 14 = .ok (.iload_n 3, 1) := by decide +kernel
theorem d_Nt_hasPlace_15 : decode prog_4_method_8_code 15 = .ok (.iaload, 1) := by decide +kernel
theorem d_Nt_hasPlace_16 : decode prog_4_method_8_code 16 = .ok (.iload_n 1, 1) := by decide +kernel
theorem d_Nt_hasPlace_17 : decode prog_4_method_8_code 17 = .ok (.if_icmp .ne 15, 3) := by decide +kernel
theorem d_Nt_hasPlace_20 : decode prog_4_method_8_code 20 = .ok (.aload_n 0, 1) := by decide +kernel
theorem d_Nt_hasPlace_21 : decode prog_4_method_8_code 21 = .ok (.getfield 15, 3) := by decide +kernel
theorem d_Nt_hasPlace_24 : decode prog_4_method_8_code 24 = .ok (.iload_n 3, 1) := by decide +kernel
theorem d_Nt_hasPlace_25 : decode prog_4_method_8_code 25 = .ok (.iaload, 1) := by decide +kernel
theorem d_Nt_hasPlace_26 : decode prog_4_method_8_code 26 = .ok (.iload_n 2, 1) := by decide +kernel
theorem d_Nt_hasPlace_27 : decode prog_4_method_8_code 27 = .ok (.if_icmp .ne 5, 3) := by decide +kernel
theorem d_Nt_hasPlace_30 : decode prog_4_method_8_code 30 = .ok (.iconst 1, 1) := by decide +kernel
theorem d_Nt_hasPlace_31 : decode prog_4_method_8_code 31 = .ok (.ireturn, 1) := by decide +kernel
theorem d_Nt_hasPlace_32 : decode prog_4_method_8_code 32 = .ok (.iinc 3 1, 3) := by decide +kernel
theorem d_Nt_hasPlace_35 : decode prog_4_method_8_code 35 = .ok (.goto (-33), 3) := by decide +kernel
theorem d_Nt_hasPlace_38 : decode prog_4_method_8_code 38 = .ok (.iconst 0, 1) := by decide +kernel
theorem d_Nt_hasPlace_39 : decode prog_4_method_8_code 39 = .ok (.ireturn, 1) := by decide +kernel
set_option maxRecDepth 20000 in
set_option maxHeartbeats 4000000 in
theorem cN_hasPlace (E : fk_E) (n0 : Nat) (n1 : Nat) (n2 : Nat) (n3 : Nat) (n4 : Nat) (cnt : Nat) (fi : Nat) (la : Nat) (lo : Nat) (me : Nat) (ins : Nat → Nat) (outs : Nat → Nat) (i : Nat) (o : Nat) (hc : cnt ≤ 14) (hb : ∀ j, j < cnt → ins j < 128 ∧ outs j < 128) (hi : i < 128) (ho : o < 128) : fk_C E fy_Nt_hasPlace prog_4_method_8_code 4 (some .boolean) 0 0 0 [.ref n0, .int (nI i), .int (nI o)] [(n0, .inr (2, [.ref n1, .ref n2, .ref n3, .ref n4, .int (nI cnt), .int (nI fi), .int (nI la), .int (nI lo), .int (nI me)])), fk_ai E n1 14 ins, fk_ai E n2 14 outs] (S := Unit) (fun _ => some (.int (nI (Bool.toNat (fs_any (fun z9 => decide (ins z9 = i) && decide (outs z9 = o)) cnt))))) (fun _ => True) (fun _ => [(n0, .inr (2, [.ref n1, .ref n2, .ref n3, .ref n4, .int (nI cnt), .int (nI fi), .int (nI la), .int (nI lo), .int (nI me)])), fk_ai E n1 14 ins, fk_ai E n2 14 outs]) := by
  refine fk_enterZ (v := fun _ => fs_any (fun z9 => decide (ins z9 = i) && decide (outs z9 = o)) cnt) (by decide) (Nat.le_of_ble_eq_true rfl) (lv0 := [(0, .ref n0), (1, .int (nI i)), (2, .int (nI o))]) rfl ?_
  intro K hini hret
  refine fk_iconst (v := nI 0) d_Nt_hasPlace_0 (by decide +kernel) ?_
  refine fk_istore_n (lv' := [(0, .ref n0), (1, .int (nI i)), (2, .int (nI o)), (3, .int (nI 0))]) d_Nt_hasPlace_1 rfl (Nat.le_of_ble_eq_true rfl) [1, 2, 3, 0] rfl ?_
  have L2 : ∀ (fuel : Nat) (k : Nat), (k ≤ cnt) → (∀ j, j < k → (decide (ins j = i) && decide (outs j = o)) = false) → cnt - k < fuel → fk_V E (prog_4_method_8_code, fy_Nt_hasPlace.cls, 4, fk_rm 0 0 0) K (0, 0) [(n0, .inr (2, [.ref n1, .ref n2, .ref n3, .ref n4, .int (nI cnt), .int (nI fi), .int (nI la), .int (nI lo), .int (nI me)])), fk_ai E n1 14 ins, fk_ai E n2 14 outs] 2 [(0, .ref n0), (1, .int (nI i)), (2, .int (nI o)), (3, .int (nI k))] [] := by
    intro fuel
    induction fuel with
    | zero => intro k _ _ hm; exact absurd hm (Nat.not_lt_zero _)
    | succ fuel ih =>
      intro k h1 h2 hm2
      have ih2 := ih
      clear ih
      refine fk_iload_n 3 d_Nt_hasPlace_2 rfl ?_
      refine fk_aload_n 0 d_Nt_hasPlace_3 rfl ?_
      refine fk_get 0 4 rfl rfl fh_Nt (Nat.le_of_ble_eq_true rfl) fw_48 rfl d_Nt_hasPlace_4 ?_
      refine fk_icmp_ge (a := k) (b := cnt) (by omega) (by omega) d_Nt_hasPlace_7 rfl (fun h7t => ?_) (fun h7f => ?_)
      · refine fk_iconst (v := nI 0) d_Nt_hasPlace_38 (by decide +kernel) ?_
        refine fk_top (fn_rf (b := fs_any (fun z9 => decide (ins z9 = i) && decide (outs z9 = o)) cnt) (fs_any_f.mpr (fun j hj => h2 j (by omega)))) ?_
        exact hret (0, 0) _ 39 _ () d_Nt_hasPlace_39 (trivial) (rfl)
      · have h9 := hb k (by omega)
        refine fk_aload_n 0 d_Nt_hasPlace_10 rfl ?_
        refine fk_get 0 0 rfl rfl fh_Nt (Nat.le_of_ble_eq_true rfl) fw_44 rfl d_Nt_hasPlace_11 ?_
        refine fk_iload_n 3 d_Nt_hasPlace_14 rfl ?_
        refine fk_ld_ai (i := k) 1 rfl (by omega) (by decide) d_Nt_hasPlace_15 ?_
        refine fk_iload_n 1 d_Nt_hasPlace_16 rfl ?_
        refine fk_icmp_ne (a := (ins k)) (b := i) (by omega) (by omega) d_Nt_hasPlace_17 rfl (fun h17t => ?_) (fun h17f => ?_)
        · refine fk_iinc (j := 3) (lv' := [(0, .ref n0), (1, .int (nI i)), (2, .int (nI o)), (3, .int (nI (k + 1)))]) (k + 1) d_Nt_hasPlace_32 rfl (nI_1 k) (Nat.le_of_ble_eq_true rfl) [1, 2, 3, 0] rfl ?_
          refine fk_goto d_Nt_hasPlace_35 rfl ?_
          refine ih2 _ ?_ ?_ ?_
          · first | omega | assumption | exact Nat.zero_le _
          · intro j hj
            rcases Nat.lt_or_ge j k with q | q
            · exact h2 j q
            · rw [show j = k by omega]
              first | rw [decide_eq_false h17t, Bool.false_and] | rw [decide_eq_false h27t, Bool.and_false]
          · omega
        · refine fk_aload_n 0 d_Nt_hasPlace_20 rfl ?_
          refine fk_get 0 1 rfl rfl fh_Nt (Nat.le_of_ble_eq_true rfl) fw_45 rfl d_Nt_hasPlace_21 ?_
          refine fk_iload_n 3 d_Nt_hasPlace_24 rfl ?_
          refine fk_ld_ai (i := k) 2 rfl (by omega) (by decide) d_Nt_hasPlace_25 ?_
          refine fk_iload_n 2 d_Nt_hasPlace_26 rfl ?_
          refine fk_icmp_ne (a := (outs k)) (b := o) (by omega) (by omega) d_Nt_hasPlace_27 rfl (fun h27t => ?_) (fun h27f => ?_)
          · refine fk_iinc (j := 3) (lv' := [(0, .ref n0), (1, .int (nI i)), (2, .int (nI o)), (3, .int (nI (k + 1)))]) (k + 1) d_Nt_hasPlace_32 rfl (nI_1 k) (Nat.le_of_ble_eq_true rfl) [1, 2, 3, 0] rfl ?_
            refine fk_goto d_Nt_hasPlace_35 rfl ?_
            refine ih2 _ ?_ ?_ ?_
            · first | omega | assumption | exact Nat.zero_le _
            · intro j hj
              rcases Nat.lt_or_ge j k with q | q
              · exact h2 j q
              · rw [show j = k by omega]
                first | rw [decide_eq_false h17t, Bool.false_and] | rw [decide_eq_false h27t, Bool.and_false]
            · omega
          · refine fk_iconst (v := nI 1) d_Nt_hasPlace_30 (by decide +kernel) ?_
            refine fk_top (fn_rt (b := fs_any (fun z9 => decide (ins z9 = i) && decide (outs z9 = o)) cnt) (fs_any_t h7f (by rw [decide_eq_true h17f, decide_eq_true h27f]; rfl))) ?_
            exact hret (0, 0) _ 31 _ () d_Nt_hasPlace_31 (trivial) (rfl)
  refine L2 _ _ ?_ ?_ (Nat.lt_succ_self _)
  · first | omega | assumption | exact Nat.zero_le _
  · exact fun j hj => absurd hj (Nat.not_lt_zero j)
theorem d_Nt_connect_0 : decode prog_4_method_14_code 0 = .ok (.aload_n 0, 1) := by decide +kernel
theorem d_Nt_connect_1 : decode prog_4_method_14_code 1 = .ok (.dup, 1) := by decide +kernel
theorem d_Nt_connect_2 : decode prog_4_method_14_code 2 = .ok (.getfield 38, 3) := by decide +kernel
theorem d_Nt_connect_5 : decode prog_4_method_14_code 5 = .ok (.iload_n 1, 1) := by decide +kernel
theorem d_Nt_connect_6 : decode prog_4_method_14_code 6 = .ok (.iload_n 2, 1) := by decide +kernel
theorem d_Nt_connect_7 : decode prog_4_method_14_code 7 = .ok (.ior, 1) := by decide +kernel
theorem d_Nt_connect_8 : decode prog_4_method_14_code 8 = .ok (.ior, 1) := by decide +kernel
theorem d_Nt_connect_9 : decode prog_4_method_14_code 9 = .ok (.putfield 38, 3) := by decide +kernel
theorem d_Nt_connect_12 : decode prog_4_method_14_code 12 = .ok (.iconst 0, 1) := by decide +kernel
theorem d_Nt_connect_13 : decode prog_4_method_14_code 13 = .ok (.istore 5, 2) := by decide +kernel
theorem d_Nt_connect_15 : decode prog_4_method_14_code 15 = .ok (.iload 5, 2) := by decide +kernel
theorem d_Nt_connect_17 : decode prog_4_method_14_code 17 = .ok (.bipush 7, 2) := by decide +kernel
theorem d_Nt_connect_19 : decode prog_4_method_14_code 19 = .ok (.if_icmp .ge 49, 3) := by decide +kernel
theorem d_Nt_connect_22 : decode prog_4_method_14_code 22 = .ok (.iload 5, 2) := by decide +kernel
theorem d_Nt_connect_24 : decode prog_4_method_14_code 24 = .ok (.iload_n 1, 1) := by decide +kernel
theorem d_Nt_connect_25 : decode prog_4_method_14_code 25 = .ok (.invokestatic 60, 3) := by decide +kernel
theorem d_Nt_connect_28 : decode prog_4_method_14_code 28 = .ok (.ifCond .eq 14, 3) := by decide +kernel
theorem d_Nt_connect_31 : decode prog_4_method_14_code 31 = .ok (.aload_n 0, 1) := by decide +kernel
theorem d_Nt_connect_32 : decode prog_4_method_14_code 32 = .ok (.getfield 22, 3) := by decide +kernel
theorem d_Nt_connect_35 : decode prog_4_method_14_code 35 = .ok (.iload 5, 2) := by decide +kernel
theorem d_Nt_connect_37 : decode prog_4_method_14_code 37 = .ok (.dup2, 1) := by decide +kernel
theorem d_Nt_connect_38 : decode prog_4_method_14_code 38 = .ok (.laload, 1) := by decide +kernel
theorem d_Nt_connect_39 : decode prog_4_method_14_code 39 = .ok (.lload_n 3, 1) := by decide +kernel
theorem d_Nt_connect_40 : decode prog_4_method_14_code 40 = .ok (.lor, 1) := by decide +kernel
theorem d_Nt_connect_41 : decode prog_4_method_14_code 41 = .ok (.lastore, 1) := by decide +kernel
theorem d_Nt_connect_42 : decode prog_4_method_14_code 42 = .ok (.iload 5, 2) := by decide +kernel
theorem d_Nt_connect_44 : decode prog_4_method_14_code 44 = .ok (.iload_n 2, 1) := by decide +kernel
theorem d_Nt_connect_45 : decode prog_4_method_14_code 45 = .ok (.invokestatic 60, 3) := by decide +kernel
theorem d_Nt_connect_48 : decode prog_4_method_14_code 48 = .ok (.ifCond .eq 14, 3) := by decide +kernel
theorem d_Nt_connect_51 : decode prog_4_method_14_code 51 = .ok (.aload_n 0, 1) := by decide +kernel
theorem d_Nt_connect_52 : decode prog_4_method_14_code 52 = .ok (.getfield 18, 3) := by decide +kernel
theorem d_Nt_connect_55 : decode prog_4_method_14_code 55 = .ok (.iload 5, 2) := by decide +kernel
theorem d_Nt_connect_57 : decode prog_4_method_14_code 57 = .ok (.dup2, 1) := by decide +kernel
theorem d_Nt_connect_58 : decode prog_4_method_14_code 58 = .ok (.laload, 1) := by decide +kernel
theorem d_Nt_connect_59 : decode prog_4_method_14_code 59 = .ok (.lload_n 3, 1) := by decide +kernel
theorem d_Nt_connect_60 : decode prog_4_method_14_code 60 = .ok (.lor, 1) := by decide +kernel
theorem d_Nt_connect_61 : decode prog_4_method_14_code 61 = .ok (.lastore, 1) := by decide +kernel
theorem d_Nt_connect_62 : decode prog_4_method_14_code 62 = .ok (.iinc 5 1, 3) := by decide +kernel
theorem d_Nt_connect_65 : decode prog_4_method_14_code 65 = .ok (.goto (-50), 3) := by decide +kernel
theorem d_Nt_connect_68 : decode prog_4_method_14_code 68 = .ok (.return_, 1) := by decide +kernel
set_option maxRecDepth 20000 in
set_option maxHeartbeats 4000000 in
theorem cN_connect (E : fk_E) (n0 : Nat) (n1 : Nat) (n2 : Nat) (n3 : Nat) (n4 : Nat) (cnt : Nat) (fi : Nat) (la : Nat) (lo : Nat) (me : Nat) (tk : Nat → Nat) (pu : Nat → Nat) (ip : Nat) (op : Nat) (tok : Nat) (hm : me < 128) (hi : ip < 128) (ho : op < 128) (ht : tok < 2 ^ 64) (hk : ∀ a, a < 7 → tk a < 2 ^ 64) (hu : ∀ a, a < 7 → pu a < 2 ^ 64) : fk_C E fy_Nt_connect prog_4_method_14_code 6 none 1 0 0 [.ref n0, .int (nI ip), .int (nI op), .long (lN tok)] [(n0, .inr (2, [.ref n1, .ref n2, .ref n3, .ref n4, .int (nI cnt), .int (nI fi), .int (nI la), .int (nI lo), .int (nI me)])), fk_al E n3 7 tk, fk_al E n4 7 pu] (S := (Nat → Nat) × (Nat → Nat)) (fun (u : (Nat → Nat) × (Nat → Nat)) => none) (fun (u : (Nat → Nat) × (Nat → Nat)) => ∀ a, a < 7 → u.1 a = (if Nat.testBit op a = true then tk a ||| tok else tk a) ∧ u.2 a = (if Nat.testBit ip a = true then pu a ||| tok else pu a)) (fun (u : (Nat → Nat) × (Nat → Nat)) => [(n0, .inr (2, [.ref n1, .ref n2, .ref n3, .ref n4, .int (nI cnt), .int (nI fi), .int (nI la), .int (nI lo), .int (nI (me ||| (ip ||| op)))])), fk_al E n3 7 u.1, fk_al E n4 7 u.2]) := by
  refine fk_enterV (by decide) (Nat.le_of_ble_eq_true rfl) (lv0 := [(0, .ref n0), (1, .int (nI ip)), (2, .int (nI op)), (3, .long (lN tok))]) rfl ?_
  intro K hini hret
  refine fk_aload_n 0 d_Nt_connect_0 rfl ?_
  refine fk_dup d_Nt_connect_1 rfl ?_
  refine fk_get 0 8 rfl rfl fh_Nt (Nat.le_of_ble_eq_true rfl) fw_52 rfl d_Nt_connect_2 ?_
  refine fk_iload_n 1 d_Nt_connect_5 rfl ?_
  refine fk_iload_n 2 d_Nt_connect_6 rfl ?_
  refine fk_ior (a := ip) (b := op) d_Nt_connect_7 ?_
  refine fk_ior (a := me) (b := (ip ||| op)) d_Nt_connect_8 ?_
  refine fk_put (w' := [(n0, .inr (2, [.ref n1, .ref n2, .ref n3, .ref n4, .int (nI cnt), .int (nI fi), .int (nI la), .int (nI lo), .int (nI (me ||| (ip ||| op)))])), fk_al E n3 7 tk, fk_al E n4 7 pu]) 0 8 fT_Nt fT_Nt_ok fT_Nt_nm rfl rfl fh_Nt (Nat.le_of_ble_eq_true rfl) fw_52 rfl (fT_Nt_ok 8 (Nat.le_of_ble_eq_true rfl)) rfl rfl (Nat.le_of_ble_eq_true rfl) d_Nt_connect_9 rfl ?_
  refine fk_iconst (v := nI 0) d_Nt_connect_12 (by decide +kernel) ?_
  refine fk_istore (lv' := [(0, .ref n0), (1, .int (nI ip)), (2, .int (nI op)), (3, .long (lN tok)), (5, .int (nI 0))]) d_Nt_connect_13 (Nat.le_of_ble_eq_true rfl) [1, 2, 3, 4, 0] rfl ?_
  have L15 : ∀ (fuel : Nat) (i : Nat) (tk1 : Nat → Nat) (pu1 : Nat → Nat), (i ≤ 7) → (∀ a, a < i → tk1 a = (if Nat.testBit op a = true then tk a ||| tok else tk a) ∧ pu1 a = (if Nat.testBit ip a = true then pu a ||| tok else pu a)) → (∀ a, i ≤ a → a < 7 → tk1 a = tk a ∧ pu1 a = pu a) → 7 - i < fuel → fk_V E (prog_4_method_14_code, fy_Nt_connect.cls, 6, fk_rm 1 0 0) K (0, 0) [(n0, .inr (2, [.ref n1, .ref n2, .ref n3, .ref n4, .int (nI cnt), .int (nI fi), .int (nI la), .int (nI lo), .int (nI (me ||| (ip ||| op)))])), fk_al E n3 7 tk1, fk_al E n4 7 pu1] 15 [(0, .ref n0), (1, .int (nI ip)), (2, .int (nI op)), (3, .long (lN tok)), (5, .int (nI i))] [] := by
    intro fuel
    induction fuel with
    | zero => intro i tk1 pu1 _ _ _ hm; exact absurd hm (Nat.not_lt_zero _)
    | succ fuel ih =>
      intro i tk1 pu1 h1 h2 h3 hm15
      have ih15 := ih
      clear ih
      
      refine fk_iload 4 d_Nt_connect_15 rfl ?_
      refine fk_bipush (v := nI 7) d_Nt_connect_17 (by decide +kernel) ?_
      refine fk_icmp_ge (a := i) (b := 7) (by omega) (by omega) d_Nt_connect_19 rfl (fun h19t => ?_) (fun h19f => ?_)
      · exact hret (0, 0) _ 68 _ (tk1, pu1) d_Nt_connect_68 (fun a ha => h2 a (by omega)) (rfl)
      · have h9 := h3 i (Nat.le_refl i) h19f
        have hk9 := hk i h19f
        have hu9 := hu i h19f
        refine fk_iload 4 d_Nt_connect_22 rfl ?_
        refine fk_iload_n 1 d_Nt_connect_24 rfl ?_
        refine fk_callSN (As := [.int (nI i), .int (nI ip)]) (rest := []) (is := []) (ir := [0, 1, 2]) (ip := [0, 1, 2]) (wc := []) (wr := [(n0, .inr (2, [.ref n1, .ref n2, .ref n3, .ref n4, .int (nI cnt), .int (nI fi), .int (nI la), .int (nI lo), .int (nI (me ||| (ip ||| op)))])), fk_al E n3 7 tk1, fk_al E n4 7 pu1]) (w2 := fun _ => [(n0, .inr (2, [.ref n1, .ref n2, .ref n3, .ref n4, .int (nI cnt), .int (nI fi), .int (nI la), .int (nI lo), .int (nI (me ||| (ip ||| op)))])), fk_al E n3 7 tk1, fk_al E n4 7 pu1]) (cF_isIn E i ip (by first | omega | assumption) (by first | omega | assumption)) d_Nt_connect_25 fz_F_isIn fw_279 fw_223 ⟨Nat.le_of_ble_eq_true rfl, Nat.le_of_ble_eq_true rfl⟩ rfl (Nat.le_of_ble_eq_true rfl) ⟨Nat.zero_le _, Nat.zero_le _⟩ ⟨rfl, rfl, rfl, rfl, by decide, fun _ => rfl, rfl⟩ (fun u hu25 => ?_)
        show fk_V E _ K (0, 0) [(n0, .inr (2, [.ref n1, .ref n2, .ref n3, .ref n4, .int (nI cnt), .int (nI fi), .int (nI la), .int (nI lo), .int (nI (me ||| (ip ||| op)))])), fk_al E n3 7 tk1, fk_al E n4 7 pu1] 28 [(0, .ref n0), (1, .int (nI ip)), (2, .int (nI op)), (3, .long (lN tok)), (5, .int (nI i))] [.int (nI (Bool.toNat (Nat.testBit ip i)))]
        refine fk_if_eqB (b := (Nat.testBit ip i)) d_Nt_connect_28 rfl (fun h28t => ?_) (fun h28f => ?_)
        · refine fk_iload 4 d_Nt_connect_42 rfl ?_
          refine fk_iload_n 2 d_Nt_connect_44 rfl ?_
          refine fk_callSN (As := [.int (nI i), .int (nI op)]) (rest := []) (is := []) (ir := [0, 1, 2]) (ip := [0, 1, 2]) (wc := []) (wr := [(n0, .inr (2, [.ref n1, .ref n2, .ref n3, .ref n4, .int (nI cnt), .int (nI fi), .int (nI la), .int (nI lo), .int (nI (me ||| (ip ||| op)))])), fk_al E n3 7 tk1, fk_al E n4 7 pu1]) (w2 := fun _ => [(n0, .inr (2, [.ref n1, .ref n2, .ref n3, .ref n4, .int (nI cnt), .int (nI fi), .int (nI la), .int (nI lo), .int (nI (me ||| (ip ||| op)))])), fk_al E n3 7 tk1, fk_al E n4 7 pu1]) (cF_isIn E i op (by first | omega | assumption) (by first | omega | assumption)) d_Nt_connect_45 fz_F_isIn fw_279 fw_223 ⟨Nat.le_of_ble_eq_true rfl, Nat.le_of_ble_eq_true rfl⟩ rfl (Nat.le_of_ble_eq_true rfl) ⟨Nat.zero_le _, Nat.zero_le _⟩ ⟨rfl, rfl, rfl, rfl, by decide, fun _ => rfl, rfl⟩ (fun u hu45 => ?_)
          show fk_V E _ K (0, 0) [(n0, .inr (2, [.ref n1, .ref n2, .ref n3, .ref n4, .int (nI cnt), .int (nI fi), .int (nI la), .int (nI lo), .int (nI (me ||| (ip ||| op)))])), fk_al E n3 7 tk1, fk_al E n4 7 pu1] 48 [(0, .ref n0), (1, .int (nI ip)), (2, .int (nI op)), (3, .long (lN tok)), (5, .int (nI i))] [.int (nI (Bool.toNat (Nat.testBit op i)))]
          refine fk_if_eqB (b := (Nat.testBit op i)) d_Nt_connect_48 rfl (fun h48t => ?_) (fun h48f => ?_)
          · refine fk_iinc (j := 4) (lv' := [(0, .ref n0), (1, .int (nI ip)), (2, .int (nI op)), (3, .long (lN tok)), (5, .int (nI (i + 1)))]) (i + 1) d_Nt_connect_62 rfl (nI_1 i) (Nat.le_of_ble_eq_true rfl) [1, 2, 3, 4, 0] rfl ?_
            refine fk_goto d_Nt_connect_65 rfl ?_
            refine ih15 _ _ _ ?_ ?_ ?_ ?_
            · first | omega | assumption | exact Nat.zero_le _
            · intro a ha
              rcases Nat.lt_or_ge a i with q | q
              · have q9 := h2 a q
                first | exact q9 | (simp only [va_up, if_neg (show ¬ a = i by omega)]; exact q9)
              · have e : a = i := by omega
                subst e
                simp [va_up, *]
            · intro a ha hb
              have q9 := h3 a (by omega) hb
              first | exact q9 | (simp only [va_up, if_neg (show ¬ a = i by omega)]; exact q9)
            · omega
          · refine fk_aload_n 0 d_Nt_connect_51 rfl ?_
            refine fk_get 0 2 rfl rfl fh_Nt (Nat.le_of_ble_eq_true rfl) fw_46 rfl d_Nt_connect_52 ?_
            refine fk_iload 4 d_Nt_connect_55 rfl ?_
            refine fk_dup2 d_Nt_connect_57 rfl rfl ?_
            refine fk_ld_al (i := i) 1 rfl (by omega) (by decide) d_Nt_connect_58 ?_
            refine fk_lload_n 3 d_Nt_connect_59 rfl ?_
            refine fk_lorR d_Nt_connect_60 ?_
            refine fk_topl (show lN (tk1 i) ||| lN tok = lN ((tk1 i) ||| tok) from fn_lor (by rw [h9.1]; exact hk9) (ht)) ?_
            refine fk_st_al (i := i) (x := ((tk1 i) ||| tok)) (w' := [(n0, .inr (2, [.ref n1, .ref n2, .ref n3, .ref n4, .int (nI cnt), .int (nI fi), .int (nI la), .int (nI lo), .int (nI (me ||| (ip ||| op)))])), fk_al E n3 7 (va_up tk1 i ((tk1 i) ||| tok)), fk_al E n4 7 pu1]) 1 rfl (by omega) (by decide) d_Nt_connect_61 rfl ?_
            refine fk_iinc (j := 4) (lv' := [(0, .ref n0), (1, .int (nI ip)), (2, .int (nI op)), (3, .long (lN tok)), (5, .int (nI (i + 1)))]) (i + 1) d_Nt_connect_62 rfl (nI_1 i) (Nat.le_of_ble_eq_true rfl) [1, 2, 3, 4, 0] rfl ?_
            refine fk_goto d_Nt_connect_65 rfl ?_
            refine ih15 _ _ _ ?_ ?_ ?_ ?_
            · first | omega | assumption | exact Nat.zero_le _
            · intro a ha
              rcases Nat.lt_or_ge a i with q | q
              · have q9 := h2 a q
                first | exact q9 | (simp only [va_up, if_neg (show ¬ a = i by omega)]; exact q9)
              · have e : a = i := by omega
                subst e
                simp [va_up, *]
            · intro a ha hb
              have q9 := h3 a (by omega) hb
              first | exact q9 | (simp only [va_up, if_neg (show ¬ a = i by omega)]; exact q9)
            · omega
        · refine fk_aload_n 0 d_Nt_connect_31 rfl ?_
          refine fk_get 0 3 rfl rfl fh_Nt (Nat.le_of_ble_eq_true rfl) fw_47 rfl d_Nt_connect_32 ?_
          refine fk_iload 4 d_Nt_connect_35 rfl ?_
          refine fk_dup2 d_Nt_connect_37 rfl rfl ?_
          refine fk_ld_al (i := i) 2 rfl (by omega) (by decide) d_Nt_connect_38 ?_
          refine fk_lload_n 3 d_Nt_connect_39 rfl ?_
          refine fk_lorR d_Nt_connect_40 ?_
          refine fk_topl (show lN (pu1 i) ||| lN tok = lN ((pu1 i) ||| tok) from fn_lor (by rw [h9.2]; exact hu9) (ht)) ?_
          refine fk_st_al (i := i) (x := ((pu1 i) ||| tok)) (w' := [(n0, .inr (2, [.ref n1, .ref n2, .ref n3, .ref n4, .int (nI cnt), .int (nI fi), .int (nI la), .int (nI lo), .int (nI (me ||| (ip ||| op)))])), fk_al E n3 7 tk1, fk_al E n4 7 (va_up pu1 i ((pu1 i) ||| tok))]) 2 rfl (by omega) (by decide) d_Nt_connect_41 rfl ?_
          refine fk_iload 4 d_Nt_connect_42 rfl ?_
          refine fk_iload_n 2 d_Nt_connect_44 rfl ?_
          refine fk_callSN (As := [.int (nI i), .int (nI op)]) (rest := []) (is := []) (ir := [0, 1, 2]) (ip := [0, 1, 2]) (wc := []) (wr := [(n0, .inr (2, [.ref n1, .ref n2, .ref n3, .ref n4, .int (nI cnt), .int (nI fi), .int (nI la), .int (nI lo), .int (nI (me ||| (ip ||| op)))])), fk_al E n3 7 tk1, fk_al E n4 7 (va_up pu1 i ((pu1 i) ||| tok))]) (w2 := fun _ => [(n0, .inr (2, [.ref n1, .ref n2, .ref n3, .ref n4, .int (nI cnt), .int (nI fi), .int (nI la), .int (nI lo), .int (nI (me ||| (ip ||| op)))])), fk_al E n3 7 tk1, fk_al E n4 7 (va_up pu1 i ((pu1 i) ||| tok))]) (cF_isIn E i op (by first | omega | assumption) (by first | omega | assumption)) d_Nt_connect_45 fz_F_isIn fw_279 fw_223 ⟨Nat.le_of_ble_eq_true rfl, Nat.le_of_ble_eq_true rfl⟩ rfl (Nat.le_of_ble_eq_true rfl) ⟨Nat.zero_le _, Nat.zero_le _⟩ ⟨rfl, rfl, rfl, rfl, by decide, fun _ => rfl, rfl⟩ (fun u hu45 => ?_)
          show fk_V E _ K (0, 0) [(n0, .inr (2, [.ref n1, .ref n2, .ref n3, .ref n4, .int (nI cnt), .int (nI fi), .int (nI la), .int (nI lo), .int (nI (me ||| (ip ||| op)))])), fk_al E n3 7 tk1, fk_al E n4 7 (va_up pu1 i ((pu1 i) ||| tok))] 48 [(0, .ref n0), (1, .int (nI ip)), (2, .int (nI op)), (3, .long (lN tok)), (5, .int (nI i))] [.int (nI (Bool.toNat (Nat.testBit op i)))]
          refine fk_if_eqB (b := (Nat.testBit op i)) d_Nt_connect_48 rfl (fun h48t => ?_) (fun h48f => ?_)
          · refine fk_iinc (j := 4) (lv' := [(0, .ref n0), (1, .int (nI ip)), (2, .int (nI op)), (3, .long (lN tok)), (5, .int (nI (i + 1)))]) (i + 1) d_Nt_connect_62 rfl (nI_1 i) (Nat.le_of_ble_eq_true rfl) [1, 2, 3, 4, 0] rfl ?_
            refine fk_goto d_Nt_connect_65 rfl ?_
            refine ih15 _ _ _ ?_ ?_ ?_ ?_
            · first | omega | assumption | exact Nat.zero_le _
            · intro a ha
              rcases Nat.lt_or_ge a i with q | q
              · have q9 := h2 a q
                first | exact q9 | (simp only [va_up, if_neg (show ¬ a = i by omega)]; exact q9)
              · have e : a = i := by omega
                subst e
                simp [va_up, *]
            · intro a ha hb
              have q9 := h3 a (by omega) hb
              first | exact q9 | (simp only [va_up, if_neg (show ¬ a = i by omega)]; exact q9)
            · omega
          · refine fk_aload_n 0 d_Nt_connect_51 rfl ?_
            refine fk_get 0 2 rfl rfl fh_Nt (Nat.le_of_ble_eq_true rfl) fw_46 rfl d_Nt_connect_52 ?_
            refine fk_iload 4 d_Nt_connect_55 rfl ?_
            refine fk_dup2 d_Nt_connect_57 rfl rfl ?_
            refine fk_ld_al (i := i) 1 rfl (by omega) (by decide) d_Nt_connect_58 ?_
            refine fk_lload_n 3 d_Nt_connect_59 rfl ?_
            refine fk_lorR d_Nt_connect_60 ?_
            refine fk_topl (show lN (tk1 i) ||| lN tok = lN ((tk1 i) ||| tok) from fn_lor (by rw [h9.1]; exact hk9) (ht)) ?_
            refine fk_st_al (i := i) (x := ((tk1 i) ||| tok)) (w' := [(n0, .inr (2, [.ref n1, .ref n2, .ref n3, .ref n4, .int (nI cnt), .int (nI fi), .int (nI la), .int (nI lo), .int (nI (me ||| (ip ||| op)))])), fk_al E n3 7 (va_up tk1 i ((tk1 i) ||| tok)), fk_al E n4 7 (va_up pu1 i ((pu1 i) ||| tok))]) 1 rfl (by omega) (by decide) d_Nt_connect_61 rfl ?_
            refine fk_iinc (j := 4) (lv' := [(0, .ref n0), (1, .int (nI ip)), (2, .int (nI op)), (3, .long (lN tok)), (5, .int (nI (i + 1)))]) (i + 1) d_Nt_connect_62 rfl (nI_1 i) (Nat.le_of_ble_eq_true rfl) [1, 2, 3, 4, 0] rfl ?_
            refine fk_goto d_Nt_connect_65 rfl ?_
            refine ih15 _ _ _ ?_ ?_ ?_ ?_
            · first | omega | assumption | exact Nat.zero_le _
            · intro a ha
              rcases Nat.lt_or_ge a i with q | q
              · have q9 := h2 a q
                first | exact q9 | (simp only [va_up, if_neg (show ¬ a = i by omega)]; exact q9)
              · have e : a = i := by omega
                subst e
                simp [va_up, *]
            · intro a ha hb
              have q9 := h3 a (by omega) hb
              first | exact q9 | (simp only [va_up, if_neg (show ¬ a = i by omega)]; exact q9)
            · omega
  refine L15 _ _ _ _ ?_ ?_ ?_ (Nat.lt_succ_self _)
  · first | omega | assumption | exact Nat.zero_le _
  · exact fun j hj => absurd hj (Nat.not_lt_zero j)
  · exact fun a _ _ => ⟨rfl, rfl⟩
theorem d_Nt_prepareFiring_0 : decode prog_4_method_13_code 0 = .ok (.aload_n 0, 1) := by decide +kernel
theorem d_Nt_prepareFiring_1 : decode prog_4_method_13_code 1 = .ok (.aload_n 0, 1) := by decide +kernel
theorem d_Nt_prepareFiring_2 : decode prog_4_method_13_code 2 = .ok (.getfield 35, 3) := by decide +kernel
theorem d_Nt_prepareFiring_5 : decode prog_4_method_13_code 5 = .ok (.putfield 38, 3) := by decide +kernel
theorem d_Nt_prepareFiring_8 : decode prog_4_method_13_code 8 = .ok (.aload_n 0, 1) := by decide +kernel
theorem d_Nt_prepareFiring_9 : decode prog_4_method_13_code 9 = .ok (.getfield 18, 3) := by decide +kernel
theorem d_Nt_prepareFiring_12 : decode prog_4_method_13_code 12 = .ok (.lconst 0, 1) := by decide +kernel
theorem d_Nt_prepareFiring_13 : decode prog_4_method_13_code 13 = .ok (.invokestatic 48, 3) := by decide +kernel
theorem d_Nt_prepareFiring_16 : decode prog_4_method_13_code 16 = .ok (.aload_n 0, 1) := by decide +kernel
theorem d_Nt_prepareFiring_17 : decode prog_4_method_13_code 17 = .ok (.getfield 22, 3) := by decide +kernel
theorem d_Nt_prepareFiring_20 : decode prog_4_method_13_code 20 = .ok (.lconst 0, 1) := by decide +kernel
theorem d_Nt_prepareFiring_21 : decode prog_4_method_13_code 21 = .ok (.invokestatic 48, 3) := by decide +kernel
theorem d_Nt_prepareFiring_24 : decode prog_4_method_13_code 24 = .ok (.aload_n 0, 1) := by decide +kernel
theorem d_Nt_prepareFiring_25 : decode prog_4_method_13_code 25 = .ok (.iconst 0, 1) := by decide +kernel
theorem d_Nt_prepareFiring_26 : decode prog_4_method_13_code 26 = .ok (.aload_n 0, 1) := by decide +kernel
theorem d_Nt_prepareFiring_27 : decode prog_4_method_13_code 27 = .ok (.getfield 29, 3) := by decide +kernel
theorem d_Nt_prepareFiring_30 : decode prog_4_method_13_code 30 = .ok (.lconst 1, 1) := by decide +kernel
theorem d_Nt_prepareFiring_31 : decode prog_4_method_13_code 31 = .ok (.invokevirtual 54, 3) := by decide +kernel
theorem d_Nt_prepareFiring_34 : decode prog_4_method_13_code 34 = .ok (.aload_n 0, 1) := by decide +kernel
theorem d_Nt_prepareFiring_35 : decode prog_4_method_13_code 35 = .ok (.aload_n 0, 1) := by decide +kernel
theorem d_Nt_prepareFiring_36 : decode prog_4_method_13_code 36 = .ok (.getfield 32, 3) := by decide +kernel
theorem d_Nt_prepareFiring_39 : decode prog_4_method_13_code 39 = .ok (.iconst 0, 1) := by decide +kernel
theorem d_Nt_prepareFiring_40 : decode prog_4_method_13_code 40 = .ok (.ldc2_w 58, 3) := by decide +kernel
theorem d_Nt_prepareFiring_43 : decode prog_4_method_13_code 43 = .ok (.invokevirtual 54, 3) := by decide +kernel
theorem d_Nt_prepareFiring_46 : decode prog_4_method_13_code 46 = .ok (.iconst 0, 1) := by decide +kernel
theorem d_Nt_prepareFiring_47 : decode prog_4_method_13_code 47 = .ok (.istore_n 1, 1) := by decide +kernel
theorem d_Nt_prepareFiring_48 : decode prog_4_method_13_code 48 = .ok (.iload_n 1, 1) := by decide +kernel
theorem d_Nt_prepareFiring_49 : decode prog_4_method_13_code 49 = .ok (.aload_n 0, 1) := by decide +kernel
theorem d_Nt_prepareFiring_50 : decode prog_4_method_13_code 50 = .ok (.getfield 25, 3) := by decide +kernel
theorem d_Nt_prepareFiring_53 : decode prog_4_method_13_code 53 = .ok (.if_icmp .ge 32, 3) := by decide +kernel
theorem d_Nt_prepareFiring_56 : decode prog_4_method_13_code 56 = .ok (.aload_n 0, 1) := by decide +kernel
theorem d_Nt_prepareFiring_57 : decode prog_4_method_13_code 57 = .ok (.aload_n 0, 1) := by decide +kernel
theorem d_Nt_prepareFiring_58 : decode prog_4_method_13_code 58 = .ok (.getfield 9, 3) := by decide +kernel
theorem d_Nt_prepareFiring_61 : decode prog_4_method_13_code 61 = .ok (.iload_n 1, 1) := by decide +kernel
theorem d_Nt_prepareFiring_62 : decode prog_4_method_13_code 62 = .ok (.iaload, 1) := by decide +kernel
theorem d_Nt_prepareFiring_63 : decode prog_4_method_13_code 63 = .ok (.aload_n 0, 1) := by decide +kernel
theorem d_Nt_prepareFiring_64 : decode prog_4_method_13_code 64 = .ok (.getfield 15, 3) := by decide +kernel
theorem d_Nt_prepareFiring_67 : decode prog_4_method_13_code 67 = .ok (.iload_n 1, 1) := by decide +kernel
theorem d_Nt_prepareFiring_68 : decode prog_4_method_13_code 68 = .ok (.iaload, 1) := by decide +kernel
theorem d_Nt_prepareFiring_69 : decode prog_4_method_13_code 69 = .ok (.lconst 1, 1) := by decide +kernel
theorem d_Nt_prepareFiring_70 : decode prog_4_method_13_code 70 = .ok (.iconst 4, 1) := by decide +kernel
theorem d_Nt_prepareFiring_71 : decode prog_4_method_13_code 71 = .ok (.iload_n 1, 1) := by decide +kernel
theorem d_Nt_prepareFiring_72 : decode prog_4_method_13_code 72 = .ok (.iconst 2, 1) := by decide +kernel
theorem d_Nt_prepareFiring_73 : decode prog_4_method_13_code 73 = .ok (.iadd, 1) := by decide +kernel
theorem d_Nt_prepareFiring_74 : decode prog_4_method_13_code 74 = .ok (.imul, 1) := by decide +kernel
theorem d_Nt_prepareFiring_75 : decode prog_4_method_13_code 75 = .ok (.lshl, 1) := by decide +kernel
theorem d_Nt_prepareFiring_76 : decode prog_4_method_13_code 76 = .ok (.invokevirtual 54, 3) := by decide +kernel
theorem d_Nt_prepareFiring_79 : decode prog_4_method_13_code 79 = .ok (.iinc 1 1, 3) := by decide +kernel
theorem d_Nt_prepareFiring_82 : decode prog_4_method_13_code 82 = .ok (.goto (-34), 3) := by decide +kernel
theorem d_Nt_prepareFiring_85 : decode prog_4_method_13_code 85 = .ok (.return_, 1) := by decide +kernel
set_option maxRecDepth 20000 in
set_option maxHeartbeats 4000000 in
theorem cN_prepareFiring (E : fk_E) (n0 : Nat) (n1 : Nat) (n2 : Nat) (n3 : Nat) (n4 : Nat) (cnt : Nat) (fi : Nat) (la : Nat) (lo : Nat) (me : Nat) (ins : Nat → Nat) (outs : Nat → Nat) (tk : Nat → Nat) (pu : Nat → Nat) (hc : cnt ≤ 14) (hb : ∀ j, j < cnt → ins j < 128 ∧ outs j < 128) (hf : fi < 128) (hl : la < 128) (ho : lo < 128) : fk_C E fy_Nt_prepareFiring prog_4_method_13_code 2 none 2 0 0 [.ref n0] [(n0, .inr (2, [.ref n1, .ref n2, .ref n3, .ref n4, .int (nI cnt), .int (nI fi), .int (nI la), .int (nI lo), .int (nI me)])), fk_ai E n1 14 ins, fk_ai E n2 14 outs, fk_al E n3 7 tk, fk_al E n4 7 pu] (S := (Nat → Nat) × (Nat → Nat)) (fun (u : (Nat → Nat) × (Nat → Nat)) => none) (fun (u : (Nat → Nat) × (Nat → Nat)) => ∀ a, a < 7 → u.1 a = fm_mk (fs_tak (fs_O cnt outs fi) a) ∧ u.2 a = fm_mk (fs_tak (fs_I cnt ins la) a)) (fun (u : (Nat → Nat) × (Nat → Nat)) => [(n0, .inr (2, [.ref n1, .ref n2, .ref n3, .ref n4, .int (nI cnt), .int (nI fi), .int (nI la), .int (nI lo), .int (nI (fs_mem lo fi la ins outs cnt))])), fk_ai E n1 14 ins, fk_ai E n2 14 outs, fk_al E n3 7 u.1, fk_al E n4 7 u.2]) := by
  refine fk_enterV (by decide) (Nat.le_of_ble_eq_true rfl) (lv0 := [(0, .ref n0)]) rfl ?_
  intro K hini hret
  refine fk_aload_n 0 d_Nt_prepareFiring_0 rfl ?_
  refine fk_aload_n 0 d_Nt_prepareFiring_1 rfl ?_
  refine fk_get 0 7 rfl rfl fh_Nt (Nat.le_of_ble_eq_true rfl) fw_51 rfl d_Nt_prepareFiring_2 ?_
  refine fk_put (w' := [(n0, .inr (2, [.ref n1, .ref n2, .ref n3, .ref n4, .int (nI cnt), .int (nI fi), .int (nI la), .int (nI lo), .int (nI lo)])), fk_ai E n1 14 ins, fk_ai E n2 14 outs, fk_al E n3 7 tk, fk_al E n4 7 pu]) 0 8 fT_Nt fT_Nt_ok fT_Nt_nm rfl rfl fh_Nt (Nat.le_of_ble_eq_true rfl) fw_52 rfl (fT_Nt_ok 8 (Nat.le_of_ble_eq_true rfl)) rfl rfl (Nat.le_of_ble_eq_true rfl) d_Nt_prepareFiring_5 rfl ?_
  refine fk_aload_n 0 d_Nt_prepareFiring_8 rfl ?_
  refine fk_get 0 2 rfl rfl fh_Nt (Nat.le_of_ble_eq_true rfl) fw_46 rfl d_Nt_prepareFiring_9 ?_
  refine fk_lconst (v := lN 0) d_Nt_prepareFiring_12 rfl ?_
  refine fk_callS (As := [.ref n3, .long (lN 0)]) (rest := []) (is := [3]) (ir := [0, 1, 2, 4]) (ip := [0, 1, 2, 4, 3]) (wc := [fk_al E n3 7 tk]) (wr := [(n0, .inr (2, [.ref n1, .ref n2, .ref n3, .ref n4, .int (nI cnt), .int (nI fi), .int (nI la), .int (nI lo), .int (nI lo)])), fk_ai E n1 14 ins, fk_ai E n2 14 outs, fk_al E n4 7 pu]) (w2 := fun u => [(n0, .inr (2, [.ref n1, .ref n2, .ref n3, .ref n4, .int (nI cnt), .int (nI fi), .int (nI la), .int (nI lo), .int (nI lo)])), fk_ai E n1 14 ins, fk_ai E n2 14 outs, fk_al E n3 7 u, fk_al E n4 7 pu]) (cA_fillJ E n3 7 0 tk (by first | omega | assumption)) d_Nt_prepareFiring_13 fz_Ar_fillJ fw_272 fw_273 ⟨Nat.le_of_ble_eq_true rfl, Nat.le_of_ble_eq_true rfl⟩ rfl (Nat.le_of_ble_eq_true rfl) ⟨Nat.zero_le _, Nat.zero_le _⟩ ⟨rfl, rfl, rfl, rfl, by decide, fun _ => rfl, rfl⟩ (fun u hu13 => ?_)
  obtain ⟨g9_13, rfl⟩ : ∃ z, z = u := ⟨_, rfl⟩
  have hq13 : ∀ k, k < 7 → g9_13 k = 0 := hu13
  show fk_V E _ K (0, 0) [(n0, .inr (2, [.ref n1, .ref n2, .ref n3, .ref n4, .int (nI cnt), .int (nI fi), .int (nI la), .int (nI lo), .int (nI lo)])), fk_ai E n1 14 ins, fk_ai E n2 14 outs, fk_al E n3 7 g9_13, fk_al E n4 7 pu] 16 [(0, .ref n0)] []
  refine fk_aload_n 0 d_Nt_prepareFiring_16 rfl ?_
  refine fk_get 0 3 rfl rfl fh_Nt (Nat.le_of_ble_eq_true rfl) fw_47 rfl d_Nt_prepareFiring_17 ?_
  refine fk_lconst (v := lN 0) d_Nt_prepareFiring_20 rfl ?_
  refine fk_callS (As := [.ref n4, .long (lN 0)]) (rest := []) (is := [4]) (ir := [0, 1, 2, 3]) (ip := [0, 1, 2, 3, 4]) (wc := [fk_al E n4 7 pu]) (wr := [(n0, .inr (2, [.ref n1, .ref n2, .ref n3, .ref n4, .int (nI cnt), .int (nI fi), .int (nI la), .int (nI lo), .int (nI lo)])), fk_ai E n1 14 ins, fk_ai E n2 14 outs, fk_al E n3 7 g9_13]) (w2 := fun u => [(n0, .inr (2, [.ref n1, .ref n2, .ref n3, .ref n4, .int (nI cnt), .int (nI fi), .int (nI la), .int (nI lo), .int (nI lo)])), fk_ai E n1 14 ins, fk_ai E n2 14 outs, fk_al E n3 7 g9_13, fk_al E n4 7 u]) (cA_fillJ E n4 7 0 pu (by first | omega | assumption)) d_Nt_prepareFiring_21 fz_Ar_fillJ fw_272 fw_273 ⟨Nat.le_of_ble_eq_true rfl, Nat.le_of_ble_eq_true rfl⟩ rfl (Nat.le_of_ble_eq_true rfl) ⟨Nat.zero_le _, Nat.zero_le _⟩ ⟨rfl, rfl, rfl, rfl, by decide, fun _ => rfl, rfl⟩ (fun u hu21 => ?_)
  obtain ⟨g9_21, rfl⟩ : ∃ z, z = u := ⟨_, rfl⟩
  have hq21 : ∀ k, k < 7 → g9_21 k = 0 := hu21
  show fk_V E _ K (0, 0) [(n0, .inr (2, [.ref n1, .ref n2, .ref n3, .ref n4, .int (nI cnt), .int (nI fi), .int (nI la), .int (nI lo), .int (nI lo)])), fk_ai E n1 14 ins, fk_ai E n2 14 outs, fk_al E n3 7 g9_13, fk_al E n4 7 g9_21] 24 [(0, .ref n0)] []
  refine fk_aload_n 0 d_Nt_prepareFiring_24 rfl ?_
  refine fk_iconst (v := nI 0) d_Nt_prepareFiring_25 (by decide +kernel) ?_
  refine fk_aload_n 0 d_Nt_prepareFiring_26 rfl ?_
  refine fk_get 0 5 rfl rfl fh_Nt (Nat.le_of_ble_eq_true rfl) fw_49 rfl d_Nt_prepareFiring_27 ?_
  refine fk_lconst (v := lN 1) d_Nt_prepareFiring_30 rfl ?_
  refine fk_callV (q0 := 0) (As := [.int (nI 0), .int (nI fi), .long (lN 1)]) (rest := []) (is := [0, 3, 4]) (ir := [1, 2]) (ip := [2, 0, 1, 3, 4]) (wc := [(n0, .inr (2, [.ref n1, .ref n2, .ref n3, .ref n4, .int (nI cnt), .int (nI fi), .int (nI la), .int (nI lo), .int (nI lo)])), fk_al E n3 7 g9_13, fk_al E n4 7 g9_21]) (wr := [fk_ai E n1 14 ins, fk_ai E n2 14 outs]) (w2 := fun u => [(n0, .inr (2, [.ref n1, .ref n2, .ref n3, .ref n4, .int (nI cnt), .int (nI fi), .int (nI la), .int (nI lo), .int (nI (lo ||| (0 ||| fi)))])), fk_ai E n1 14 ins, fk_ai E n2 14 outs, fk_al E n3 7 u.1, fk_al E n4 7 u.2]) (cN_connect E n0 n1 n2 n3 n4 cnt fi la lo lo g9_13 g9_21 0 fi 1 (by first | omega | assumption) (by first | omega | assumption) (by first | omega | assumption) (by decide) (fun a ha => by rw [hq13 a ha]; decide) (fun a ha => by rw [hq21 a ha]; decide)) d_Nt_prepareFiring_31 fz_Nt_connect fw_275 rfl rfl fw_277 fw_p5 ⟨Nat.le_of_ble_eq_true rfl, Nat.le_of_ble_eq_true rfl⟩ rfl (Nat.le_of_ble_eq_true rfl) ⟨Nat.zero_le _, Nat.zero_le _⟩ ⟨rfl, rfl, rfl, rfl, by decide, fun _ => rfl, rfl⟩ (fun u hu31 => ?_)
  obtain ⟨tk9_31, pu9_31⟩ := u
  have hq31 : ∀ a, a < 7 → tk9_31 a = (if Nat.testBit fi a = true then g9_13 a ||| 1 else g9_13 a) ∧ pu9_31 a = (if Nat.testBit 0 a = true then g9_21 a ||| 1 else g9_21 a) := hu31
  show fk_V E _ K (0, 0) [(n0, .inr (2, [.ref n1, .ref n2, .ref n3, .ref n4, .int (nI cnt), .int (nI fi), .int (nI la), .int (nI lo), .int (nI (lo ||| (0 ||| fi)))])), fk_ai E n1 14 ins, fk_ai E n2 14 outs, fk_al E n3 7 tk9_31, fk_al E n4 7 pu9_31] 34 [(0, .ref n0)] []
  refine fk_aload_n 0 d_Nt_prepareFiring_34 rfl ?_
  refine fk_aload_n 0 d_Nt_prepareFiring_35 rfl ?_
  refine fk_get 0 6 rfl rfl fh_Nt (Nat.le_of_ble_eq_true rfl) fw_50 rfl d_Nt_prepareFiring_36 ?_
  refine fk_iconst (v := nI 0) d_Nt_prepareFiring_39 (by decide +kernel) ?_
  refine fk_ldc2 (v := (16 : Int64)) d_Nt_prepareFiring_40 fw_280 ?_
  refine fk_topl (show (16 : Int64) = lN 16 by decide +kernel) ?_
  refine fk_callV (q0 := 0) (As := [.int (nI la), .int (nI 0), .long (lN 16)]) (rest := []) (is := [0, 3, 4]) (ir := [1, 2]) (ip := [2, 0, 1, 3, 4]) (wc := [(n0, .inr (2, [.ref n1, .ref n2, .ref n3, .ref n4, .int (nI cnt), .int (nI fi), .int (nI la), .int (nI lo), .int (nI (lo ||| (0 ||| fi)))])), fk_al E n3 7 tk9_31, fk_al E n4 7 pu9_31]) (wr := [fk_ai E n1 14 ins, fk_ai E n2 14 outs]) (w2 := fun u => [(n0, .inr (2, [.ref n1, .ref n2, .ref n3, .ref n4, .int (nI cnt), .int (nI fi), .int (nI la), .int (nI lo), .int (nI ((lo ||| (0 ||| fi)) ||| (la ||| 0)))])), fk_ai E n1 14 ins, fk_ai E n2 14 outs, fk_al E n3 7 u.1, fk_al E n4 7 u.2]) (cN_connect E n0 n1 n2 n3 n4 cnt fi la lo (lo ||| (0 ||| fi)) tk9_31 pu9_31 la 0 16 (fb_or_lt ho (fb_or_lt (by decide) hf)) (by first | omega | assumption) (by first | omega | assumption) (by decide) (fun a ha => by rw [(hq31 a ha).1, hq13 a ha, fs_tk0 outs fi a]; exact fm_mk_lt _) (fun a ha => by rw [(hq31 a ha).2, hq21 a ha, Nat.zero_testBit, if_neg (by decide)]; decide)) d_Nt_prepareFiring_43 fz_Nt_connect fw_275 rfl rfl fw_277 fw_p5 ⟨Nat.le_of_ble_eq_true rfl, Nat.le_of_ble_eq_true rfl⟩ rfl (Nat.le_of_ble_eq_true rfl) ⟨Nat.zero_le _, Nat.zero_le _⟩ ⟨rfl, rfl, rfl, rfl, by decide, fun _ => rfl, rfl⟩ (fun u hu43 => ?_)
  obtain ⟨tk9_43, pu9_43⟩ := u
  have hq43 : ∀ a, a < 7 → tk9_43 a = (if Nat.testBit 0 a = true then tk9_31 a ||| 16 else tk9_31 a) ∧ pu9_43 a = (if Nat.testBit la a = true then pu9_31 a ||| 16 else pu9_31 a) := hu43
  show fk_V E _ K (0, 0) [(n0, .inr (2, [.ref n1, .ref n2, .ref n3, .ref n4, .int (nI cnt), .int (nI fi), .int (nI la), .int (nI lo), .int (nI ((lo ||| (0 ||| fi)) ||| (la ||| 0)))])), fk_ai E n1 14 ins, fk_ai E n2 14 outs, fk_al E n3 7 tk9_43, fk_al E n4 7 pu9_43] 46 [(0, .ref n0)] []
  refine fk_iconst (v := nI 0) d_Nt_prepareFiring_46 (by decide +kernel) ?_
  refine fk_istore_n (lv' := [(0, .ref n0), (1, .int (nI 0))]) d_Nt_prepareFiring_47 rfl (Nat.le_of_ble_eq_true rfl) [1, 0] rfl ?_
  have L48 : ∀ (fuel : Nat) (k : Nat) (tk1 : Nat → Nat) (pu1 : Nat → Nat), (k ≤ cnt) → (∀ a, a < 7 → tk1 a = fm_mk (fs_tak (fs_O k outs fi) a) ∧ pu1 a = fm_mk (fs_tak (fs_I k ins la) a)) → cnt - k < fuel → fk_V E (prog_4_method_13_code, fy_Nt_prepareFiring.cls, 2, fk_rm 2 0 0) K (0, 0) [(n0, .inr (2, [.ref n1, .ref n2, .ref n3, .ref n4, .int (nI cnt), .int (nI fi), .int (nI la), .int (nI lo), .int (nI (fs_mem lo fi la ins outs k))])), fk_ai E n1 14 ins, fk_ai E n2 14 outs, fk_al E n3 7 tk1, fk_al E n4 7 pu1] 48 [(0, .ref n0), (1, .int (nI k))] [] := by
    intro fuel
    induction fuel with
    | zero => intro k tk1 pu1 _ _ hm; exact absurd hm (Nat.not_lt_zero _)
    | succ fuel ih =>
      intro k tk1 pu1 h1 h2 hm48
      have ih48 := ih
      clear ih
      refine fk_iload_n 1 d_Nt_prepareFiring_48 rfl ?_
      refine fk_aload_n 0 d_Nt_prepareFiring_49 rfl ?_
      refine fk_get 0 4 rfl rfl fh_Nt (Nat.le_of_ble_eq_true rfl) fw_48 rfl d_Nt_prepareFiring_50 ?_
      refine fk_icmp_ge (a := k) (b := cnt) (by omega) (by omega) d_Nt_prepareFiring_53 rfl (fun h53t => ?_) (fun h53f => ?_)
      · exact hret (0, 0) _ 85 _ (tk1, pu1) d_Nt_prepareFiring_85 (by rw [show cnt = k by omega]; exact h2) (by rw [show cnt = k by omega])
      · refine fk_aload_n 0 d_Nt_prepareFiring_56 rfl ?_
        refine fk_aload_n 0 d_Nt_prepareFiring_57 rfl ?_
        refine fk_get 0 0 rfl rfl fh_Nt (Nat.le_of_ble_eq_true rfl) fw_44 rfl d_Nt_prepareFiring_58 ?_
        refine fk_iload_n 1 d_Nt_prepareFiring_61 rfl ?_
        refine fk_ld_ai (i := k) 1 rfl (by omega) (by decide) d_Nt_prepareFiring_62 ?_
        refine fk_aload_n 0 d_Nt_prepareFiring_63 rfl ?_
        refine fk_get 0 1 rfl rfl fh_Nt (Nat.le_of_ble_eq_true rfl) fw_45 rfl d_Nt_prepareFiring_64 ?_
        refine fk_iload_n 1 d_Nt_prepareFiring_67 rfl ?_
        refine fk_ld_ai (i := k) 2 rfl (by omega) (by decide) d_Nt_prepareFiring_68 ?_
        refine fk_lconst (v := lN 1) d_Nt_prepareFiring_69 rfl ?_
        refine fk_iconst (v := nI 4) d_Nt_prepareFiring_70 (by decide +kernel) ?_
        refine fk_iload_n 1 d_Nt_prepareFiring_71 rfl ?_
        refine fk_iconst (v := nI 2) d_Nt_prepareFiring_72 (by decide +kernel) ?_
        refine fk_iadd (a := k) (b := 2) d_Nt_prepareFiring_73 ?_
        refine fk_imul (a := 4) (b := (k + 2)) d_Nt_prepareFiring_74 ?_
        refine fk_lshl d_Nt_prepareFiring_75 (fn_lshl (a := 1) (k := (4 * (k + 2))) (by omega)) ?_
        refine fk_callV (q0 := 0) (As := [.int (nI (ins k)), .int (nI (outs k)), .long (lN (1 * 2 ^ (4 * (k + 2))))]) (rest := []) (is := [0, 3, 4]) (ir := [1, 2]) (ip := [2, 0, 1, 3, 4]) (wc := [(n0, .inr (2, [.ref n1, .ref n2, .ref n3, .ref n4, .int (nI cnt), .int (nI fi), .int (nI la), .int (nI lo), .int (nI (fs_mem lo fi la ins outs k))])), fk_al E n3 7 tk1, fk_al E n4 7 pu1]) (wr := [fk_ai E n1 14 ins, fk_ai E n2 14 outs]) (w2 := fun u => [(n0, .inr (2, [.ref n1, .ref n2, .ref n3, .ref n4, .int (nI cnt), .int (nI fi), .int (nI la), .int (nI lo), .int (nI ((fs_mem lo fi la ins outs k) ||| ((ins k) ||| (outs k))))])), fk_ai E n1 14 ins, fk_ai E n2 14 outs, fk_al E n3 7 u.1, fk_al E n4 7 u.2]) (cN_connect E n0 n1 n2 n3 n4 cnt fi la lo (fs_mem lo fi la ins outs k) tk1 pu1 (ins k) (outs k) (1 * 2 ^ (4 * (k + 2))) (fs_mem_lt ho hf hl (fun j hj => hb j (by omega))) ((hb k (by omega)).1) ((hb k (by omega)).2) (by rw [Nat.one_mul]; exact fm_pow_lt (by omega)) (fun a ha => by rw [(h2 a ha).1]; exact fm_mk_lt _) (fun a ha => by rw [(h2 a ha).2]; exact fm_mk_lt _)) d_Nt_prepareFiring_76 fz_Nt_connect fw_275 rfl rfl fw_277 fw_p5 ⟨Nat.le_of_ble_eq_true rfl, Nat.le_of_ble_eq_true rfl⟩ rfl (Nat.le_of_ble_eq_true rfl) ⟨Nat.zero_le _, Nat.zero_le _⟩ ⟨rfl, rfl, rfl, rfl, by decide, fun _ => rfl, rfl⟩ (fun u hu76 => ?_)
        obtain ⟨tk9_76, pu9_76⟩ := u
        have hq76 : ∀ a, a < 7 → tk9_76 a = (if Nat.testBit (outs k) a = true then tk1 a ||| (1 * 2 ^ (4 * (k + 2))) else tk1 a) ∧ pu9_76 a = (if Nat.testBit (ins k) a = true then pu1 a ||| (1 * 2 ^ (4 * (k + 2))) else pu1 a) := hu76
        show fk_V E _ K (0, 0) [(n0, .inr (2, [.ref n1, .ref n2, .ref n3, .ref n4, .int (nI cnt), .int (nI fi), .int (nI la), .int (nI lo), .int (nI ((fs_mem lo fi la ins outs k) ||| ((ins k) ||| (outs k))))])), fk_ai E n1 14 ins, fk_ai E n2 14 outs, fk_al E n3 7 tk9_76, fk_al E n4 7 pu9_76] 79 [(0, .ref n0), (1, .int (nI k))] []
        refine fk_iinc (j := 1) (lv' := [(0, .ref n0), (1, .int (nI (k + 1)))]) (k + 1) d_Nt_prepareFiring_79 rfl (nI_1 k) (Nat.le_of_ble_eq_true rfl) [1, 0] rfl ?_
        refine fk_goto d_Nt_prepareFiring_82 rfl ?_
        refine ih48 _ _ _ ?_ ?_ ?_
        · first | omega | assumption | exact Nat.zero_le _
        · intro a ha
          have q1 := hq76 a ha
          rw [q1.1, q1.2, (h2 a ha).1, (h2 a ha).2, Nat.one_mul, fs_tks outs fi a (by omega), fs_pus ins la a (by omega)]
          exact ⟨rfl, rfl⟩
        · omega
  refine L48 _ _ _ _ ?_ ?_ (Nat.lt_succ_self _)
  · first | omega | assumption | exact Nat.zero_le _
  · intro a ha
    have q1 := hq43 a ha
    have q2 := hq31 a ha
    rw [q1.1, q1.2, q2.1, q2.2, hq13 a ha, hq21 a ha]
    simp only [Nat.zero_testBit, Bool.false_eq_true, if_false]
    rw [fs_tk0 outs fi a, fs_pu0 ins la a]
    exact ⟨rfl, rfl⟩
theorem d_Nt_setEnds_0 : decode prog_4_method_10_code 0 = .ok (.aload_n 0, 1) := by decide +kernel
theorem d_Nt_setEnds_1 : decode prog_4_method_10_code 1 = .ok (.iload_n 1, 1) := by decide +kernel
theorem d_Nt_setEnds_2 : decode prog_4_method_10_code 2 = .ok (.putfield 29, 3) := by decide +kernel
theorem d_Nt_setEnds_5 : decode prog_4_method_10_code 5 = .ok (.aload_n 0, 1) := by decide +kernel
theorem d_Nt_setEnds_6 : decode prog_4_method_10_code 6 = .ok (.iload_n 2, 1) := by decide +kernel
theorem d_Nt_setEnds_7 : decode prog_4_method_10_code 7 = .ok (.putfield 32, 3) := by decide +kernel
theorem d_Nt_setEnds_10 : decode prog_4_method_10_code 10 = .ok (.aload_n 0, 1) := by decide +kernel
theorem d_Nt_setEnds_11 : decode prog_4_method_10_code 11 = .ok (.invokevirtual 41, 3) := by decide +kernel
theorem d_Nt_setEnds_14 : decode prog_4_method_10_code 14 = .ok (.return_, 1) := by decide +kernel
set_option maxRecDepth 20000 in
set_option maxHeartbeats 4000000 in
theorem cN_setEnds (E : fk_E) (n0 : Nat) (n1 : Nat) (n2 : Nat) (n3 : Nat) (n4 : Nat) (cnt : Nat) (fi : Nat) (la : Nat) (lo : Nat) (me : Nat) (ins : Nat → Nat) (outs : Nat → Nat) (tk : Nat → Nat) (pu : Nat → Nat) (f : Nat) (l : Nat) (hc : cnt ≤ 14) (hb : ∀ j, j < cnt → ins j < 128 ∧ outs j < 128) (hf : f < 128) (hl : l < 128) (ho : lo < 128) : fk_C E fy_Nt_setEnds prog_4_method_10_code 3 none 3 0 0 [.ref n0, .int (nI f), .int (nI l)] [(n0, .inr (2, [.ref n1, .ref n2, .ref n3, .ref n4, .int (nI cnt), .int (nI fi), .int (nI la), .int (nI lo), .int (nI me)])), fk_ai E n1 14 ins, fk_ai E n2 14 outs, fk_al E n3 7 tk, fk_al E n4 7 pu] (S := (Nat → Nat) × (Nat → Nat)) (fun (u : (Nat → Nat) × (Nat → Nat)) => none) (fun (u : (Nat → Nat) × (Nat → Nat)) => ∀ a, a < 7 → u.1 a = fm_mk (fs_tak (fs_O cnt outs f) a) ∧ u.2 a = fm_mk (fs_tak (fs_I cnt ins l) a)) (fun (u : (Nat → Nat) × (Nat → Nat)) => [(n0, .inr (2, [.ref n1, .ref n2, .ref n3, .ref n4, .int (nI cnt), .int (nI f), .int (nI l), .int (nI lo), .int (nI (fs_mem lo f l ins outs cnt))])), fk_ai E n1 14 ins, fk_ai E n2 14 outs, fk_al E n3 7 u.1, fk_al E n4 7 u.2]) := by
  refine fk_enterV (by decide) (Nat.le_of_ble_eq_true rfl) (lv0 := [(0, .ref n0), (1, .int (nI f)), (2, .int (nI l))]) rfl ?_
  intro K hini hret
  refine fk_aload_n 0 d_Nt_setEnds_0 rfl ?_
  refine fk_iload_n 1 d_Nt_setEnds_1 rfl ?_
  refine fk_put (w' := [(n0, .inr (2, [.ref n1, .ref n2, .ref n3, .ref n4, .int (nI cnt), .int (nI f), .int (nI la), .int (nI lo), .int (nI me)])), fk_ai E n1 14 ins, fk_ai E n2 14 outs, fk_al E n3 7 tk, fk_al E n4 7 pu]) 0 5 fT_Nt fT_Nt_ok fT_Nt_nm rfl rfl fh_Nt (Nat.le_of_ble_eq_true rfl) fw_49 rfl (fT_Nt_ok 5 (Nat.le_of_ble_eq_true rfl)) rfl rfl (Nat.le_of_ble_eq_true rfl) d_Nt_setEnds_2 rfl ?_
  refine fk_aload_n 0 d_Nt_setEnds_5 rfl ?_
  refine fk_iload_n 2 d_Nt_setEnds_6 rfl ?_
  refine fk_put (w' := [(n0, .inr (2, [.ref n1, .ref n2, .ref n3, .ref n4, .int (nI cnt), .int (nI f), .int (nI l), .int (nI lo), .int (nI me)])), fk_ai E n1 14 ins, fk_ai E n2 14 outs, fk_al E n3 7 tk, fk_al E n4 7 pu]) 0 6 fT_Nt fT_Nt_ok fT_Nt_nm rfl rfl fh_Nt (Nat.le_of_ble_eq_true rfl) fw_50 rfl (fT_Nt_ok 6 (Nat.le_of_ble_eq_true rfl)) rfl rfl (Nat.le_of_ble_eq_true rfl) d_Nt_setEnds_7 rfl ?_
  refine fk_aload_n 0 d_Nt_setEnds_10 rfl ?_
  refine fk_callV (q0 := 0) (As := []) (rest := []) (is := [0, 1, 2, 3, 4]) (ir := []) (ip := [0, 1, 2, 3, 4]) (wc := [(n0, .inr (2, [.ref n1, .ref n2, .ref n3, .ref n4, .int (nI cnt), .int (nI f), .int (nI l), .int (nI lo), .int (nI me)])), fk_ai E n1 14 ins, fk_ai E n2 14 outs, fk_al E n3 7 tk, fk_al E n4 7 pu]) (wr := []) (w2 := fun u => [(n0, .inr (2, [.ref n1, .ref n2, .ref n3, .ref n4, .int (nI cnt), .int (nI f), .int (nI l), .int (nI lo), .int (nI (fs_mem lo f l ins outs cnt))])), fk_ai E n1 14 ins, fk_ai E n2 14 outs, fk_al E n3 7 u.1, fk_al E n4 7 u.2]) (cN_prepareFiring E n0 n1 n2 n3 n4 cnt f l lo me ins outs tk pu (by first | omega | assumption) (by first | omega | assumption) (by first | omega | assumption) (by first | omega | assumption) (by first | omega | assumption)) d_Nt_setEnds_11 fz_Nt_prepareFiring fw_268 rfl rfl fw_270 fw_p4 ⟨Nat.le_of_ble_eq_true rfl, Nat.le_of_ble_eq_true rfl⟩ rfl (Nat.le_of_ble_eq_true rfl) ⟨Nat.zero_le _, Nat.zero_le _⟩ ⟨rfl, rfl, rfl, rfl, by decide, fun _ => rfl, rfl⟩ (fun u hu11 => ?_)
  obtain ⟨tk9_11, pu9_11⟩ := u
  have hq11 : ∀ a, a < 7 → tk9_11 a = fm_mk (fs_tak (fs_O cnt outs f) a) ∧ pu9_11 a = fm_mk (fs_tak (fs_I cnt ins l) a) := hu11
  show fk_V E _ K (0, 0) [(n0, .inr (2, [.ref n1, .ref n2, .ref n3, .ref n4, .int (nI cnt), .int (nI f), .int (nI l), .int (nI lo), .int (nI (fs_mem lo f l ins outs cnt))])), fk_ai E n1 14 ins, fk_ai E n2 14 outs, fk_al E n3 7 tk9_11, fk_al E n4 7 pu9_11] 14 [(0, .ref n0), (1, .int (nI f)), (2, .int (nI l))] []
  exact hret (0, 0) _ 14 _ (tk9_11, pu9_11) d_Nt_setEnds_14 (hq11) (rfl)
theorem d_Nt_setLoose_0 : decode prog_4_method_11_code 0 = .ok (.aload_n 0, 1) := by decide +kernel
theorem d_Nt_setLoose_1 : decode prog_4_method_11_code 1 = .ok (.iload_n 1, 1) := by decide +kernel
theorem d_Nt_setLoose_2 : decode prog_4_method_11_code 2 = .ok (.putfield 35, 3) := by decide +kernel
theorem d_Nt_setLoose_5 : decode prog_4_method_11_code 5 = .ok (.aload_n 0, 1) := by decide +kernel
theorem d_Nt_setLoose_6 : decode prog_4_method_11_code 6 = .ok (.invokevirtual 41, 3) := by decide +kernel
theorem d_Nt_setLoose_9 : decode prog_4_method_11_code 9 = .ok (.return_, 1) := by decide +kernel
set_option maxRecDepth 20000 in
set_option maxHeartbeats 4000000 in
theorem cN_setLoose (E : fk_E) (n0 : Nat) (n1 : Nat) (n2 : Nat) (n3 : Nat) (n4 : Nat) (cnt : Nat) (fi : Nat) (la : Nat) (lo : Nat) (me : Nat) (ins : Nat → Nat) (outs : Nat → Nat) (tk : Nat → Nat) (pu : Nat → Nat) (s : Nat) (hc : cnt ≤ 14) (hb : ∀ j, j < cnt → ins j < 128 ∧ outs j < 128) (hf : fi < 128) (hl : la < 128) (ho : s < 128) : fk_C E fy_Nt_setLoose prog_4_method_11_code 2 none 3 0 0 [.ref n0, .int (nI s)] [(n0, .inr (2, [.ref n1, .ref n2, .ref n3, .ref n4, .int (nI cnt), .int (nI fi), .int (nI la), .int (nI lo), .int (nI me)])), fk_ai E n1 14 ins, fk_ai E n2 14 outs, fk_al E n3 7 tk, fk_al E n4 7 pu] (S := (Nat → Nat) × (Nat → Nat)) (fun (u : (Nat → Nat) × (Nat → Nat)) => none) (fun (u : (Nat → Nat) × (Nat → Nat)) => ∀ a, a < 7 → u.1 a = fm_mk (fs_tak (fs_O cnt outs fi) a) ∧ u.2 a = fm_mk (fs_tak (fs_I cnt ins la) a)) (fun (u : (Nat → Nat) × (Nat → Nat)) => [(n0, .inr (2, [.ref n1, .ref n2, .ref n3, .ref n4, .int (nI cnt), .int (nI fi), .int (nI la), .int (nI s), .int (nI (fs_mem s fi la ins outs cnt))])), fk_ai E n1 14 ins, fk_ai E n2 14 outs, fk_al E n3 7 u.1, fk_al E n4 7 u.2]) := by
  refine fk_enterV (by decide) (Nat.le_of_ble_eq_true rfl) (lv0 := [(0, .ref n0), (1, .int (nI s))]) rfl ?_
  intro K hini hret
  refine fk_aload_n 0 d_Nt_setLoose_0 rfl ?_
  refine fk_iload_n 1 d_Nt_setLoose_1 rfl ?_
  refine fk_put (w' := [(n0, .inr (2, [.ref n1, .ref n2, .ref n3, .ref n4, .int (nI cnt), .int (nI fi), .int (nI la), .int (nI s), .int (nI me)])), fk_ai E n1 14 ins, fk_ai E n2 14 outs, fk_al E n3 7 tk, fk_al E n4 7 pu]) 0 7 fT_Nt fT_Nt_ok fT_Nt_nm rfl rfl fh_Nt (Nat.le_of_ble_eq_true rfl) fw_51 rfl (fT_Nt_ok 7 (Nat.le_of_ble_eq_true rfl)) rfl rfl (Nat.le_of_ble_eq_true rfl) d_Nt_setLoose_2 rfl ?_
  refine fk_aload_n 0 d_Nt_setLoose_5 rfl ?_
  refine fk_callV (q0 := 0) (As := []) (rest := []) (is := [0, 1, 2, 3, 4]) (ir := []) (ip := [0, 1, 2, 3, 4]) (wc := [(n0, .inr (2, [.ref n1, .ref n2, .ref n3, .ref n4, .int (nI cnt), .int (nI fi), .int (nI la), .int (nI s), .int (nI me)])), fk_ai E n1 14 ins, fk_ai E n2 14 outs, fk_al E n3 7 tk, fk_al E n4 7 pu]) (wr := []) (w2 := fun u => [(n0, .inr (2, [.ref n1, .ref n2, .ref n3, .ref n4, .int (nI cnt), .int (nI fi), .int (nI la), .int (nI s), .int (nI (fs_mem s fi la ins outs cnt))])), fk_ai E n1 14 ins, fk_ai E n2 14 outs, fk_al E n3 7 u.1, fk_al E n4 7 u.2]) (cN_prepareFiring E n0 n1 n2 n3 n4 cnt fi la s me ins outs tk pu (by first | omega | assumption) (by first | omega | assumption) (by first | omega | assumption) (by first | omega | assumption) (by first | omega | assumption)) d_Nt_setLoose_6 fz_Nt_prepareFiring fw_268 rfl rfl fw_270 fw_p4 ⟨Nat.le_of_ble_eq_true rfl, Nat.le_of_ble_eq_true rfl⟩ rfl (Nat.le_of_ble_eq_true rfl) ⟨Nat.zero_le _, Nat.zero_le _⟩ ⟨rfl, rfl, rfl, rfl, by decide, fun _ => rfl, rfl⟩ (fun u hu6 => ?_)
  obtain ⟨tk9_6, pu9_6⟩ := u
  have hq6 : ∀ a, a < 7 → tk9_6 a = fm_mk (fs_tak (fs_O cnt outs fi) a) ∧ pu9_6 a = fm_mk (fs_tak (fs_I cnt ins la) a) := hu6
  show fk_V E _ K (0, 0) [(n0, .inr (2, [.ref n1, .ref n2, .ref n3, .ref n4, .int (nI cnt), .int (nI fi), .int (nI la), .int (nI s), .int (nI (fs_mem s fi la ins outs cnt))])), fk_ai E n1 14 ins, fk_ai E n2 14 outs, fk_al E n3 7 tk9_6, fk_al E n4 7 pu9_6] 9 [(0, .ref n0), (1, .int (nI s))] []
  exact hret (0, 0) _ 9 _ (tk9_6, pu9_6) d_Nt_setLoose_9 (hq6) (rfl)
theorem d_Nt_removeAll_0 : decode prog_4_method_12_code 0 = .ok (.aload_n 0, 1) := by decide +kernel
theorem d_Nt_removeAll_1 : decode prog_4_method_12_code 1 = .ok (.iconst 0, 1) := by decide +kernel
theorem d_Nt_removeAll_2 : decode prog_4_method_12_code 2 = .ok (.putfield 25, 3) := by decide +kernel
theorem d_Nt_removeAll_5 : decode prog_4_method_12_code 5 = .ok (.aload_n 0, 1) := by decide +kernel
theorem d_Nt_removeAll_6 : decode prog_4_method_12_code 6 = .ok (.iconst 0, 1) := by decide +kernel
theorem d_Nt_removeAll_7 : decode prog_4_method_12_code 7 = .ok (.putfield 35, 3) := by decide +kernel
theorem d_Nt_removeAll_10 : decode prog_4_method_12_code 10 = .ok (.aload_n 0, 1) := by decide +kernel
theorem d_Nt_removeAll_11 : decode prog_4_method_12_code 11 = .ok (.iconst 0, 1) := by decide +kernel
theorem d_Nt_removeAll_12 : decode prog_4_method_12_code 12 = .ok (.iconst 0, 1) := by decide +kernel
theorem d_Nt_removeAll_13 : decode prog_4_method_12_code 13 = .ok (.invokevirtual 44, 3) := by decide +kernel
theorem d_Nt_removeAll_16 : decode prog_4_method_12_code 16 = .ok (.return_, 1) := by decide +kernel
set_option maxRecDepth 20000 in
set_option maxHeartbeats 4000000 in
theorem cN_removeAll (E : fk_E) (n0 : Nat) (n1 : Nat) (n2 : Nat) (n3 : Nat) (n4 : Nat) (cnt : Nat) (fi : Nat) (la : Nat) (lo : Nat) (me : Nat) (ins : Nat → Nat) (outs : Nat → Nat) (tk : Nat → Nat) (pu : Nat → Nat)  : fk_C E fy_Nt_removeAll prog_4_method_12_code 1 none 4 0 0 [.ref n0] [(n0, .inr (2, [.ref n1, .ref n2, .ref n3, .ref n4, .int (nI cnt), .int (nI fi), .int (nI la), .int (nI lo), .int (nI me)])), fk_ai E n1 14 ins, fk_ai E n2 14 outs, fk_al E n3 7 tk, fk_al E n4 7 pu] (S := (Nat → Nat) × (Nat → Nat)) (fun (u : (Nat → Nat) × (Nat → Nat)) => none) (fun (u : (Nat → Nat) × (Nat → Nat)) => ∀ a, a < 7 → u.1 a = fm_mk (fs_tak (fs_O 0 outs 0) a) ∧ u.2 a = fm_mk (fs_tak (fs_I 0 ins 0) a)) (fun (u : (Nat → Nat) × (Nat → Nat)) => [(n0, .inr (2, [.ref n1, .ref n2, .ref n3, .ref n4, .int (nI 0), .int (nI 0), .int (nI 0), .int (nI 0), .int (nI 0)])), fk_ai E n1 14 ins, fk_ai E n2 14 outs, fk_al E n3 7 u.1, fk_al E n4 7 u.2]) := by
  refine fk_enterV (by decide) (Nat.le_of_ble_eq_true rfl) (lv0 := [(0, .ref n0)]) rfl ?_
  intro K hini hret
  refine fk_aload_n 0 d_Nt_removeAll_0 rfl ?_
  refine fk_iconst (v := nI 0) d_Nt_removeAll_1 (by decide +kernel) ?_
  refine fk_put (w' := [(n0, .inr (2, [.ref n1, .ref n2, .ref n3, .ref n4, .int (nI 0), .int (nI fi), .int (nI la), .int (nI lo), .int (nI me)])), fk_ai E n1 14 ins, fk_ai E n2 14 outs, fk_al E n3 7 tk, fk_al E n4 7 pu]) 0 4 fT_Nt fT_Nt_ok fT_Nt_nm rfl rfl fh_Nt (Nat.le_of_ble_eq_true rfl) fw_48 rfl (fT_Nt_ok 4 (Nat.le_of_ble_eq_true rfl)) rfl rfl (Nat.le_of_ble_eq_true rfl) d_Nt_removeAll_2 rfl ?_
  refine fk_aload_n 0 d_Nt_removeAll_5 rfl ?_
  refine fk_iconst (v := nI 0) d_Nt_removeAll_6 (by decide +kernel) ?_
  refine fk_put (w' := [(n0, .inr (2, [.ref n1, .ref n2, .ref n3, .ref n4, .int (nI 0), .int (nI fi), .int (nI la), .int (nI 0), .int (nI me)])), fk_ai E n1 14 ins, fk_ai E n2 14 outs, fk_al E n3 7 tk, fk_al E n4 7 pu]) 0 7 fT_Nt fT_Nt_ok fT_Nt_nm rfl rfl fh_Nt (Nat.le_of_ble_eq_true rfl) fw_51 rfl (fT_Nt_ok 7 (Nat.le_of_ble_eq_true rfl)) rfl rfl (Nat.le_of_ble_eq_true rfl) d_Nt_removeAll_7 rfl ?_
  refine fk_aload_n 0 d_Nt_removeAll_10 rfl ?_
  refine fk_iconst (v := nI 0) d_Nt_removeAll_11 (by decide +kernel) ?_
  refine fk_iconst (v := nI 0) d_Nt_removeAll_12 (by decide +kernel) ?_
  refine fk_callV (q0 := 0) (As := [.int (nI 0), .int (nI 0)]) (rest := []) (is := [0, 1, 2, 3, 4]) (ir := []) (ip := [0, 1, 2, 3, 4]) (wc := [(n0, .inr (2, [.ref n1, .ref n2, .ref n3, .ref n4, .int (nI 0), .int (nI fi), .int (nI la), .int (nI 0), .int (nI me)])), fk_ai E n1 14 ins, fk_ai E n2 14 outs, fk_al E n3 7 tk, fk_al E n4 7 pu]) (wr := []) (w2 := fun u => [(n0, .inr (2, [.ref n1, .ref n2, .ref n3, .ref n4, .int (nI 0), .int (nI 0), .int (nI 0), .int (nI 0), .int (nI (fs_mem 0 0 0 ins outs 0))])), fk_ai E n1 14 ins, fk_ai E n2 14 outs, fk_al E n3 7 u.1, fk_al E n4 7 u.2]) (cN_setEnds E n0 n1 n2 n3 n4 0 fi la 0 me ins outs tk pu 0 0 (by decide) (fun j hj => absurd hj (Nat.not_lt_zero j)) (by decide) (by decide) (by decide)) d_Nt_removeAll_13 fz_Nt_setEnds fw_264 rfl rfl fw_265 fw_266 ⟨Nat.le_of_ble_eq_true rfl, Nat.le_of_ble_eq_true rfl⟩ rfl (Nat.le_of_ble_eq_true rfl) ⟨Nat.zero_le _, Nat.zero_le _⟩ ⟨rfl, rfl, rfl, rfl, by decide, fun _ => rfl, rfl⟩ (fun u hu13 => ?_)
  obtain ⟨tk9_13, pu9_13⟩ := u
  have hq13 : ∀ a, a < 7 → tk9_13 a = fm_mk (fs_tak (fs_O 0 outs 0) a) ∧ pu9_13 a = fm_mk (fs_tak (fs_I 0 ins 0) a) := hu13
  show fk_V E _ K (0, 0) [(n0, .inr (2, [.ref n1, .ref n2, .ref n3, .ref n4, .int (nI 0), .int (nI 0), .int (nI 0), .int (nI 0), .int (nI (fs_mem 0 0 0 ins outs 0))])), fk_ai E n1 14 ins, fk_ai E n2 14 outs, fk_al E n3 7 tk9_13, fk_al E n4 7 pu9_13] 16 [(0, .ref n0)] []
  exact hret (0, 0) _ 16 _ (tk9_13, pu9_13) d_Nt_removeAll_16 (hq13) (rfl)
theorem d_Nt_addPlace_0 : decode prog_4_method_9_code 0 = .ok (.aload_n 0, 1) := by decide +kernel
theorem d_Nt_addPlace_1 : decode prog_4_method_9_code 1 = .ok (.getfield 25, 3) := by decide +kernel
theorem d_Nt_addPlace_4 : decode prog_4_method_9_code 4 = .ok (.bipush 14, 2) := by decide +kernel
theorem d_Nt_addPlace_6 : decode prog_4_method_9_code 6 = .ok (.if_icmp .ne 5, 3) := by decide +kernel
theorem d_Nt_addPlace_9 : decode prog_4_method_9_code 9 = .ok (.iconst 0, 1) := by decide +kernel
theorem d_Nt_addPlace_10 : decode prog_4_method_9_code 10 = .ok (.ireturn, 1) := by decide +kernel
theorem d_Nt_addPlace_11 : decode prog_4_method_9_code 11 = .ok (.aload_n 0, 1) := by decide +kernel
theorem d_Nt_addPlace_12 : decode prog_4_method_9_code 12 = .ok (.getfield 9, 3) := by decide +kernel
theorem d_Nt_addPlace_15 : decode prog_4_method_9_code 15 = .ok (.aload_n 0, 1) := by decide +kernel
theorem d_Nt_addPlace_16 : decode prog_4_method_9_code 16 = .ok (.getfield 25, 3) := by decide +kernel
theorem d_Nt_addPlace_19 : decode prog_4_method_9_code 19 = .ok (.iload_n 1, 1) := by decide +kernel
theorem d_Nt_addPlace_20 : decode prog_4_method_9_code 20 = .ok (.iastore, 1) := by decide +kernel
theorem d_Nt_addPlace_21 : decode prog_4_method_9_code 21 = .ok (.aload_n 0, 1) := by decide +kernel
theorem d_Nt_addPlace_22 : decode prog_4_method_9_code 22 = .ok (.getfield 15, 3) := by decide +kernel
theorem d_Nt_addPlace_25 : decode prog_4_method_9_code 25 = .ok (.aload_n 0, 1) := by decide +kernel
theorem d_Nt_addPlace_26 : decode prog_4_method_9_code 26 = .ok (.getfield 25, 3) := by decide +kernel
theorem d_Nt_addPlace_29 : decode prog_4_method_9_code 29 = .ok (.iload_n 2, 1) := by decide +kernel
theorem d_Nt_addPlace_30 : decode prog_4_method_9_code 30 = .ok (.iastore, 1) := by decide +kernel
theorem d_Nt_addPlace_31 : decode prog_4_method_9_code 31 = .ok (.aload_n 0, 1) := by decide +kernel
theorem d_Nt_addPlace_32 : decode prog_4_method_9_code 32 = .ok (.dup, 1) := by decide +kernel
theorem d_Nt_addPlace_33 : decode prog_4_method_9_code 33 = .ok (.getfield 25, 3) := by decide +kernel
theorem d_Nt_addPlace_36 : decode prog_4_method_9_code 36 = .ok (.iconst 1, 1) := by decide +kernel
theorem d_Nt_addPlace_37 : decode prog_4_method_9_code 37 = .ok (.iadd, 1) := by decide +kernel
theorem d_Nt_addPlace_38 : decode prog_4_method_9_code 38 = .ok (.putfield 25, 3) := by decide +kernel
theorem d_Nt_addPlace_41 : decode prog_4_method_9_code 41 = .ok (.aload_n 0, 1) := by decide +kernel
theorem d_Nt_addPlace_42 : decode prog_4_method_9_code 42 = .ok (.invokevirtual 41, 3) := by decide +kernel
theorem d_Nt_addPlace_45 : decode prog_4_method_9_code 45 = .ok (.iconst 1, 1) := by decide +kernel
theorem d_Nt_addPlace_46 : decode prog_4_method_9_code 46 = .ok (.ireturn, 1) := by decide +kernel
set_option maxRecDepth 20000 in
set_option maxHeartbeats 4000000 in
theorem cN_addPlaceF (E : fk_E) (n0 : Nat) (n1 : Nat) (n2 : Nat) (n3 : Nat) (n4 : Nat) (cnt : Nat) (fi : Nat) (la : Nat) (lo : Nat) (me : Nat) (ins : Nat → Nat) (outs : Nat → Nat) (tk : Nat → Nat) (pu : Nat → Nat) (i : Nat) (o : Nat) (hc : cnt = 14) : fk_C E fy_Nt_addPlace prog_4_method_9_code 3 (some .boolean) 3 0 0 [.ref n0, .int (nI i), .int (nI o)] [(n0, .inr (2, [.ref n1, .ref n2, .ref n3, .ref n4, .int (nI cnt), .int (nI fi), .int (nI la), .int (nI lo), .int (nI me)])), fk_ai E n1 14 ins, fk_ai E n2 14 outs, fk_al E n3 7 tk, fk_al E n4 7 pu] (S := Unit) (fun _ => some (.int (nI (Bool.toNat false)))) (fun _ => True) (fun _ => [(n0, .inr (2, [.ref n1, .ref n2, .ref n3, .ref n4, .int (nI cnt), .int (nI fi), .int (nI la), .int (nI lo), .int (nI me)])), fk_ai E n1 14 ins, fk_ai E n2 14 outs, fk_al E n3 7 tk, fk_al E n4 7 pu]) := by
  refine fk_enterZ (v := fun _ => false) (by decide) (Nat.le_of_ble_eq_true rfl) (lv0 := [(0, .ref n0), (1, .int (nI i)), (2, .int (nI o))]) rfl ?_
  intro K hini hret
  refine fk_aload_n 0 d_Nt_addPlace_0 rfl ?_
  refine fk_get 0 4 rfl rfl fh_Nt (Nat.le_of_ble_eq_true rfl) fw_48 rfl d_Nt_addPlace_1 ?_
  refine fk_bipush (v := nI 14) d_Nt_addPlace_4 (by decide +kernel) ?_
  refine fk_icmp_ne (a := cnt) (b := 14) (by omega) (by omega) d_Nt_addPlace_6 rfl (fun h6t => ?_) (fun h6f => ?_)
  · exact absurd hc h6t
  · refine fk_iconst (v := nI 0) d_Nt_addPlace_9 (by decide +kernel) ?_
    refine fk_top (fn_rf (b := false) (by first | assumption | (simp; omega) | simp_all | (simp_all; omega))) ?_
    exact hret (0, 0) _ 10 _ () d_Nt_addPlace_10 (trivial) (rfl)
set_option maxRecDepth 20000 in
set_option maxHeartbeats 4000000 in
theorem cN_addPlace (E : fk_E) (n0 : Nat) (n1 : Nat) (n2 : Nat) (n3 : Nat) (n4 : Nat) (cnt : Nat) (fi : Nat) (la : Nat) (lo : Nat) (me : Nat) (ins : Nat → Nat) (outs : Nat → Nat) (tk : Nat → Nat) (pu : Nat → Nat) (i : Nat) (o : Nat) (hc : cnt < 14) (hb : ∀ j, j < cnt → ins j < 128 ∧ outs j < 128) (hf : fi < 128) (hl : la < 128) (hL : lo < 128) (hi : i < 128) (ho : o < 128) : fk_C E fy_Nt_addPlace prog_4_method_9_code 3 (some .boolean) 3 0 0 [.ref n0, .int (nI i), .int (nI o)] [(n0, .inr (2, [.ref n1, .ref n2, .ref n3, .ref n4, .int (nI cnt), .int (nI fi), .int (nI la), .int (nI lo), .int (nI me)])), fk_ai E n1 14 ins, fk_ai E n2 14 outs, fk_al E n3 7 tk, fk_al E n4 7 pu] (S := (Nat → Nat) × (Nat → Nat)) (fun (u : (Nat → Nat) × (Nat → Nat)) => some (.int (nI (Bool.toNat true)))) (fun (u : (Nat → Nat) × (Nat → Nat)) => ∀ a, a < 7 → u.1 a = fm_mk (fs_tak (fs_O (cnt + 1) (va_up outs cnt o) fi) a) ∧ u.2 a = fm_mk (fs_tak (fs_I (cnt + 1) (va_up ins cnt i) la) a)) (fun (u : (Nat → Nat) × (Nat → Nat)) => [(n0, .inr (2, [.ref n1, .ref n2, .ref n3, .ref n4, .int (nI (cnt + 1)), .int (nI fi), .int (nI la), .int (nI lo), .int (nI (fs_mem lo fi la (va_up ins cnt i) (va_up outs cnt o) (cnt + 1)))])), fk_ai E n1 14 (va_up ins cnt i), fk_ai E n2 14 (va_up outs cnt o), fk_al E n3 7 u.1, fk_al E n4 7 u.2]) := by
  refine fk_enterZ (v := fun (u : (Nat → Nat) × (Nat → Nat)) => true) (by decide) (Nat.le_of_ble_eq_true rfl) (lv0 := [(0, .ref n0), (1, .int (nI i)), (2, .int (nI o))]) rfl ?_
  intro K hini hret
  refine fk_aload_n 0 d_Nt_addPlace_0 rfl ?_
  refine fk_get 0 4 rfl rfl fh_Nt (Nat.le_of_ble_eq_true rfl) fw_48 rfl d_Nt_addPlace_1 ?_
  refine fk_bipush (v := nI 14) d_Nt_addPlace_4 (by decide +kernel) ?_
  refine fk_icmp_ne (a := cnt) (b := 14) (by omega) (by omega) d_Nt_addPlace_6 rfl (fun h6t => ?_) (fun h6f => ?_)
  · refine fk_aload_n 0 d_Nt_addPlace_11 rfl ?_
    refine fk_get 0 0 rfl rfl fh_Nt (Nat.le_of_ble_eq_true rfl) fw_44 rfl d_Nt_addPlace_12 ?_
    refine fk_aload_n 0 d_Nt_addPlace_15 rfl ?_
    refine fk_get 0 4 rfl rfl fh_Nt (Nat.le_of_ble_eq_true rfl) fw_48 rfl d_Nt_addPlace_16 ?_
    refine fk_iload_n 1 d_Nt_addPlace_19 rfl ?_
    refine fk_st_ai (i := cnt) (x := i) (w' := [(n0, .inr (2, [.ref n1, .ref n2, .ref n3, .ref n4, .int (nI cnt), .int (nI fi), .int (nI la), .int (nI lo), .int (nI me)])), fk_ai E n1 14 (va_up ins cnt i), fk_ai E n2 14 outs, fk_al E n3 7 tk, fk_al E n4 7 pu]) 1 rfl (by omega) (by decide) d_Nt_addPlace_20 rfl ?_
    refine fk_aload_n 0 d_Nt_addPlace_21 rfl ?_
    refine fk_get 0 1 rfl rfl fh_Nt (Nat.le_of_ble_eq_true rfl) fw_45 rfl d_Nt_addPlace_22 ?_
    refine fk_aload_n 0 d_Nt_addPlace_25 rfl ?_
    refine fk_get 0 4 rfl rfl fh_Nt (Nat.le_of_ble_eq_true rfl) fw_48 rfl d_Nt_addPlace_26 ?_
    refine fk_iload_n 2 d_Nt_addPlace_29 rfl ?_
    refine fk_st_ai (i := cnt) (x := o) (w' := [(n0, .inr (2, [.ref n1, .ref n2, .ref n3, .ref n4, .int (nI cnt), .int (nI fi), .int (nI la), .int (nI lo), .int (nI me)])), fk_ai E n1 14 (va_up ins cnt i), fk_ai E n2 14 (va_up outs cnt o), fk_al E n3 7 tk, fk_al E n4 7 pu]) 2 rfl (by omega) (by decide) d_Nt_addPlace_30 rfl ?_
    refine fk_aload_n 0 d_Nt_addPlace_31 rfl ?_
    refine fk_dup d_Nt_addPlace_32 rfl ?_
    refine fk_get 0 4 rfl rfl fh_Nt (Nat.le_of_ble_eq_true rfl) fw_48 rfl d_Nt_addPlace_33 ?_
    refine fk_iconst (v := nI 1) d_Nt_addPlace_36 (by decide +kernel) ?_
    refine fk_iadd (a := cnt) (b := 1) d_Nt_addPlace_37 ?_
    refine fk_put (w' := [(n0, .inr (2, [.ref n1, .ref n2, .ref n3, .ref n4, .int (nI (cnt + 1)), .int (nI fi), .int (nI la), .int (nI lo), .int (nI me)])), fk_ai E n1 14 (va_up ins cnt i), fk_ai E n2 14 (va_up outs cnt o), fk_al E n3 7 tk, fk_al E n4 7 pu]) 0 4 fT_Nt fT_Nt_ok fT_Nt_nm rfl rfl fh_Nt (Nat.le_of_ble_eq_true rfl) fw_48 rfl (fT_Nt_ok 4 (Nat.le_of_ble_eq_true rfl)) rfl rfl (Nat.le_of_ble_eq_true rfl) d_Nt_addPlace_38 rfl ?_
    refine fk_aload_n 0 d_Nt_addPlace_41 rfl ?_
    refine fk_callV (q0 := 0) (As := []) (rest := []) (is := [0, 1, 2, 3, 4]) (ir := []) (ip := [0, 1, 2, 3, 4]) (wc := [(n0, .inr (2, [.ref n1, .ref n2, .ref n3, .ref n4, .int (nI (cnt + 1)), .int (nI fi), .int (nI la), .int (nI lo), .int (nI me)])), fk_ai E n1 14 (va_up ins cnt i), fk_ai E n2 14 (va_up outs cnt o), fk_al E n3 7 tk, fk_al E n4 7 pu]) (wr := []) (w2 := fun u => [(n0, .inr (2, [.ref n1, .ref n2, .ref n3, .ref n4, .int (nI (cnt + 1)), .int (nI fi), .int (nI la), .int (nI lo), .int (nI (fs_mem lo fi la (va_up ins cnt i) (va_up outs cnt o) (cnt + 1)))])), fk_ai E n1 14 (va_up ins cnt i), fk_ai E n2 14 (va_up outs cnt o), fk_al E n3 7 u.1, fk_al E n4 7 u.2]) (cN_prepareFiring E n0 n1 n2 n3 n4 (cnt + 1) fi la lo me (va_up ins cnt i) (va_up outs cnt o) tk pu (by first | omega | assumption) (fun j hj => by
  rcases Nat.lt_or_ge j cnt with q | q
  · rw [va_up_ne _ _ (by omega), va_up_ne _ _ (by omega)]; exact hb j q
  · rw [show j = cnt by omega, va_up_self, va_up_self]; exact ⟨hi, ho⟩) (by first | omega | assumption) (by first | omega | assumption) (by first | omega | assumption)) d_Nt_addPlace_42 fz_Nt_prepareFiring fw_268 rfl rfl fw_270 fw_p4 ⟨Nat.le_of_ble_eq_true rfl, Nat.le_of_ble_eq_true rfl⟩ rfl (Nat.le_of_ble_eq_true rfl) ⟨Nat.zero_le _, Nat.zero_le _⟩ ⟨rfl, rfl, rfl, rfl, by decide, fun _ => rfl, rfl⟩ (fun u hu42 => ?_)
    obtain ⟨tk9_42, pu9_42⟩ := u
    have hq42 : ∀ a, a < 7 → tk9_42 a = fm_mk (fs_tak (fs_O (cnt + 1) (va_up outs cnt o) fi) a) ∧ pu9_42 a = fm_mk (fs_tak (fs_I (cnt + 1) (va_up ins cnt i) la) a) := hu42
    show fk_V E _ K (0, 0) [(n0, .inr (2, [.ref n1, .ref n2, .ref n3, .ref n4, .int (nI (cnt + 1)), .int (nI fi), .int (nI la), .int (nI lo), .int (nI (fs_mem lo fi la (va_up ins cnt i) (va_up outs cnt o) (cnt + 1)))])), fk_ai E n1 14 (va_up ins cnt i), fk_ai E n2 14 (va_up outs cnt o), fk_al E n3 7 tk9_42, fk_al E n4 7 pu9_42] 45 [(0, .ref n0), (1, .int (nI i)), (2, .int (nI o))] []
    refine fk_iconst (v := nI 1) d_Nt_addPlace_45 (by decide +kernel) ?_
    refine fk_top (fn_rt (b := true) (by first | assumption | (simp; omega) | simp_all | (simp_all; omega))) ?_
    exact hret (0, 0) _ 46 _ (tk9_42, pu9_42) d_Nt_addPlace_46 (hq42) (rfl)
  · omega
theorem d_Nt_enabledIn_0 : decode prog_4_method_15_code 0 = .ok (.lload_n 1, 1) := by decide +kernel
theorem d_Nt_enabledIn_1 : decode prog_4_method_15_code 1 = .ok (.lload_n 1, 1) := by decide +kernel
theorem d_Nt_enabledIn_2 : decode prog_4_method_15_code 2 = .ok (.iconst 1, 1) := by decide +kernel
theorem d_Nt_enabledIn_3 : decode prog_4_method_15_code 3 = .ok (.lushr, 1) := by decide +kernel
theorem d_Nt_enabledIn_4 : decode prog_4_method_15_code 4 = .ok (.lor, 1) := by decide +kernel
theorem d_Nt_enabledIn_5 : decode prog_4_method_15_code 5 = .ok (.lload_n 1, 1) := by decide +kernel
theorem d_Nt_enabledIn_6 : decode prog_4_method_15_code 6 = .ok (.iconst 2, 1) := by decide +kernel
theorem d_Nt_enabledIn_7 : decode prog_4_method_15_code 7 = .ok (.lushr, 1) := by decide +kernel
theorem d_Nt_enabledIn_8 : decode prog_4_method_15_code 8 = .ok (.lor, 1) := by decide +kernel
theorem d_Nt_enabledIn_9 : decode prog_4_method_15_code 9 = .ok (.lload_n 1, 1) := by decide +kernel
theorem d_Nt_enabledIn_10 : decode prog_4_method_15_code 10 = .ok (.iconst 3, 1) := by decide +kernel
theorem d_Nt_enabledIn_11 : decode prog_4_method_15_code 11 = .ok (.lushr, 1) := by decide +kernel
theorem d_Nt_enabledIn_12 : decode prog_4_method_15_code 12 = .ok (.lor, 1) := by decide +kernel
theorem d_Nt_enabledIn_13 : decode prog_4_method_15_code 13 = .ok (.ldc2_w 64, 3) := by decide +kernel
theorem d_Nt_enabledIn_16 : decode prog_4_method_15_code 16 = .ok (.land, 1) := by decide +kernel
theorem d_Nt_enabledIn_17 : decode prog_4_method_15_code 17 = .ok (.lstore_n 3, 1) := by decide +kernel
theorem d_Nt_enabledIn_18 : decode prog_4_method_15_code 18 = .ok (.iconst 0, 1) := by decide +kernel
theorem d_Nt_enabledIn_19 : decode prog_4_method_15_code 19 = .ok (.istore 5, 2) := by decide +kernel
theorem d_Nt_enabledIn_21 : decode prog_4_method_15_code 21 = .ok (.iconst 0, 1) := by decide +kernel
theorem d_Nt_enabledIn_22 : decode prog_4_method_15_code 22 = .ok (.istore 6, 2) := by decide +kernel
theorem d_Nt_enabledIn_24 : decode prog_4_method_15_code 24 = .ok (.iload 6, 2) := by decide +kernel
theorem d_Nt_enabledIn_26 : decode prog_4_method_15_code 26 = .ok (.bipush 7, 2) := by decide +kernel
theorem d_Nt_enabledIn_28 : decode prog_4_method_15_code 28 = .ok (.if_icmp .ge 36, 3) := by decide +kernel
theorem d_Nt_enabledIn_31 : decode prog_4_method_15_code 31 = .ok (.aload_n 0, 1) := by decide +kernel
theorem d_Nt_enabledIn_32 : decode prog_4_method_15_code 32 = .ok (.getfield 18, 3) := by decide +kernel
theorem d_Nt_enabledIn_35 : decode prog_4_method_15_code 35 = .ok (.iload 6, 2) := by decide +kernel
theorem d_Nt_enabledIn_37 : decode prog_4_method_15_code 37 = .ok (.laload, 1) := by decide +kernel
theorem d_Nt_enabledIn_38 : decode prog_4_method_15_code 38 = .ok (.lload_n 3, 1) := by decide +kernel
theorem d_Nt_enabledIn_39 : decode prog_4_method_15_code 39 = .ok (.ldc2_w 66, 3) := by decide +kernel
theorem d_Nt_enabledIn_42 : decode prog_4_method_15_code 42 = .ok (.lxor, 1) := by decide +kernel
theorem d_Nt_enabledIn_43 : decode prog_4_method_15_code 43 = .ok (.land, 1) := by decide +kernel
theorem d_Nt_enabledIn_44 : decode prog_4_method_15_code 44 = .ok (.lconst 0, 1) := by decide +kernel
theorem d_Nt_enabledIn_45 : decode prog_4_method_15_code 45 = .ok (.lcmp, 1) := by decide +kernel
theorem d_Nt_enabledIn_46 : decode prog_4_method_15_code 46 = .ok (.ifCond .ne 12, 3) := by decide +kernel
theorem d_Nt_enabledIn_49 : decode prog_4_method_15_code 49 = .ok (.iload 5, 2) := by decide +kernel
theorem d_Nt_enabledIn_51 : decode prog_4_method_15_code 51 = .ok (.iconst 1, 1) := by decide +kernel
theorem d_Nt_enabledIn_52 : decode prog_4_method_15_code 52 = .ok (.iload 6, 2) := by decide +kernel
theorem d_Nt_enabledIn_54 : decode prog_4_method_15_code 54 = .ok (.ishl, 1) := by decide +kernel
theorem d_Nt_enabledIn_55 : decode prog_4_method_15_code 55 = .ok (.ior, 1) := by decide +kernel
theorem d_Nt_enabledIn_56 : decode prog_4_method_15_code 56 = .ok (.istore 5, 2) := by decide +kernel
theorem d_Nt_enabledIn_58 : decode prog_4_method_15_code 58 = .ok (.iinc 6 1, 3) := by decide +kernel
theorem d_Nt_enabledIn_61 : decode prog_4_method_15_code 61 = .ok (.goto (-37), 3) := by decide +kernel
theorem d_Nt_enabledIn_64 : decode prog_4_method_15_code 64 = .ok (.iload 5, 2) := by decide +kernel
theorem d_Nt_enabledIn_66 : decode prog_4_method_15_code 66 = .ok (.aload_n 0, 1) := by decide +kernel
theorem d_Nt_enabledIn_67 : decode prog_4_method_15_code 67 = .ok (.getfield 38, 3) := by decide +kernel
theorem d_Nt_enabledIn_70 : decode prog_4_method_15_code 70 = .ok (.iand, 1) := by decide +kernel
theorem d_Nt_enabledIn_71 : decode prog_4_method_15_code 71 = .ok (.ireturn, 1) := by decide +kernel
set_option maxRecDepth 20000 in
set_option maxHeartbeats 4000000 in
theorem cN_enabledIn (E : fk_E) (n0 : Nat) (n1 : Nat) (n2 : Nat) (n3 : Nat) (n4 : Nat) (cnt : Nat) (fi : Nat) (la : Nat) (lo : Nat) (me : Nat) (tk : Nat → Nat) (O : Nat → Nat) (x : Nat) (hx : x < 2 ^ 64) (hm : me < 128) (hk : ∀ a, a < 7 → tk a = fm_mk (fs_tak O a)) : fk_C E fy_Nt_enabledIn prog_4_method_15_code 7 (some .int) 0 0 0 [.ref n0, .long (lN x)] [(n0, .inr (2, [.ref n1, .ref n2, .ref n3, .ref n4, .int (nI cnt), .int (nI fi), .int (nI la), .int (nI lo), .int (nI me)])), fk_al E n3 7 tk] (S := Unit) (fun _ => some (.int (nI (fs_ens O me x)))) (fun _ => True) (fun _ => [(n0, .inr (2, [.ref n1, .ref n2, .ref n3, .ref n4, .int (nI cnt), .int (nI fi), .int (nI la), .int (nI lo), .int (nI me)])), fk_al E n3 7 tk]) := by
  refine fk_enterI (v := fun _ => (nI (fs_ens O me x))) (by decide) (Nat.le_of_ble_eq_true rfl) (lv0 := [(0, .ref n0), (1, .long (lN x))]) rfl ?_
  intro K hini hret
  refine fk_lload_n 1 d_Nt_enabledIn_0 rfl ?_
  refine fk_lload_n 1 d_Nt_enabledIn_1 rfl ?_
  refine fk_iconst (v := nI 1) d_Nt_enabledIn_2 (by decide +kernel) ?_
  refine fk_lushr d_Nt_enabledIn_3 (fn_lushr (a := x) (k := 1) (hx) (by decide)) ?_
  refine fk_lorR d_Nt_enabledIn_4 ?_
  refine fk_topl (show lN x ||| lN (x / 2 ^ 1) = lN (x ||| (x / 2 ^ 1)) from fn_lor (hx) (fm_div_lt hx)) ?_
  refine fk_lload_n 1 d_Nt_enabledIn_5 rfl ?_
  refine fk_iconst (v := nI 2) d_Nt_enabledIn_6 (by decide +kernel) ?_
  refine fk_lushr d_Nt_enabledIn_7 (fn_lushr (a := x) (k := 2) (hx) (by decide)) ?_
  refine fk_lorR d_Nt_enabledIn_8 ?_
  refine fk_topl (show lN (x ||| (x / 2 ^ 1)) ||| lN (x / 2 ^ 2) = lN ((x ||| (x / 2 ^ 1)) ||| (x / 2 ^ 2)) from fn_lor (fm_or_lt hx (fm_div_lt hx)) (fm_div_lt hx)) ?_
  refine fk_lload_n 1 d_Nt_enabledIn_9 rfl ?_
  refine fk_iconst (v := nI 3) d_Nt_enabledIn_10 (by decide +kernel) ?_
  refine fk_lushr d_Nt_enabledIn_11 (fn_lushr (a := x) (k := 3) (hx) (by decide)) ?_
  refine fk_lorR d_Nt_enabledIn_12 ?_
  refine fk_topl (show lN ((x ||| (x / 2 ^ 1)) ||| (x / 2 ^ 2)) ||| lN (x / 2 ^ 3) = lN (((x ||| (x / 2 ^ 1)) ||| (x / 2 ^ 2)) ||| (x / 2 ^ 3)) from fn_lor (fm_or_lt (fm_or_lt hx (fm_div_lt hx)) (fm_div_lt hx)) (fm_div_lt hx)) ?_
  refine fk_ldc2 (v := (1229782938247303441 : Int64)) d_Nt_enabledIn_13 fw_372 ?_
  refine fk_topl (show (1229782938247303441 : Int64) = lN 1229782938247303441 by decide +kernel) ?_
  refine fk_landR d_Nt_enabledIn_16 ?_
  refine fk_topl (show lN (((x ||| (x / 2 ^ 1)) ||| (x / 2 ^ 2)) ||| (x / 2 ^ 3)) &&& lN 1229782938247303441 = lN ((((x ||| (x / 2 ^ 1)) ||| (x / 2 ^ 2)) ||| (x / 2 ^ 3)) &&& 1229782938247303441) from fn_land (fm_or_lt (fm_or_lt (fm_or_lt hx (fm_div_lt hx)) (fm_div_lt hx)) (fm_div_lt hx)) (by decide)) ?_
  refine fk_topl (show (lN ((((x ||| (x / 2 ^ 1)) ||| (x / 2 ^ 2)) ||| (x / 2 ^ 3)) &&& 1229782938247303441)) = (lN (fm_held x)) from rfl) ?_
  refine fk_lstore_n (lv' := [(0, .ref n0), (1, .long (lN x)), (3, .long (lN (fm_held x)))]) d_Nt_enabledIn_17 rfl (Nat.le_of_ble_eq_true rfl) [1, 2, 0] rfl ?_
  refine fk_iconst (v := nI 0) d_Nt_enabledIn_18 (by decide +kernel) ?_
  refine fk_istore (lv' := [(0, .ref n0), (1, .long (lN x)), (3, .long (lN (fm_held x))), (5, .int (nI 0))]) d_Nt_enabledIn_19 (Nat.le_of_ble_eq_true rfl) [1, 2, 3, 0] rfl ?_
  refine fk_iconst (v := nI 0) d_Nt_enabledIn_21 (by decide +kernel) ?_
  refine fk_istore (lv' := [(0, .ref n0), (1, .long (lN x)), (3, .long (lN (fm_held x))), (5, .int (nI 0)), (6, .int (nI 0))]) d_Nt_enabledIn_22 (Nat.le_of_ble_eq_true rfl) [1, 2, 3, 4, 0] rfl ?_
  have L24 : ∀ (fuel : Nat) (s : Nat) (i : Nat), (i ≤ 7) → (s = fs_set (fs_can O x) i) → 7 - i < fuel → fk_V E (prog_4_method_15_code, fy_Nt_enabledIn.cls, 7, fk_rm 0 0 0) K (0, 0) [(n0, .inr (2, [.ref n1, .ref n2, .ref n3, .ref n4, .int (nI cnt), .int (nI fi), .int (nI la), .int (nI lo), .int (nI me)])), fk_al E n3 7 tk] 24 [(0, .ref n0), (3, .long (lN (fm_held x))), (5, .int (nI s)), (6, .int (nI i))] [] := by
    intro fuel
    induction fuel with
    | zero => intro s i _ _ hm; exact absurd hm (Nat.not_lt_zero _)
    | succ fuel ih =>
      intro s i h1 h2 hm24
      have ih24 := ih
      clear ih
      refine fk_iload 3 d_Nt_enabledIn_24 rfl ?_
      refine fk_bipush (v := nI 7) d_Nt_enabledIn_26 (by decide +kernel) ?_
      refine fk_icmp_ge (a := i) (b := 7) (by omega) (by omega) d_Nt_enabledIn_28 rfl (fun h28t => ?_) (fun h28f => ?_)
      · refine fk_iload 2 d_Nt_enabledIn_64 rfl ?_
        refine fk_aload_n 0 d_Nt_enabledIn_66 rfl ?_
        refine fk_get 0 8 rfl rfl fh_Nt (Nat.le_of_ble_eq_true rfl) fw_52 rfl d_Nt_enabledIn_67 ?_
        refine fk_iand (a := s) (b := me) d_Nt_enabledIn_70 ?_
        refine fk_top (congrArg nI (show s &&& me = fs_ens O me x from by rw [h2, show i = 7 by omega]; exact fs_ens_and hm)) ?_
        exact hret (0, 0) _ 71 _ () d_Nt_enabledIn_71 (trivial) (rfl)
      · have h9 := hk i h28f
        have h8 : tk i < 2 ^ 64 := by rw [h9]; exact fm_mk_lt _
        have h7 : fm_held x ^^^ 18446744073709551615 < 2 ^ 64 := Nat.xor_lt_two_pow (fm_held_lt x) (by decide)
        refine fk_aload_n 0 d_Nt_enabledIn_31 rfl ?_
        refine fk_get 0 2 rfl rfl fh_Nt (Nat.le_of_ble_eq_true rfl) fw_46 rfl d_Nt_enabledIn_32 ?_
        refine fk_iload 3 d_Nt_enabledIn_35 rfl ?_
        refine fk_ld_al (i := i) 1 rfl (by omega) (by decide) d_Nt_enabledIn_37 ?_
        refine fk_lload_n 1 d_Nt_enabledIn_38 rfl ?_
        refine fk_ldc2 (v := (-1 : Int64)) d_Nt_enabledIn_39 fw_373 ?_
        refine fk_topl (show (-1 : Int64) = lN 18446744073709551615 by decide +kernel) ?_
        refine fk_lxorR d_Nt_enabledIn_42 ?_
        refine fk_topl (show lN (fm_held x) ^^^ lN 18446744073709551615 = lN ((fm_held x) ^^^ 18446744073709551615) from fn_lxor (fm_held_lt x) (by decide)) ?_
        refine fk_landR d_Nt_enabledIn_43 ?_
        refine fk_topl (show lN (tk i) &&& lN ((fm_held x) ^^^ 18446744073709551615) = lN ((tk i) &&& ((fm_held x) ^^^ 18446744073709551615)) from fn_land (h8) (h7)) ?_
        refine fk_lconst (v := lN 0) d_Nt_enabledIn_44 rfl ?_
        refine fk_lcmpR d_Nt_enabledIn_45 ?_
        refine fk_cmp_ne (a := ((tk i) &&& ((fm_held x) ^^^ 18446744073709551615))) (b := 0) (Nat.lt_of_le_of_lt Nat.and_le_left h8) (by decide) d_Nt_enabledIn_46 rfl (fun h46t => ?_) (fun h46f => ?_)
        · rw [h9] at h46t
          refine fk_iinc (j := 3) (lv' := [(0, .ref n0), (3, .long (lN (fm_held x))), (5, .int (nI s)), (6, .int (nI (i + 1)))]) (i + 1) d_Nt_enabledIn_58 rfl (nI_1 i) (Nat.le_of_ble_eq_true rfl) [1, 2, 3, 0] rfl ?_
          refine fk_goto d_Nt_enabledIn_61 rfl ?_
          refine ih24 _ _ ?_ ?_ ?_
          · first | omega | assumption | exact Nat.zero_le _
          · first | (rw [h2]; exact fs_set_t (fs_can_en.mp h46f)) | (rw [h2]; refine fs_set_f ?_; cases hq : fs_can O x i with | false => rfl | true => exact absurd (fs_can_en.mpr hq) h46t)
          · omega
        · rw [h9] at h46f
          refine fk_iload 2 d_Nt_enabledIn_49 rfl ?_
          refine fk_iconst (v := nI 1) d_Nt_enabledIn_51 (by decide +kernel) ?_
          refine fk_iload 3 d_Nt_enabledIn_52 rfl ?_
          refine fk_ishl (a := 1) (b := i) d_Nt_enabledIn_54 (by omega) (by have := fb_pow_lt h28f; omega) ?_
          refine fk_top (show nI (1 * 2 ^ i) = nI (2 ^ i) by rw [Nat.one_mul]) ?_
          refine fk_ior (a := s) (b := (2 ^ i)) d_Nt_enabledIn_55 ?_
          refine fk_istore (lv' := [(0, .ref n0), (3, .long (lN (fm_held x))), (5, .int (nI (s ||| (2 ^ i)))), (6, .int (nI i))]) d_Nt_enabledIn_56 (Nat.le_of_ble_eq_true rfl) [1, 2, 0, 3] rfl ?_
          refine fk_iinc (j := 3) (lv' := [(0, .ref n0), (3, .long (lN (fm_held x))), (5, .int (nI (s ||| (2 ^ i)))), (6, .int (nI (i + 1)))]) (i + 1) d_Nt_enabledIn_58 rfl (nI_1 i) (Nat.le_of_ble_eq_true rfl) [1, 2, 3, 0] rfl ?_
          refine fk_goto d_Nt_enabledIn_61 rfl ?_
          refine ih24 _ _ ?_ ?_ ?_
          · first | omega | assumption | exact Nat.zero_le _
          · first | (rw [h2]; exact fs_set_t (fs_can_en.mp h46f)) | (rw [h2]; refine fs_set_f ?_; cases hq : fs_can O x i with | false => rfl | true => exact absurd (fs_can_en.mpr hq) h46t)
          · omega
  refine fk_lv (lv' := [(0, .ref n0), (3, .long (lN (fm_held x))), (5, .int (nI 0)), (6, .int (nI 0))]) [0, 2, 3, 4] rfl ?_
  refine L24 _ _ _ ?_ ?_ (Nat.lt_succ_self _)
  · first | omega | assumption | exact Nat.zero_le _
  · rfl
theorem d_Nt_afterFiring_0 : decode prog_4_method_16_code 0 = .ok (.lload_n 1, 1) := by decide +kernel
theorem d_Nt_afterFiring_1 : decode prog_4_method_16_code 1 = .ok (.aload_n 0, 1) := by decide +kernel
theorem d_Nt_afterFiring_2 : decode prog_4_method_16_code 2 = .ok (.getfield 18, 3) := by decide +kernel
theorem d_Nt_afterFiring_5 : decode prog_4_method_16_code 5 = .ok (.iload_n 3, 1) := by decide +kernel
theorem d_Nt_afterFiring_6 : decode prog_4_method_16_code 6 = .ok (.laload, 1) := by decide +kernel
theorem d_Nt_afterFiring_7 : decode prog_4_method_16_code 7 = .ok (.lsub, 1) := by decide +kernel
theorem d_Nt_afterFiring_8 : decode prog_4_method_16_code 8 = .ok (.aload_n 0, 1) := by decide +kernel
theorem d_Nt_afterFiring_9 : decode prog_4_method_16_code 9 = .ok (.getfield 22, 3) := by decide +kernel
theorem d_Nt_afterFiring_12 : decode prog_4_method_16_code 12 = .ok (.iload_n 3, 1) := by decide +kernel
theorem d_Nt_afterFiring_13 : decode prog_4_method_16_code 13 = .ok (.laload, 1) := by decide +kernel
theorem d_Nt_afterFiring_14 : decode prog_4_method_16_code 14 = .ok (.ladd, 1) := by decide +kernel
theorem d_Nt_afterFiring_15 : decode prog_4_method_16_code 15 = .ok (.lreturn, 1) := by decide +kernel
set_option maxRecDepth 20000 in
set_option maxHeartbeats 4000000 in
theorem cN_afterFiring (E : fk_E) (n0 : Nat) (n1 : Nat) (n2 : Nat) (n3 : Nat) (n4 : Nat) (cnt : Nat) (fi : Nat) (la : Nat) (lo : Nat) (me : Nat) (tk : Nat → Nat) (pu : Nat → Nat) (O : Nat → Nat) (I : Nat → Nat) (x : Nat) (a : Nat) (hx : x < 2 ^ 64) (ha : a < 7) (hk : ∀ a, a < 7 → tk a = fm_mk (fs_tak O a)) (hu : ∀ a, a < 7 → pu a = fm_mk (fs_tak I a)) (hc : fs_can O x a = true) : fk_C E fy_Nt_afterFiring prog_4_method_16_code 4 (some .long) 0 0 0 [.ref n0, .long (lN x), .int (nI a)] [(n0, .inr (2, [.ref n1, .ref n2, .ref n3, .ref n4, .int (nI cnt), .int (nI fi), .int (nI la), .int (nI lo), .int (nI me)])), fk_al E n3 7 tk, fk_al E n4 7 pu] (S := Unit) (fun _ => some (.long (lN (fs_fire O I x a)))) (fun _ => True) (fun _ => [(n0, .inr (2, [.ref n1, .ref n2, .ref n3, .ref n4, .int (nI cnt), .int (nI fi), .int (nI la), .int (nI lo), .int (nI me)])), fk_al E n3 7 tk, fk_al E n4 7 pu]) := by
  refine fk_enterL (v := fun _ => (lN (fs_fire O I x a))) (by decide) (Nat.le_of_ble_eq_true rfl) (lv0 := [(0, .ref n0), (1, .long (lN x)), (3, .int (nI a))]) rfl ?_
  intro K hini hret
  refine fk_lload_n 1 d_Nt_afterFiring_0 rfl ?_
  refine fk_aload_n 0 d_Nt_afterFiring_1 rfl ?_
  refine fk_get 0 2 rfl rfl fh_Nt (Nat.le_of_ble_eq_true rfl) fw_46 rfl d_Nt_afterFiring_2 ?_
  refine fk_iload_n 2 d_Nt_afterFiring_5 rfl ?_
  refine fk_ld_al (i := a) 1 rfl (by omega) (by decide) d_Nt_afterFiring_6 ?_
  refine fk_lsubR d_Nt_afterFiring_7 ?_
  refine fk_topl (show lN x - lN (tk a) = lN (x - (tk a)) from fn_lsub (by rw [hk a ha]; have := fm_take_le (fs_tak O a) hx (fs_can_iff.mp hc); omega)) ?_
  refine fk_aload_n 0 d_Nt_afterFiring_8 rfl ?_
  refine fk_get 0 3 rfl rfl fh_Nt (Nat.le_of_ble_eq_true rfl) fw_47 rfl d_Nt_afterFiring_9 ?_
  refine fk_iload_n 2 d_Nt_afterFiring_12 rfl ?_
  refine fk_ld_al (i := a) 2 rfl (by omega) (by decide) d_Nt_afterFiring_13 ?_
  refine fk_laddR d_Nt_afterFiring_14 ?_
  refine fk_topl (show lN (x - (tk a)) + lN (pu a) = lN ((x - (tk a)) + (pu a)) from fn_ladd) ?_
  refine fk_topl (congrArg lN (show (x - (tk a)) + (pu a) = fs_fire O I x a from by rw [hk a ha, hu a ha]; exact fm_fire_eq _ _ hx (fs_can_iff.mp hc))) ?_
  exact hret (0, 0) _ 15 _ () d_Nt_afterFiring_15 (trivial) (rfl)
theorem d_It_bitCount_0 : decode prog_9_method_49_code 0 = .ok (.iload_n 0, 1) := by decide +kernel
theorem d_It_bitCount_1 : decode prog_9_method_49_code 1 = .ok (.iload_n 0, 1) := by decide +kernel
theorem d_It_bitCount_2 : decode prog_9_method_49_code 2 = .ok (.iconst 1, 1) := by decide +kernel
theorem d_It_bitCount_3 : decode prog_9_method_49_code 3 = .ok (.iushr, 1) := by decide +kernel
theorem d_It_bitCount_4 : decode prog_9_method_49_code 4 = .ok (.ldc_w 265, 3) := by decide +kernel
theorem d_It_bitCount_7 : decode prog_9_method_49_code 7 = .ok (.iand, 1) := by decide +kernel
theorem d_It_bitCount_8 : decode prog_9_method_49_code 8 = .ok (.isub, 1) := by decide +kernel
theorem d_It_bitCount_9 : decode prog_9_method_49_code 9 = .ok (.istore_n 0, 1) := by decide +kernel
theorem d_It_bitCount_10 : decode prog_9_method_49_code 10 = .ok (.iload_n 0, 1) := by decide +kernel
theorem d_It_bitCount_11 : decode prog_9_method_49_code 11 = .ok (.ldc_w 266, 3) := by decide +kernel
theorem d_It_bitCount_14 : decode prog_9_method_49_code 14 = .ok (.iand, 1) := by decide +kernel
theorem d_It_bitCount_15 : decode prog_9_method_49_code 15 = .ok (.iload_n 0, 1) := by decide +kernel
theorem d_It_bitCount_16 : decode prog_9_method_49_code 16 = .ok (.iconst 2, 1) := by decide +kernel
theorem d_It_bitCount_17 : decode prog_9_method_49_code 17 = .ok (.iushr, 1) := by decide +kernel
theorem d_It_bitCount_18 : decode prog_9_method_49_code 18 = .ok (.ldc_w 266, 3) := by decide +kernel
theorem d_It_bitCount_21 : decode prog_9_method_49_code 21 = .ok (.iand, 1) := by decide +kernel
theorem d_It_bitCount_22 : decode prog_9_method_49_code 22 = .ok (.iadd, 1) := by decide +kernel
theorem d_It_bitCount_23 : decode prog_9_method_49_code 23 = .ok (.istore_n 0, 1) := by decide +kernel
theorem d_It_bitCount_24 : decode prog_9_method_49_code 24 = .ok (.iload_n 0, 1) := by decide +kernel
theorem d_It_bitCount_25 : decode prog_9_method_49_code 25 = .ok (.iload_n 0, 1) := by decide +kernel
theorem d_It_bitCount_26 : decode prog_9_method_49_code 26 = .ok (.iconst 4, 1) := by decide +kernel
theorem d_It_bitCount_27 : decode prog_9_method_49_code 27 = .ok (.iushr, 1) := by decide +kernel
theorem d_It_bitCount_28 : decode prog_9_method_49_code 28 = .ok (.iadd, 1) := by decide +kernel
theorem d_It_bitCount_29 : decode prog_9_method_49_code 29 = .ok (.ldc_w 267, 3) := by decide +kernel
theorem d_It_bitCount_32 : decode prog_9_method_49_code 32 = .ok (.iand, 1) := by decide +kernel
theorem d_It_bitCount_33 : decode prog_9_method_49_code 33 = .ok (.istore_n 0, 1) := by decide +kernel
theorem d_It_bitCount_34 : decode prog_9_method_49_code 34 = .ok (.iload_n 0, 1) := by decide +kernel
theorem d_It_bitCount_35 : decode prog_9_method_49_code 35 = .ok (.iload_n 0, 1) := by decide +kernel
theorem d_It_bitCount_36 : decode prog_9_method_49_code 36 = .ok (.bipush 8, 2) := by decide +kernel
theorem d_It_bitCount_38 : decode prog_9_method_49_code 38 = .ok (.iushr, 1) := by decide +kernel
theorem d_It_bitCount_39 : decode prog_9_method_49_code 39 = .ok (.iadd, 1) := by decide +kernel
theorem d_It_bitCount_40 : decode prog_9_method_49_code 40 = .ok (.istore_n 0, 1) := by decide +kernel
theorem d_It_bitCount_41 : decode prog_9_method_49_code 41 = .ok (.iload_n 0, 1) := by decide +kernel
theorem d_It_bitCount_42 : decode prog_9_method_49_code 42 = .ok (.iload_n 0, 1) := by decide +kernel
theorem d_It_bitCount_43 : decode prog_9_method_49_code 43 = .ok (.bipush 16, 2) := by decide +kernel
theorem d_It_bitCount_45 : decode prog_9_method_49_code 45 = .ok (.iushr, 1) := by decide +kernel
theorem d_It_bitCount_46 : decode prog_9_method_49_code 46 = .ok (.iadd, 1) := by decide +kernel
theorem d_It_bitCount_47 : decode prog_9_method_49_code 47 = .ok (.istore_n 0, 1) := by decide +kernel
theorem d_It_bitCount_48 : decode prog_9_method_49_code 48 = .ok (.iload_n 0, 1) := by decide +kernel
theorem d_It_bitCount_49 : decode prog_9_method_49_code 49 = .ok (.bipush 63, 2) := by decide +kernel
theorem d_It_bitCount_51 : decode prog_9_method_49_code 51 = .ok (.iand, 1) := by decide +kernel
theorem d_It_bitCount_52 : decode prog_9_method_49_code 52 = .ok (.ireturn, 1) := by decide +kernel
set_option maxRecDepth 20000 in
set_option maxHeartbeats 4000000 in
theorem cI_bitCount (E : fk_E) (v : Nat) (hv : v < 128) : fk_C E fy_It_bitCount prog_9_method_49_code 1 (some .int) 0 0 0 [.int (nI v)] [] (S := Unit) (fun _ => some (.int (nI (fs_bc v 7)))) (fun _ => True) (fun _ => []) := by
  refine fk_enterI (v := fun _ => (nI (fs_bc v 7))) (by decide) (Nat.le_of_ble_eq_true rfl) (lv0 := [(0, .int (nI v))]) rfl ?_
  intro K hini hret
  refine fk_iload_n 0 d_It_bitCount_0 rfl ?_
  refine fk_iload_n 0 d_It_bitCount_1 rfl ?_
  refine fk_iconst (v := nI 1) d_It_bitCount_2 (by decide +kernel) ?_
  refine fk_iushr d_It_bitCount_3 (fn_iushr (a := v) (k := 1) (by omega) (by decide)) ?_
  refine fk_ldcw (v := (1431655765 : Int32)) d_It_bitCount_4 fw_455 ?_
  refine fk_top (show (1431655765 : Int32) = nI 1431655765 by decide +kernel) ?_
  refine fk_iand (a := (v / 2 ^ 1)) (b := 1431655765) d_It_bitCount_7 ?_
  refine fk_isub (a := v) (b := ((v / 2 ^ 1) &&& 1431655765)) d_It_bitCount_8 ((fs_b_le v hv).1) ?_
  refine fk_top (show (nI (v - ((v / 2 ^ 1) &&& 1431655765))) = (nI (fs_b1 v)) from rfl) ?_
  refine fk_istore_n (lv' := [(0, .int (nI (fs_b1 v)))]) d_It_bitCount_9 rfl (Nat.le_of_ble_eq_true rfl) [0] rfl ?_
  refine fk_iload_n 0 d_It_bitCount_10 rfl ?_
  refine fk_ldcw (v := (858993459 : Int32)) d_It_bitCount_11 fw_456 ?_
  refine fk_top (show (858993459 : Int32) = nI 858993459 by decide +kernel) ?_
  refine fk_iand (a := (fs_b1 v)) (b := 858993459) d_It_bitCount_14 ?_
  refine fk_iload_n 0 d_It_bitCount_15 rfl ?_
  refine fk_iconst (v := nI 2) d_It_bitCount_16 (by decide +kernel) ?_
  refine fk_iushr d_It_bitCount_17 (fn_iushr (a := (fs_b1 v)) (k := 2) (by have := (fs_b_le v hv).2.1; omega) (by decide)) ?_
  refine fk_ldcw (v := (858993459 : Int32)) d_It_bitCount_18 fw_456 ?_
  refine fk_top (show (858993459 : Int32) = nI 858993459 by decide +kernel) ?_
  refine fk_iand (a := ((fs_b1 v) / 2 ^ 2)) (b := 858993459) d_It_bitCount_21 ?_
  refine fk_iadd (a := ((fs_b1 v) &&& 858993459)) (b := (((fs_b1 v) / 2 ^ 2) &&& 858993459)) d_It_bitCount_22 ?_
  refine fk_top (show (nI (((fs_b1 v) &&& 858993459) + (((fs_b1 v) / 2 ^ 2) &&& 858993459))) = (nI (fs_b2 (fs_b1 v))) from rfl) ?_
  refine fk_istore_n (lv' := [(0, .int (nI (fs_b2 (fs_b1 v))))]) d_It_bitCount_23 rfl (Nat.le_of_ble_eq_true rfl) [0] rfl ?_
  refine fk_iload_n 0 d_It_bitCount_24 rfl ?_
  refine fk_iload_n 0 d_It_bitCount_25 rfl ?_
  refine fk_iconst (v := nI 4) d_It_bitCount_26 (by decide +kernel) ?_
  refine fk_iushr d_It_bitCount_27 (fn_iushr (a := (fs_b2 (fs_b1 v))) (k := 4) (by have := (fs_b_le v hv).2.2.1; omega) (by decide)) ?_
  refine fk_iadd (a := (fs_b2 (fs_b1 v))) (b := ((fs_b2 (fs_b1 v)) / 2 ^ 4)) d_It_bitCount_28 ?_
  refine fk_ldcw (v := (252645135 : Int32)) d_It_bitCount_29 fw_457 ?_
  refine fk_top (show (252645135 : Int32) = nI 252645135 by decide +kernel) ?_
  refine fk_iand (a := ((fs_b2 (fs_b1 v)) + ((fs_b2 (fs_b1 v)) / 2 ^ 4))) (b := 252645135) d_It_bitCount_32 ?_
  refine fk_top (show (nI (((fs_b2 (fs_b1 v)) + ((fs_b2 (fs_b1 v)) / 2 ^ 4)) &&& 252645135)) = (nI (fs_b3 (fs_b2 (fs_b1 v)))) from rfl) ?_
  refine fk_istore_n (lv' := [(0, .int (nI (fs_b3 (fs_b2 (fs_b1 v)))))]) d_It_bitCount_33 rfl (Nat.le_of_ble_eq_true rfl) [0] rfl ?_
  refine fk_iload_n 0 d_It_bitCount_34 rfl ?_
  refine fk_iload_n 0 d_It_bitCount_35 rfl ?_
  refine fk_bipush (v := nI 8) d_It_bitCount_36 (by decide +kernel) ?_
  refine fk_iushr d_It_bitCount_38 (fn_iushr (a := (fs_b3 (fs_b2 (fs_b1 v)))) (k := 8) (by have := (fs_b_le v hv).2.2.2.1; omega) (by decide)) ?_
  refine fk_iadd (a := (fs_b3 (fs_b2 (fs_b1 v)))) (b := ((fs_b3 (fs_b2 (fs_b1 v))) / 2 ^ 8)) d_It_bitCount_39 ?_
  refine fk_top (show (nI ((fs_b3 (fs_b2 (fs_b1 v))) + ((fs_b3 (fs_b2 (fs_b1 v))) / 2 ^ 8))) = (nI (fs_b4 (fs_b3 (fs_b2 (fs_b1 v))))) from rfl) ?_
  refine fk_istore_n (lv' := [(0, .int (nI (fs_b4 (fs_b3 (fs_b2 (fs_b1 v))))))]) d_It_bitCount_40 rfl (Nat.le_of_ble_eq_true rfl) [0] rfl ?_
  refine fk_iload_n 0 d_It_bitCount_41 rfl ?_
  refine fk_iload_n 0 d_It_bitCount_42 rfl ?_
  refine fk_bipush (v := nI 16) d_It_bitCount_43 (by decide +kernel) ?_
  refine fk_iushr d_It_bitCount_45 (fn_iushr (a := (fs_b4 (fs_b3 (fs_b2 (fs_b1 v))))) (k := 16) (by have := (fs_b_le v hv).2.2.2.2; omega) (by decide)) ?_
  refine fk_iadd (a := (fs_b4 (fs_b3 (fs_b2 (fs_b1 v))))) (b := ((fs_b4 (fs_b3 (fs_b2 (fs_b1 v)))) / 2 ^ 16)) d_It_bitCount_46 ?_
  refine fk_top (show (nI ((fs_b4 (fs_b3 (fs_b2 (fs_b1 v)))) + ((fs_b4 (fs_b3 (fs_b2 (fs_b1 v)))) / 2 ^ 16))) = (nI (fs_b5 (fs_b4 (fs_b3 (fs_b2 (fs_b1 v)))))) from rfl) ?_
  refine fk_istore_n (lv' := [(0, .int (nI (fs_b5 (fs_b4 (fs_b3 (fs_b2 (fs_b1 v)))))))]) d_It_bitCount_47 rfl (Nat.le_of_ble_eq_true rfl) [0] rfl ?_
  refine fk_iload_n 0 d_It_bitCount_48 rfl ?_
  refine fk_bipush (v := nI 63) d_It_bitCount_49 (by decide +kernel) ?_
  refine fk_iand (a := (fs_b5 (fs_b4 (fs_b3 (fs_b2 (fs_b1 v)))))) (b := 63) d_It_bitCount_51 ?_
  refine fk_top (congrArg nI (show (fs_b5 (fs_b4 (fs_b3 (fs_b2 (fs_b1 v))))) &&& 63 = fs_bc v 7 from fs_bc_eq v hv)) ?_
  exact hret (0, 0) _ 52 _ () d_It_bitCount_52 (trivial) (rfl)
theorem d_Nt_hasSelfLoop_0 : decode prog_4_method_17_code 0 = .ok (.iconst 0, 1) := by decide +kernel
theorem d_Nt_hasSelfLoop_1 : decode prog_4_method_17_code 1 = .ok (.istore_n 1, 1) := by decide +kernel
theorem d_Nt_hasSelfLoop_2 : decode prog_4_method_17_code 2 = .ok (.iload_n 1, 1) := by decide +kernel
theorem d_Nt_hasSelfLoop_3 : decode prog_4_method_17_code 3 = .ok (.aload_n 0, 1) := by decide +kernel
theorem d_Nt_hasSelfLoop_4 : decode prog_4_method_17_code 4 = .ok (.getfield 25, 3) := by decide +kernel
theorem d_Nt_hasSelfLoop_7 : decode prog_4_method_17_code 7 = .ok (.if_icmp .ge 27, 3) := by decide +kernel
theorem d_Nt_hasSelfLoop_10 : decode prog_4_method_17_code 10 = .ok (.aload_n 0, 1) := by decide +kernel
theorem d_Nt_hasSelfLoop_11 : decode prog_4_method_17_code 11 = .ok (.getfield 9, 3) := by decide +kernel
theorem d_Nt_hasSelfLoop_14 : decode prog_4_method_17_code 14 = .ok (.iload_n 1, 1) := by decide +kernel
theorem d_Nt_hasSelfLoop_15 : decode prog_4_method_17_code 15 = .ok (.iaload, 1) := by decide +kernel
theorem d_Nt_hasSelfLoop_16 : decode prog_4_method_17_code 16 = .ok (.aload_n 0, 1) := by decide +kernel
theorem d_Nt_hasSelfLoop_17 : decode prog_4_method_17_code 17 = .ok (.getfield 15, 3) := by decide +kernel
theorem d_Nt_hasSelfLoop_20 : decode prog_4_method_17_code 20 = .ok (.iload_n 1, 1) := by decide +kernel
theorem d_Nt_hasSelfLoop_21 : decode prog_4_method_17_code 21 = .ok (.iaload, 1) := by decide +kernel
theorem d_Nt_hasSelfLoop_22 : decode prog_4_method_17_code 22 = .ok (.iand, 1) := by decide +kernel
theorem d_Nt_hasSelfLoop_23 : decode prog_4_method_17_code 23 = .ok (.ifCond .eq 5, 3) := by decide +kernel
theorem d_Nt_hasSelfLoop_26 : decode prog_4_method_17_code 26 = .ok (.iconst 1, 1) := by decide +kernel
theorem d_Nt_hasSelfLoop_27 : decode prog_4_method_17_code 27 = .ok (.ireturn, 1) := by decide +kernel
theorem d_Nt_hasSelfLoop_28 : decode prog_4_method_17_code 28 = .ok (.iinc 1 1, 3) := by decide +kernel
theorem d_Nt_hasSelfLoop_31 : decode prog_4_method_17_code 31 = .ok (.goto (-29), 3) := by decide +kernel
theorem d_Nt_hasSelfLoop_34 : decode prog_4_method_17_code 34 = .ok (.iconst 0, 1) := by decide +kernel
theorem d_Nt_hasSelfLoop_35 : decode prog_4_method_17_code 35 = .ok (.ireturn, 1) := by decide +kernel
set_option maxRecDepth 20000 in
set_option maxHeartbeats 4000000 in
theorem cN_hasSelfLoop (E : fk_E) (n0 : Nat) (n1 : Nat) (n2 : Nat) (n3 : Nat) (n4 : Nat) (cnt : Nat) (fi : Nat) (la : Nat) (lo : Nat) (me : Nat) (ins : Nat → Nat) (outs : Nat → Nat) (hc : cnt ≤ 14) (hb : ∀ j, j < cnt → ins j < 128 ∧ outs j < 128) : fk_C E fy_Nt_hasSelfLoop prog_4_method_17_code 2 (some .boolean) 0 0 0 [.ref n0] [(n0, .inr (2, [.ref n1, .ref n2, .ref n3, .ref n4, .int (nI cnt), .int (nI fi), .int (nI la), .int (nI lo), .int (nI me)])), fk_ai E n1 14 ins, fk_ai E n2 14 outs] (S := Unit) (fun _ => some (.int (nI (Bool.toNat (fs_any (fun z9 => decide (ins z9 &&& outs z9 ≠ 0)) cnt))))) (fun _ => True) (fun _ => [(n0, .inr (2, [.ref n1, .ref n2, .ref n3, .ref n4, .int (nI cnt), .int (nI fi), .int (nI la), .int (nI lo), .int (nI me)])), fk_ai E n1 14 ins, fk_ai E n2 14 outs]) := by
  refine fk_enterZ (v := fun _ => fs_any (fun z9 => decide (ins z9 &&& outs z9 ≠ 0)) cnt) (by decide) (Nat.le_of_ble_eq_true rfl) (lv0 := [(0, .ref n0)]) rfl ?_
  intro K hini hret
  refine fk_iconst (v := nI 0) d_Nt_hasSelfLoop_0 (by decide +kernel) ?_
  refine fk_istore_n (lv' := [(0, .ref n0), (1, .int (nI 0))]) d_Nt_hasSelfLoop_1 rfl (Nat.le_of_ble_eq_true rfl) [1, 0] rfl ?_
  have L2 : ∀ (fuel : Nat) (k : Nat), (k ≤ cnt) → (∀ j, j < k → decide (ins j &&& outs j ≠ 0) = false) → cnt - k < fuel → fk_V E (prog_4_method_17_code, fy_Nt_hasSelfLoop.cls, 2, fk_rm 0 0 0) K (0, 0) [(n0, .inr (2, [.ref n1, .ref n2, .ref n3, .ref n4, .int (nI cnt), .int (nI fi), .int (nI la), .int (nI lo), .int (nI me)])), fk_ai E n1 14 ins, fk_ai E n2 14 outs] 2 [(0, .ref n0), (1, .int (nI k))] [] := by
    intro fuel
    induction fuel with
    | zero => intro k _ _ hm; exact absurd hm (Nat.not_lt_zero _)
    | succ fuel ih =>
      intro k h1 h2 hm2
      have ih2 := ih
      clear ih
      refine fk_iload_n 1 d_Nt_hasSelfLoop_2 rfl ?_
      refine fk_aload_n 0 d_Nt_hasSelfLoop_3 rfl ?_
      refine fk_get 0 4 rfl rfl fh_Nt (Nat.le_of_ble_eq_true rfl) fw_48 rfl d_Nt_hasSelfLoop_4 ?_
      refine fk_icmp_ge (a := k) (b := cnt) (by omega) (by omega) d_Nt_hasSelfLoop_7 rfl (fun h7t => ?_) (fun h7f => ?_)
      · refine fk_iconst (v := nI 0) d_Nt_hasSelfLoop_34 (by decide +kernel) ?_
        refine fk_top (fn_rf (b := fs_any (fun z9 => decide (ins z9 &&& outs z9 ≠ 0)) cnt) (fs_any_f.mpr (fun j hj => h2 j (by omega)))) ?_
        exact hret (0, 0) _ 35 _ () d_Nt_hasSelfLoop_35 (trivial) (rfl)
      · refine fk_aload_n 0 d_Nt_hasSelfLoop_10 rfl ?_
        refine fk_get 0 0 rfl rfl fh_Nt (Nat.le_of_ble_eq_true rfl) fw_44 rfl d_Nt_hasSelfLoop_11 ?_
        refine fk_iload_n 1 d_Nt_hasSelfLoop_14 rfl ?_
        refine fk_ld_ai (i := k) 1 rfl (by omega) (by decide) d_Nt_hasSelfLoop_15 ?_
        refine fk_aload_n 0 d_Nt_hasSelfLoop_16 rfl ?_
        refine fk_get 0 1 rfl rfl fh_Nt (Nat.le_of_ble_eq_true rfl) fw_45 rfl d_Nt_hasSelfLoop_17 ?_
        refine fk_iload_n 1 d_Nt_hasSelfLoop_20 rfl ?_
        refine fk_ld_ai (i := k) 2 rfl (by omega) (by decide) d_Nt_hasSelfLoop_21 ?_
        refine fk_iand (a := (ins k)) (b := (outs k)) d_Nt_hasSelfLoop_22 ?_
        refine fk_if_eq (a := ((ins k) &&& (outs k))) (by have := fb_and_lt (a := ins k) (hb k h7f).2; omega) d_Nt_hasSelfLoop_23 rfl (fun h23t => ?_) (fun h23f => ?_)
        · refine fk_iinc (j := 1) (lv' := [(0, .ref n0), (1, .int (nI (k + 1)))]) (k + 1) d_Nt_hasSelfLoop_28 rfl (nI_1 k) (Nat.le_of_ble_eq_true rfl) [1, 0] rfl ?_
          refine fk_goto d_Nt_hasSelfLoop_31 rfl ?_
          refine ih2 _ ?_ ?_ ?_
          · first | omega | assumption | exact Nat.zero_le _
          · exact fs_lt_s (f := fun j => decide (ins j &&& outs j ≠ 0)) h2 (by simp [h23t])
          · omega
        · refine fk_iconst (v := nI 1) d_Nt_hasSelfLoop_26 (by decide +kernel) ?_
          refine fk_top (fn_rt (b := fs_any (fun z9 => decide (ins z9 &&& outs z9 ≠ 0)) cnt) (fs_any_t h7f (by simp [h23f]))) ?_
          exact hret (0, 0) _ 27 _ () d_Nt_hasSelfLoop_27 (trivial) (rfl)
  refine L2 _ _ ?_ ?_ (Nat.lt_succ_self _)
  · first | omega | assumption | exact Nat.zero_le _
  · exact fs_lt_0
theorem d_Nt_hasShortLoop_0 : decode prog_4_method_18_code 0 = .ok (.iconst 0, 1) := by decide +kernel
theorem d_Nt_hasShortLoop_1 : decode prog_4_method_18_code 1 = .ok (.istore_n 1, 1) := by decide +kernel
theorem d_Nt_hasShortLoop_2 : decode prog_4_method_18_code 2 = .ok (.iload_n 1, 1) := by decide +kernel
theorem d_Nt_hasShortLoop_3 : decode prog_4_method_18_code 3 = .ok (.aload_n 0, 1) := by decide +kernel
theorem d_Nt_hasShortLoop_4 : decode prog_4_method_18_code 4 = .ok (.getfield 25, 3) := by decide +kernel
theorem d_Nt_hasShortLoop_7 : decode prog_4_method_18_code 7 = .ok (.if_icmp .ge 76, 3) := by decide +kernel
theorem d_Nt_hasShortLoop_10 : decode prog_4_method_18_code 10 = .ok (.iconst 0, 1) := by decide +kernel
theorem d_Nt_hasShortLoop_11 : decode prog_4_method_18_code 11 = .ok (.istore_n 2, 1) := by decide +kernel
theorem d_Nt_hasShortLoop_12 : decode prog_4_method_18_code 12 = .ok (.iload_n 2, 1) := by decide +kernel
theorem d_Nt_hasShortLoop_13 : decode prog_4_method_18_code 13 = .ok (.aload_n 0, 1) := by decide +kernel
theorem d_Nt_hasShortLoop_14 : decode prog_4_method_18_code 14 = .ok (.getfield 25, 3) := by decide +kernel
theorem d_Nt_hasShortLoop_17 : decode prog_4_method_18_code 17 = .ok (.if_icmp .ge 60, 3) := by decide +kernel
theorem d_Nt_hasShortLoop_20 : decode prog_4_method_18_code 20 = .ok (.aload_n 0, 1) := by decide +kernel
theorem d_Nt_hasShortLoop_21 : decode prog_4_method_18_code 21 = .ok (.getfield 15, 3) := by decide +kernel
theorem d_Nt_hasShortLoop_24 : decode prog_4_method_18_code 24 = .ok (.iload_n 1, 1) := by decide +kernel
theorem d_Nt_hasShortLoop_25 : decode prog_4_method_18_code 25 = .ok (.iaload, 1) := by decide +kernel
theorem d_Nt_hasShortLoop_26 : decode prog_4_method_18_code 26 = .ok (.aload_n 0, 1) := by decide +kernel
theorem d_Nt_hasShortLoop_27 : decode prog_4_method_18_code 27 = .ok (.getfield 9, 3) := by decide +kernel
theorem d_Nt_hasShortLoop_30 : decode prog_4_method_18_code 30 = .ok (.iload_n 2, 1) := by decide +kernel
theorem d_Nt_hasShortLoop_31 : decode prog_4_method_18_code 31 = .ok (.iaload, 1) := by decide +kernel
theorem d_Nt_hasShortLoop_32 : decode prog_4_method_18_code 32 = .ok (.iand, 1) := by decide +kernel
theorem d_Nt_hasShortLoop_33 : decode prog_4_method_18_code 33 = .ok (.istore_n 3, 1) := by decide +kernel
theorem d_Nt_hasShortLoop_34 : decode prog_4_method_18_code 34 = .ok (.aload_n 0, 1) := by decide +kernel
theorem d_Nt_hasShortLoop_35 : decode prog_4_method_18_code 35 = .ok (.getfield 15, 3) := by decide +kernel
theorem d_Nt_hasShortLoop_38 : decode prog_4_method_18_code 38 = .ok (.iload_n 2, 1) := by decide +kernel
theorem d_Nt_hasShortLoop_39 : decode prog_4_method_18_code 39 = .ok (.iaload, 1) := by decide +kernel
theorem d_Nt_hasShortLoop_40 : decode prog_4_method_18_code 40 = .ok (.aload_n 0, 1) := by decide +kernel
theorem d_Nt_hasShortLoop_41 : decode prog_4_method_18_code 41 = .ok (.getfield 9, 3) := by decide +kernel
theorem d_Nt_hasShortLoop_44 : decode prog_4_method_18_code 44 = .ok (.iload_n 1, 1) := by decide +kernel
theorem d_Nt_hasShortLoop_45 : decode prog_4_method_18_code 45 = .ok (.iaload, 1) := by decide +kernel
theorem d_Nt_hasShortLoop_46 : decode prog_4_method_18_code 46 = .ok (.iand, 1) := by decide +kernel
theorem d_Nt_hasShortLoop_47 : decode prog_4_method_18_code 47 = .ok (.istore 4, 2) := by decide +kernel
theorem d_Nt_hasShortLoop_49 : decode prog_4_method_18_code 49 = .ok (.iload_n 3, 1) := by decide +kernel
theorem d_Nt_hasShortLoop_50 : decode prog_4_method_18_code 50 = .ok (.ifCond .eq 21, 3) := by decide +kernel
theorem d_Nt_hasShortLoop_53 : decode prog_4_method_18_code 53 = .ok (.iload 4, 2) := by decide +kernel
theorem d_Nt_hasShortLoop_55 : decode prog_4_method_18_code 55 = .ok (.ifCond .eq 16, 3) := by decide +kernel
theorem d_Nt_hasShortLoop_58 : decode prog_4_method_18_code 58 = .ok (.iload_n 3, 1) := by decide +kernel
theorem d_Nt_hasShortLoop_59 : decode prog_4_method_18_code 59 = .ok (.iload 4, 2) := by decide +kernel
theorem d_Nt_hasShortLoop_61 : decode prog_4_method_18_code 61 = .ok (.ior, 1) := by decide +kernel
theorem d_Nt_hasShortLoop_62 : decode prog_4_method_18_code 62 = .ok (.invokestatic 68, 3) := by decide +kernel
theorem d_Nt_hasShortLoop_65 : decode prog_4_method_18_code 65 = .ok (.iconst 2, 1) := by decide +kernel
theorem d_Nt_hasShortLoop_66 : decode prog_4_method_18_code 66 = .ok (.if_icmp .lt 5, 3) := by decide +kernel
theorem d_Nt_hasShortLoop_69 : decode prog_4_method_18_code 69 = .ok (.iconst 1, 1) := by decide +kernel
theorem d_Nt_hasShortLoop_70 : decode prog_4_method_18_code 70 = .ok (.ireturn, 1) := by decide +kernel
theorem d_Nt_hasShortLoop_71 : decode prog_4_method_18_code 71 = .ok (.iinc 2 1, 3) := by decide +kernel
theorem d_Nt_hasShortLoop_74 : decode prog_4_method_18_code 74 = .ok (.goto (-62), 3) := by decide +kernel
theorem d_Nt_hasShortLoop_77 : decode prog_4_method_18_code 77 = .ok (.iinc 1 1, 3) := by decide +kernel
theorem d_Nt_hasShortLoop_80 : decode prog_4_method_18_code 80 = .ok (.goto (-78), 3) := by decide +kernel
theorem d_Nt_hasShortLoop_83 : decode prog_4_method_18_code 83 = .ok (.iconst 0, 1) := by decide +kernel
theorem d_Nt_hasShortLoop_84 : decode prog_4_method_18_code 84 = .ok (.ireturn, 1) := by decide +kernel
set_option maxRecDepth 20000 in
set_option maxHeartbeats 4000000 in
theorem cN_hasShortLoop (E : fk_E) (n0 : Nat) (n1 : Nat) (n2 : Nat) (n3 : Nat) (n4 : Nat) (cnt : Nat) (fi : Nat) (la : Nat) (lo : Nat) (me : Nat) (ins : Nat → Nat) (outs : Nat → Nat) (hc : cnt ≤ 14) (hb : ∀ j, j < cnt → ins j < 128 ∧ outs j < 128) : fk_C E fy_Nt_hasShortLoop prog_4_method_18_code 5 (some .boolean) 1 0 0 [.ref n0] [(n0, .inr (2, [.ref n1, .ref n2, .ref n3, .ref n4, .int (nI cnt), .int (nI fi), .int (nI la), .int (nI lo), .int (nI me)])), fk_ai E n1 14 ins, fk_ai E n2 14 outs] (S := Unit) (fun _ => some (.int (nI (Bool.toNat (fs_any (fun z9 => fs_any (fs_sh ins outs z9) cnt) cnt))))) (fun _ => True) (fun _ => [(n0, .inr (2, [.ref n1, .ref n2, .ref n3, .ref n4, .int (nI cnt), .int (nI fi), .int (nI la), .int (nI lo), .int (nI me)])), fk_ai E n1 14 ins, fk_ai E n2 14 outs]) := by
  refine fk_enterZ (v := fun _ => fs_any (fun z9 => fs_any (fs_sh ins outs z9) cnt) cnt) (by decide) (Nat.le_of_ble_eq_true rfl) (lv0 := [(0, .ref n0)]) rfl ?_
  intro K hini hret
  refine fk_iconst (v := nI 0) d_Nt_hasShortLoop_0 (by decide +kernel) ?_
  refine fk_istore_n (lv' := [(0, .ref n0), (1, .int (nI 0))]) d_Nt_hasShortLoop_1 rfl (Nat.le_of_ble_eq_true rfl) [1, 0] rfl ?_
  have L2 : ∀ (fuel : Nat) (p : Nat), (p ≤ cnt) → (∀ j, j < p → fs_any (fs_sh ins outs j) cnt = false) → cnt - p < fuel → fk_V E (prog_4_method_18_code, fy_Nt_hasShortLoop.cls, 5, fk_rm 1 0 0) K (0, 0) [(n0, .inr (2, [.ref n1, .ref n2, .ref n3, .ref n4, .int (nI cnt), .int (nI fi), .int (nI la), .int (nI lo), .int (nI me)])), fk_ai E n1 14 ins, fk_ai E n2 14 outs] 2 [(0, .ref n0), (1, .int (nI p))] [] := by
    intro fuel
    induction fuel with
    | zero => intro p _ _ hm; exact absurd hm (Nat.not_lt_zero _)
    | succ fuel ih =>
      intro p h1 h2 hm2
      have ih2 := ih
      clear ih
      refine fk_iload_n 1 d_Nt_hasShortLoop_2 rfl ?_
      refine fk_aload_n 0 d_Nt_hasShortLoop_3 rfl ?_
      refine fk_get 0 4 rfl rfl fh_Nt (Nat.le_of_ble_eq_true rfl) fw_48 rfl d_Nt_hasShortLoop_4 ?_
      refine fk_icmp_ge (a := p) (b := cnt) (by omega) (by omega) d_Nt_hasShortLoop_7 rfl (fun h7t => ?_) (fun h7f => ?_)
      · refine fk_iconst (v := nI 0) d_Nt_hasShortLoop_83 (by decide +kernel) ?_
        refine fk_top (fn_rf (b := fs_any (fun z9 => fs_any (fs_sh ins outs z9) cnt) cnt) (fs_any_f.mpr (fun j hj => h2 j (by omega)))) ?_
        exact hret (0, 0) _ 84 _ () d_Nt_hasShortLoop_84 (trivial) (rfl)
      · refine fk_iconst (v := nI 0) d_Nt_hasShortLoop_10 (by decide +kernel) ?_
        refine fk_istore_n (lv' := [(0, .ref n0), (1, .int (nI p)), (2, .int (nI 0))]) d_Nt_hasShortLoop_11 rfl (Nat.le_of_ble_eq_true rfl) [1, 2, 0] rfl ?_
        have L12 : ∀ (fuel : Nat) (q : Nat), (q ≤ cnt) → (∀ j, j < q → fs_sh ins outs p j = false) → cnt - q < fuel → fk_V E (prog_4_method_18_code, fy_Nt_hasShortLoop.cls, 5, fk_rm 1 0 0) K (0, 0) [(n0, .inr (2, [.ref n1, .ref n2, .ref n3, .ref n4, .int (nI cnt), .int (nI fi), .int (nI la), .int (nI lo), .int (nI me)])), fk_ai E n1 14 ins, fk_ai E n2 14 outs] 12 [(0, .ref n0), (1, .int (nI p)), (2, .int (nI q))] [] := by
          intro fuel
          induction fuel with
          | zero => intro q _ _ hm; exact absurd hm (Nat.not_lt_zero _)
          | succ fuel ih =>
            intro q h3 h4 hm12
            have ih12 := ih
            clear ih
            refine fk_iload_n 2 d_Nt_hasShortLoop_12 rfl ?_
            refine fk_aload_n 0 d_Nt_hasShortLoop_13 rfl ?_
            refine fk_get 0 4 rfl rfl fh_Nt (Nat.le_of_ble_eq_true rfl) fw_48 rfl d_Nt_hasShortLoop_14 ?_
            refine fk_icmp_ge (a := q) (b := cnt) (by omega) (by omega) d_Nt_hasShortLoop_17 rfl (fun h17t => ?_) (fun h17f => ?_)
            · refine fk_iinc (j := 1) (lv' := [(0, .ref n0), (1, .int (nI (p + 1))), (2, .int (nI q))]) (p + 1) d_Nt_hasShortLoop_77 rfl (nI_1 p) (Nat.le_of_ble_eq_true rfl) [1, 0, 2] rfl ?_
              refine fk_goto d_Nt_hasShortLoop_80 rfl ?_
              refine fk_lv (lv' := [(0, .ref n0), (1, .int (nI (p + 1)))]) [0, 1] rfl ?_
              refine ih2 _ ?_ ?_ ?_
              · first | omega | assumption | exact Nat.zero_le _
              · exact fs_lt_s (f := fun j => fs_any (fs_sh ins outs j) cnt) h2 (fs_any_f.mpr (fun j hj => h4 j (by omega)))
              · omega
            · have hp := hb p (by omega)
              have hq := hb q (by omega)
              have g1 : outs p &&& ins q < 128 := fb_and_lt hq.1
              have g2 : outs q &&& ins p < 128 := fb_and_lt hp.1
              refine fk_aload_n 0 d_Nt_hasShortLoop_20 rfl ?_
              refine fk_get 0 1 rfl rfl fh_Nt (Nat.le_of_ble_eq_true rfl) fw_45 rfl d_Nt_hasShortLoop_21 ?_
              refine fk_iload_n 1 d_Nt_hasShortLoop_24 rfl ?_
              refine fk_ld_ai (i := p) 2 rfl (by omega) (by decide) d_Nt_hasShortLoop_25 ?_
              refine fk_aload_n 0 d_Nt_hasShortLoop_26 rfl ?_
              refine fk_get 0 0 rfl rfl fh_Nt (Nat.le_of_ble_eq_true rfl) fw_44 rfl d_Nt_hasShortLoop_27 ?_
              refine fk_iload_n 2 d_Nt_hasShortLoop_30 rfl ?_
              refine fk_ld_ai (i := q) 1 rfl (by omega) (by decide) d_Nt_hasShortLoop_31 ?_
              refine fk_iand (a := (outs p)) (b := (ins q)) d_Nt_hasShortLoop_32 ?_
              refine fk_istore_n (lv' := [(0, .ref n0), (1, .int (nI p)), (2, .int (nI q)), (3, .int (nI ((outs p) &&& (ins q))))]) d_Nt_hasShortLoop_33 rfl (Nat.le_of_ble_eq_true rfl) [1, 2, 3, 0] rfl ?_
              refine fk_aload_n 0 d_Nt_hasShortLoop_34 rfl ?_
              refine fk_get 0 1 rfl rfl fh_Nt (Nat.le_of_ble_eq_true rfl) fw_45 rfl d_Nt_hasShortLoop_35 ?_
              refine fk_iload_n 2 d_Nt_hasShortLoop_38 rfl ?_
              refine fk_ld_ai (i := q) 2 rfl (by omega) (by decide) d_Nt_hasShortLoop_39 ?_
              refine fk_aload_n 0 d_Nt_hasShortLoop_40 rfl ?_
              refine fk_get 0 0 rfl rfl fh_Nt (Nat.le_of_ble_eq_true rfl) fw_44 rfl d_Nt_hasShortLoop_41 ?_
              refine fk_iload_n 1 d_Nt_hasShortLoop_44 rfl ?_
              refine fk_ld_ai (i := p) 1 rfl (by omega) (by decide) d_Nt_hasShortLoop_45 ?_
              refine fk_iand (a := (outs q)) (b := (ins p)) d_Nt_hasShortLoop_46 ?_
              refine fk_istore (lv' := [(0, .ref n0), (1, .int (nI p)), (2, .int (nI q)), (3, .int (nI ((outs p) &&& (ins q)))), (4, .int (nI ((outs q) &&& (ins p))))]) d_Nt_hasShortLoop_47 (Nat.le_of_ble_eq_true rfl) [1, 2, 3, 4, 0] rfl ?_
              refine fk_iload_n 3 d_Nt_hasShortLoop_49 rfl ?_
              refine fk_if_eq (a := ((outs p) &&& (ins q))) (by omega) d_Nt_hasShortLoop_50 rfl (fun h50t => ?_) (fun h50f => ?_)
              · refine fk_iinc (j := 2) (lv' := [(0, .ref n0), (1, .int (nI p)), (2, .int (nI (q + 1))), (3, .int (nI ((outs p) &&& (ins q)))), (4, .int (nI ((outs q) &&& (ins p))))]) (q + 1) d_Nt_hasShortLoop_71 rfl (nI_1 q) (Nat.le_of_ble_eq_true rfl) [1, 2, 0, 3, 4] rfl ?_
                refine fk_goto d_Nt_hasShortLoop_74 rfl ?_
                refine fk_lv (lv' := [(0, .ref n0), (1, .int (nI p)), (2, .int (nI (q + 1)))]) [0, 1, 2] rfl ?_
                refine ih12 _ ?_ ?_ ?_
                · first | omega | assumption | exact Nat.zero_le _
                · refine fs_lt_s h4 ?_
                  unfold fs_sh
                  first | simp [h50t] | simp [h55t] | (rw [decide_eq_false (show ¬ 2 ≤ _ by omega)]; simp)
                · omega
              · refine fk_iload 4 d_Nt_hasShortLoop_53 rfl ?_
                refine fk_if_eq (a := ((outs q) &&& (ins p))) (by omega) d_Nt_hasShortLoop_55 rfl (fun h55t => ?_) (fun h55f => ?_)
                · refine fk_iinc (j := 2) (lv' := [(0, .ref n0), (1, .int (nI p)), (2, .int (nI (q + 1))), (3, .int (nI ((outs p) &&& (ins q)))), (4, .int (nI ((outs q) &&& (ins p))))]) (q + 1) d_Nt_hasShortLoop_71 rfl (nI_1 q) (Nat.le_of_ble_eq_true rfl) [1, 2, 0, 3, 4] rfl ?_
                  refine fk_goto d_Nt_hasShortLoop_74 rfl ?_
                  refine fk_lv (lv' := [(0, .ref n0), (1, .int (nI p)), (2, .int (nI (q + 1)))]) [0, 1, 2] rfl ?_
                  refine ih12 _ ?_ ?_ ?_
                  · first | omega | assumption | exact Nat.zero_le _
                  · refine fs_lt_s h4 ?_
                    unfold fs_sh
                    first | simp [h50t] | simp [h55t] | (rw [decide_eq_false (show ¬ 2 ≤ _ by omega)]; simp)
                  · omega
                · refine fk_iload_n 3 d_Nt_hasShortLoop_58 rfl ?_
                  refine fk_iload 4 d_Nt_hasShortLoop_59 rfl ?_
                  refine fk_ior (a := ((outs p) &&& (ins q))) (b := ((outs q) &&& (ins p))) d_Nt_hasShortLoop_61 ?_
                  refine fk_callS (As := [.int (nI (((outs p) &&& (ins q)) ||| ((outs q) &&& (ins p))))]) (rest := []) (is := []) (ir := [0, 1, 2]) (ip := [0, 1, 2]) (wc := []) (wr := [(n0, .inr (2, [.ref n1, .ref n2, .ref n3, .ref n4, .int (nI cnt), .int (nI fi), .int (nI la), .int (nI lo), .int (nI me)])), fk_ai E n1 14 ins, fk_ai E n2 14 outs]) (w2 := fun _ => [(n0, .inr (2, [.ref n1, .ref n2, .ref n3, .ref n4, .int (nI cnt), .int (nI fi), .int (nI la), .int (nI lo), .int (nI me)])), fk_ai E n1 14 ins, fk_ai E n2 14 outs]) (cI_bitCount E (((outs p) &&& (ins q)) ||| ((outs q) &&& (ins p))) (fb_or_lt g1 g2)) d_Nt_hasShortLoop_62 fz_It_bitCount fw_452 fw_453 ⟨Nat.le_of_ble_eq_true rfl, Nat.le_of_ble_eq_true rfl⟩ rfl (Nat.le_of_ble_eq_true rfl) ⟨Nat.zero_le _, Nat.zero_le _⟩ ⟨rfl, rfl, rfl, rfl, by decide, fun _ => rfl, rfl⟩ (fun u hu62 => ?_)
                  show fk_V E _ K (0, 0) [(n0, .inr (2, [.ref n1, .ref n2, .ref n3, .ref n4, .int (nI cnt), .int (nI fi), .int (nI la), .int (nI lo), .int (nI me)])), fk_ai E n1 14 ins, fk_ai E n2 14 outs] 65 [(0, .ref n0), (1, .int (nI p)), (2, .int (nI q)), (3, .int (nI ((outs p) &&& (ins q)))), (4, .int (nI ((outs q) &&& (ins p))))] [.int (nI (fs_bc (((outs p) &&& (ins q)) ||| ((outs q) &&& (ins p))) 7))]
                  have g3 := fs_bc_lt _ (fb_or_lt g1 g2)
                  refine fk_iconst (v := nI 2) d_Nt_hasShortLoop_65 (by decide +kernel) ?_
                  refine fk_icmp_lt (a := (fs_bc (((outs p) &&& (ins q)) ||| ((outs q) &&& (ins p))) 7)) (b := 2) (by omega) (by omega) d_Nt_hasShortLoop_66 rfl (fun h66t => ?_) (fun h66f => ?_)
                  · refine fk_iinc (j := 2) (lv' := [(0, .ref n0), (1, .int (nI p)), (2, .int (nI (q + 1))), (3, .int (nI ((outs p) &&& (ins q)))), (4, .int (nI ((outs q) &&& (ins p))))]) (q + 1) d_Nt_hasShortLoop_71 rfl (nI_1 q) (Nat.le_of_ble_eq_true rfl) [1, 2, 0, 3, 4] rfl ?_
                    refine fk_goto d_Nt_hasShortLoop_74 rfl ?_
                    refine fk_lv (lv' := [(0, .ref n0), (1, .int (nI p)), (2, .int (nI (q + 1)))]) [0, 1, 2] rfl ?_
                    refine ih12 _ ?_ ?_ ?_
                    · first | omega | assumption | exact Nat.zero_le _
                    · refine fs_lt_s h4 ?_
                      unfold fs_sh
                      first | simp [h50t] | simp [h55t] | (rw [decide_eq_false (show ¬ 2 ≤ _ by omega)]; simp)
                    · omega
                  · refine fk_iconst (v := nI 1) d_Nt_hasShortLoop_69 (by decide +kernel) ?_
                    refine fk_top (fn_rt (b := fs_any (fun z9 => fs_any (fs_sh ins outs z9) cnt) cnt) (fs_any_t (j := p) (by omega) (fs_any_t (j := q) (by omega) (by unfold fs_sh; rw [decide_eq_true h50f, decide_eq_true h55f, decide_eq_true h66f]; rfl)))) ?_
                    exact hret (0, 0) _ 70 _ () d_Nt_hasShortLoop_70 (trivial) (rfl)
        refine L12 _ _ ?_ ?_ (Nat.lt_succ_self _)
        · first | omega | assumption | exact Nat.zero_le _
        · exact fs_lt_0
  refine L2 _ _ ?_ ?_ (Nat.lt_succ_self _)
  · first | omega | assumption | exact Nat.zero_le _
  · exact fs_lt_0
theorem d_Nt_sharesOutputs_0 : decode prog_4_method_20_code 0 = .ok (.iconst 0, 1) := by decide +kernel
theorem d_Nt_sharesOutputs_1 : decode prog_4_method_20_code 1 = .ok (.istore_n 3, 1) := by decide +kernel
theorem d_Nt_sharesOutputs_2 : decode prog_4_method_20_code 2 = .ok (.iload_n 3, 1) := by decide +kernel
theorem d_Nt_sharesOutputs_3 : decode prog_4_method_20_code 3 = .ok (.aload_n 0, 1) := by decide +kernel
theorem d_Nt_sharesOutputs_4 : decode prog_4_method_20_code 4 = .ok (.getfield 25, 3) := by decide +kernel
theorem d_Nt_sharesOutputs_7 : decode prog_4_method_20_code 7 = .ok (.if_icmp .gt 46, 3) := by decide +kernel
theorem d_Nt_sharesOutputs_10 : decode prog_4_method_20_code 10 = .ok (.iload_n 3, 1) := by decide +kernel
theorem d_Nt_sharesOutputs_11 : decode prog_4_method_20_code 11 = .ok (.aload_n 0, 1) := by decide +kernel
theorem d_Nt_sharesOutputs_12 : decode prog_4_method_20_code 12 = .ok (.getfield 25, 3) := by decide +kernel
theorem d_Nt_sharesOutputs_15 : decode prog_4_method_20_code 15 = .ok (.if_icmp .ne 10, 3) := by decide +kernel
theorem d_Nt_sharesOutputs_18 : decode prog_4_method_20_code 18 = .ok (.aload_n 0, 1) := by decide +kernel
theorem d_Nt_sharesOutputs_19 : decode prog_4_method_20_code 19 = .ok (.getfield 29, 3) := by decide +kernel
theorem d_Nt_sharesOutputs_22 : decode prog_4_method_20_code 22 = .ok (.goto 9, 3) := by decide +kernel
theorem d_Nt_sharesOutputs_25 : decode prog_4_method_20_code 25 = .ok (.aload_n 0, 1) := by decide +kernel
theorem d_Nt_sharesOutputs_26 : decode prog_4_method_20_code 26 = .ok (.getfield 15, 3) := by decide +kernel
theorem d_Nt_sharesOutputs_29 : decode prog_4_method_20_code 29 = .ok (.iload_n 3, 1) := by decide +kernel
theorem d_Nt_sharesOutputs_30 : decode prog_4_method_20_code 30 = .ok (.iaload, 1) := by decide +kernel
theorem d_Nt_sharesOutputs_31 : decode prog_4_method_20_code 31 = .ok (.istore 4, 2) := by decide +kernel
theorem d_Nt_sharesOutputs_33 : decode prog_4_method_20_code 33 = .ok (.iload_n 3, 1) := by decide +kernel
theorem d_Nt_sharesOutputs_34 : decode prog_4_method_20_code 34 = .ok (.iload_n 1, 1) := by decide +kernel
theorem d_Nt_sharesOutputs_35 : decode prog_4_method_20_code 35 = .ok (.if_icmp .eq 12, 3) := by decide +kernel
theorem d_Nt_sharesOutputs_38 : decode prog_4_method_20_code 38 = .ok (.iload_n 2, 1) := by decide +kernel
theorem d_Nt_sharesOutputs_39 : decode prog_4_method_20_code 39 = .ok (.iload 4, 2) := by decide +kernel
theorem d_Nt_sharesOutputs_41 : decode prog_4_method_20_code 41 = .ok (.iand, 1) := by decide +kernel
theorem d_Nt_sharesOutputs_42 : decode prog_4_method_20_code 42 = .ok (.ifCond .eq 5, 3) := by decide +kernel
theorem d_Nt_sharesOutputs_45 : decode prog_4_method_20_code 45 = .ok (.iconst 1, 1) := by decide +kernel
theorem d_Nt_sharesOutputs_46 : decode prog_4_method_20_code 46 = .ok (.ireturn, 1) := by decide +kernel
theorem d_Nt_sharesOutputs_47 : decode prog_4_method_20_code 47 = .ok (.iinc 3 1, 3) := by decide +kernel
theorem d_Nt_sharesOutputs_50 : decode prog_4_method_20_code 50 = .ok (.goto (-48), 3) := by decide +kernel
theorem d_Nt_sharesOutputs_53 : decode prog_4_method_20_code 53 = .ok (.iconst 0, 1) := by decide +kernel
theorem d_Nt_sharesOutputs_54 : decode prog_4_method_20_code 54 = .ok (.ireturn, 1) := by decide +kernel
set_option maxRecDepth 20000 in
set_option maxHeartbeats 4000000 in
theorem cN_sharesOutputs (E : fk_E) (n0 : Nat) (n1 : Nat) (n2 : Nat) (n3 : Nat) (n4 : Nat) (cnt : Nat) (fi : Nat) (la : Nat) (lo : Nat) (me : Nat) (outs : Nat → Nat) (p : Nat) (c : Nat) (hc : cnt ≤ 14) (hb : ∀ j, j < cnt → outs j < 128) (hf : fi < 128) (hp : p ≤ 14) (hc2 : c < 128) : fk_C E fy_Nt_sharesOutputs prog_4_method_20_code 5 (some .boolean) 0 0 0 [.ref n0, .int (nI p), .int (nI c)] [(n0, .inr (2, [.ref n1, .ref n2, .ref n3, .ref n4, .int (nI cnt), .int (nI fi), .int (nI la), .int (nI lo), .int (nI me)])), fk_ai E n2 14 outs] (S := Unit) (fun _ => some (.int (nI (Bool.toNat (fs_shr cnt outs fi p c))))) (fun _ => True) (fun _ => [(n0, .inr (2, [.ref n1, .ref n2, .ref n3, .ref n4, .int (nI cnt), .int (nI fi), .int (nI la), .int (nI lo), .int (nI me)])), fk_ai E n2 14 outs]) := by
  refine fk_enterZ (v := fun _ => fs_shr cnt outs fi p c) (by decide) (Nat.le_of_ble_eq_true rfl) (lv0 := [(0, .ref n0), (1, .int (nI p)), (2, .int (nI c))]) rfl ?_
  intro K hini hret
  refine fk_iconst (v := nI 0) d_Nt_sharesOutputs_0 (by decide +kernel) ?_
  refine fk_istore_n (lv' := [(0, .ref n0), (1, .int (nI p)), (2, .int (nI c)), (3, .int (nI 0))]) d_Nt_sharesOutputs_1 rfl (Nat.le_of_ble_eq_true rfl) [1, 2, 3, 0] rfl ?_
  have L2 : ∀ (fuel : Nat) (k : Nat), (k ≤ cnt + 1) → (∀ j, j < k → (decide (j ≠ p) && decide (c &&& fs_ch cnt outs fi j ≠ 0)) = false) → cnt + 1 - k < fuel → fk_V E (prog_4_method_20_code, fy_Nt_sharesOutputs.cls, 5, fk_rm 0 0 0) K (0, 0) [(n0, .inr (2, [.ref n1, .ref n2, .ref n3, .ref n4, .int (nI cnt), .int (nI fi), .int (nI la), .int (nI lo), .int (nI me)])), fk_ai E n2 14 outs] 2 [(0, .ref n0), (1, .int (nI p)), (2, .int (nI c)), (3, .int (nI k))] [] := by
    intro fuel
    induction fuel with
    | zero => intro k _ _ hm; exact absurd hm (Nat.not_lt_zero _)
    | succ fuel ih =>
      intro k h1 h2 hm2
      have ih2 := ih
      clear ih
      refine fk_iload_n 3 d_Nt_sharesOutputs_2 rfl ?_
      refine fk_aload_n 0 d_Nt_sharesOutputs_3 rfl ?_
      refine fk_get 0 4 rfl rfl fh_Nt (Nat.le_of_ble_eq_true rfl) fw_48 rfl d_Nt_sharesOutputs_4 ?_
      refine fk_icmp_gt (a := k) (b := cnt) (by omega) (by omega) d_Nt_sharesOutputs_7 rfl (fun h7t => ?_) (fun h7f => ?_)
      · refine fk_iconst (v := nI 0) d_Nt_sharesOutputs_53 (by decide +kernel) ?_
        refine fk_top (fn_rf (b := fs_shr cnt outs fi p c) (fs_any_f.mpr (fun j hj => h2 j (by omega)))) ?_
        exact hret (0, 0) _ 54 _ () d_Nt_sharesOutputs_54 (trivial) (rfl)
      · refine fk_iload_n 3 d_Nt_sharesOutputs_10 rfl ?_
        refine fk_aload_n 0 d_Nt_sharesOutputs_11 rfl ?_
        refine fk_get 0 4 rfl rfl fh_Nt (Nat.le_of_ble_eq_true rfl) fw_48 rfl d_Nt_sharesOutputs_12 ?_
        refine fk_icmp_ne (a := k) (b := cnt) (by omega) (by omega) d_Nt_sharesOutputs_15 rfl (fun h15t => ?_) (fun h15f => ?_)
        · refine fk_aload_n 0 d_Nt_sharesOutputs_25 rfl ?_
          refine fk_get 0 1 rfl rfl fh_Nt (Nat.le_of_ble_eq_true rfl) fw_45 rfl d_Nt_sharesOutputs_26 ?_
          refine fk_iload_n 3 d_Nt_sharesOutputs_29 rfl ?_
          refine fk_ld_ai (i := k) 1 rfl (by omega) (by decide) d_Nt_sharesOutputs_30 ?_
          refine fk_istore (lv' := [(0, .ref n0), (1, .int (nI p)), (2, .int (nI c)), (3, .int (nI k)), (4, .int (nI (outs k)))]) d_Nt_sharesOutputs_31 (Nat.le_of_ble_eq_true rfl) [1, 2, 3, 4, 0] rfl ?_
          refine fk_iload_n 3 d_Nt_sharesOutputs_33 rfl ?_
          refine fk_iload_n 1 d_Nt_sharesOutputs_34 rfl ?_
          refine fk_icmp_eq (a := k) (b := p) (by omega) (by omega) d_Nt_sharesOutputs_35 rfl (fun h35t => ?_) (fun h35f => ?_)
          · refine fk_iinc (j := 3) (lv' := [(0, .ref n0), (1, .int (nI p)), (2, .int (nI c)), (3, .int (nI (k + 1))), (4, .int (nI (outs k)))]) (k + 1) d_Nt_sharesOutputs_47 rfl (nI_1 k) (Nat.le_of_ble_eq_true rfl) [1, 2, 3, 0, 4] rfl ?_
            refine fk_goto d_Nt_sharesOutputs_50 rfl ?_
            refine fk_lv (lv' := [(0, .ref n0), (1, .int (nI p)), (2, .int (nI c)), (3, .int (nI (k + 1)))]) [0, 1, 2, 3] rfl ?_
            refine ih2 _ ?_ ?_ ?_
            · first | omega | assumption | exact Nat.zero_le _
            · refine fs_lt_s (f := fun j => decide (j ≠ p) && decide (c &&& fs_ch cnt outs fi j ≠ 0)) h2 ?_
              first | simp [h35t] | simp [fs_ch, h15t, h42t] | simp [fs_ch, h15f, h42t]
            · omega
          · refine fk_iload_n 2 d_Nt_sharesOutputs_38 rfl ?_
            refine fk_iload 4 d_Nt_sharesOutputs_39 rfl ?_
            refine fk_iand (a := c) (b := (outs k)) d_Nt_sharesOutputs_41 ?_
            refine fk_if_eq (a := (c &&& (outs k))) (by have := fb_and_lt' (a := c) (b := if k = cnt then fi else outs k) hc2; first | omega | (simp only [h15t, if_false] at this; omega) | (simp only [h15f, if_true] at this; omega)) d_Nt_sharesOutputs_42 rfl (fun h42t => ?_) (fun h42f => ?_)
            · refine fk_iinc (j := 3) (lv' := [(0, .ref n0), (1, .int (nI p)), (2, .int (nI c)), (3, .int (nI (k + 1))), (4, .int (nI (outs k)))]) (k + 1) d_Nt_sharesOutputs_47 rfl (nI_1 k) (Nat.le_of_ble_eq_true rfl) [1, 2, 3, 0, 4] rfl ?_
              refine fk_goto d_Nt_sharesOutputs_50 rfl ?_
              refine fk_lv (lv' := [(0, .ref n0), (1, .int (nI p)), (2, .int (nI c)), (3, .int (nI (k + 1)))]) [0, 1, 2, 3] rfl ?_
              refine ih2 _ ?_ ?_ ?_
              · first | omega | assumption | exact Nat.zero_le _
              · refine fs_lt_s (f := fun j => decide (j ≠ p) && decide (c &&& fs_ch cnt outs fi j ≠ 0)) h2 ?_
                first | simp [h35t] | simp [fs_ch, h15t, h42t] | simp [fs_ch, h15f, h42t]
              · omega
            · refine fk_iconst (v := nI 1) d_Nt_sharesOutputs_45 (by decide +kernel) ?_
              refine fk_top (fn_rt (b := fs_shr cnt outs fi p c) (fs_any_t (j := k) (by omega) (by simp [fs_ch, h35f, h15t, h42f]))) ?_
              exact hret (0, 0) _ 46 _ () d_Nt_sharesOutputs_46 (trivial) (rfl)
        · refine fk_aload_n 0 d_Nt_sharesOutputs_18 rfl ?_
          refine fk_get 0 5 rfl rfl fh_Nt (Nat.le_of_ble_eq_true rfl) fw_49 rfl d_Nt_sharesOutputs_19 ?_
          refine fk_goto d_Nt_sharesOutputs_22 rfl ?_
          refine fk_istore (lv' := [(0, .ref n0), (1, .int (nI p)), (2, .int (nI c)), (3, .int (nI k)), (4, .int (nI fi))]) d_Nt_sharesOutputs_31 (Nat.le_of_ble_eq_true rfl) [1, 2, 3, 4, 0] rfl ?_
          refine fk_iload_n 3 d_Nt_sharesOutputs_33 rfl ?_
          refine fk_iload_n 1 d_Nt_sharesOutputs_34 rfl ?_
          refine fk_icmp_eq (a := k) (b := p) (by omega) (by omega) d_Nt_sharesOutputs_35 rfl (fun h35t => ?_) (fun h35f => ?_)
          · refine fk_iinc (j := 3) (lv' := [(0, .ref n0), (1, .int (nI p)), (2, .int (nI c)), (3, .int (nI (k + 1))), (4, .int (nI fi))]) (k + 1) d_Nt_sharesOutputs_47 rfl (nI_1 k) (Nat.le_of_ble_eq_true rfl) [1, 2, 3, 0, 4] rfl ?_
            refine fk_goto d_Nt_sharesOutputs_50 rfl ?_
            refine fk_lv (lv' := [(0, .ref n0), (1, .int (nI p)), (2, .int (nI c)), (3, .int (nI (k + 1)))]) [0, 1, 2, 3] rfl ?_
            refine ih2 _ ?_ ?_ ?_
            · first | omega | assumption | exact Nat.zero_le _
            · refine fs_lt_s (f := fun j => decide (j ≠ p) && decide (c &&& fs_ch cnt outs fi j ≠ 0)) h2 ?_
              first | simp [h35t] | simp [fs_ch, h15t, h42t] | simp [fs_ch, h15f, h42t]
            · omega
          · refine fk_iload_n 2 d_Nt_sharesOutputs_38 rfl ?_
            refine fk_iload 4 d_Nt_sharesOutputs_39 rfl ?_
            refine fk_iand (a := c) (b := fi) d_Nt_sharesOutputs_41 ?_
            refine fk_if_eq (a := (c &&& fi)) (by have := fb_and_lt' (a := c) (b := if k = cnt then fi else outs k) hc2; first | omega | (simp only [h15t, if_false] at this; omega) | (simp only [h15f, if_true] at this; omega)) d_Nt_sharesOutputs_42 rfl (fun h42t => ?_) (fun h42f => ?_)
            · refine fk_iinc (j := 3) (lv' := [(0, .ref n0), (1, .int (nI p)), (2, .int (nI c)), (3, .int (nI (k + 1))), (4, .int (nI fi))]) (k + 1) d_Nt_sharesOutputs_47 rfl (nI_1 k) (Nat.le_of_ble_eq_true rfl) [1, 2, 3, 0, 4] rfl ?_
              refine fk_goto d_Nt_sharesOutputs_50 rfl ?_
              refine fk_lv (lv' := [(0, .ref n0), (1, .int (nI p)), (2, .int (nI c)), (3, .int (nI (k + 1)))]) [0, 1, 2, 3] rfl ?_
              refine ih2 _ ?_ ?_ ?_
              · first | omega | assumption | exact Nat.zero_le _
              · refine fs_lt_s (f := fun j => decide (j ≠ p) && decide (c &&& fs_ch cnt outs fi j ≠ 0)) h2 ?_
                first | simp [h35t] | simp [fs_ch, h15t, h42t] | simp [fs_ch, h15f, h42t]
              · omega
            · refine fk_iconst (v := nI 1) d_Nt_sharesOutputs_45 (by decide +kernel) ?_
              refine fk_top (fn_rt (b := fs_shr cnt outs fi p c) (fs_any_t (j := k) (by omega) (by simp [fs_ch, h15f, h42f]; omega))) ?_
              exact hret (0, 0) _ 46 _ () d_Nt_sharesOutputs_46 (trivial) (rfl)
  refine L2 _ _ ?_ ?_ (Nat.lt_succ_self _)
  · first | omega | assumption | exact Nat.zero_le _
  · exact fs_lt_0
theorem d_Nt_hasMixedChoice_0 : decode prog_4_method_19_code 0 = .ok (.iconst 0, 1) := by decide +kernel
theorem d_Nt_hasMixedChoice_1 : decode prog_4_method_19_code 1 = .ok (.istore_n 1, 1) := by decide +kernel
theorem d_Nt_hasMixedChoice_2 : decode prog_4_method_19_code 2 = .ok (.iload_n 1, 1) := by decide +kernel
theorem d_Nt_hasMixedChoice_3 : decode prog_4_method_19_code 3 = .ok (.aload_n 0, 1) := by decide +kernel
theorem d_Nt_hasMixedChoice_4 : decode prog_4_method_19_code 4 = .ok (.getfield 25, 3) := by decide +kernel
theorem d_Nt_hasMixedChoice_7 : decode prog_4_method_19_code 7 = .ok (.if_icmp .gt 50, 3) := by decide +kernel
theorem d_Nt_hasMixedChoice_10 : decode prog_4_method_19_code 10 = .ok (.iload_n 1, 1) := by decide +kernel
theorem d_Nt_hasMixedChoice_11 : decode prog_4_method_19_code 11 = .ok (.aload_n 0, 1) := by decide +kernel
theorem d_Nt_hasMixedChoice_12 : decode prog_4_method_19_code 12 = .ok (.getfield 25, 3) := by decide +kernel
theorem d_Nt_hasMixedChoice_15 : decode prog_4_method_19_code 15 = .ok (.if_icmp .ne 10, 3) := by decide +kernel
theorem d_Nt_hasMixedChoice_18 : decode prog_4_method_19_code 18 = .ok (.aload_n 0, 1) := by decide +kernel
theorem d_Nt_hasMixedChoice_19 : decode prog_4_method_19_code 19 = .ok (.getfield 29, 3) := by decide +kernel
theorem d_Nt_hasMixedChoice_22 : decode prog_4_method_19_code 22 = .ok (.goto 9, 3) := by decide +kernel
theorem d_Nt_hasMixedChoice_25 : decode prog_4_method_19_code 25 = .ok (.aload_n 0, 1) := by decide +kernel
theorem d_Nt_hasMixedChoice_26 : decode prog_4_method_19_code 26 = .ok (.getfield 15, 3) := by decide +kernel
theorem d_Nt_hasMixedChoice_29 : decode prog_4_method_19_code 29 = .ok (.iload_n 1, 1) := by decide +kernel
theorem d_Nt_hasMixedChoice_30 : decode prog_4_method_19_code 30 = .ok (.iaload, 1) := by decide +kernel
theorem d_Nt_hasMixedChoice_31 : decode prog_4_method_19_code 31 = .ok (.istore_n 2, 1) := by decide +kernel
theorem d_Nt_hasMixedChoice_32 : decode prog_4_method_19_code 32 = .ok (.iload_n 2, 1) := by decide +kernel
theorem d_Nt_hasMixedChoice_33 : decode prog_4_method_19_code 33 = .ok (.invokestatic 68, 3) := by decide +kernel
theorem d_Nt_hasMixedChoice_36 : decode prog_4_method_19_code 36 = .ok (.iconst 2, 1) := by decide +kernel
theorem d_Nt_hasMixedChoice_37 : decode prog_4_method_19_code 37 = .ok (.if_icmp .lt 14, 3) := by decide +kernel
theorem d_Nt_hasMixedChoice_40 : decode prog_4_method_19_code 40 = .ok (.aload_n 0, 1) := by decide +kernel
theorem d_Nt_hasMixedChoice_41 : decode prog_4_method_19_code 41 = .ok (.iload_n 1, 1) := by decide +kernel
theorem d_Nt_hasMixedChoice_42 : decode prog_4_method_19_code 42 = .ok (.iload_n 2, 1) := by decide +kernel
theorem d_Nt_hasMixedChoice_43 : decode prog_4_method_19_code 43 = .ok (.invokevirtual 74, 3) := by decide +kernel
theorem d_Nt_hasMixedChoice_46 : decode prog_4_method_19_code 46 = .ok (.ifCond .eq 5, 3) := by decide +kernel
theorem d_Nt_hasMixedChoice_49 : decode prog_4_method_19_code 49 = .ok (.iconst 1, 1) := by decide +kernel
theorem d_Nt_hasMixedChoice_50 : decode prog_4_method_19_code 50 = .ok (.ireturn, 1) := by decide +kernel
theorem d_Nt_hasMixedChoice_51 : decode prog_4_method_19_code 51 = .ok (.iinc 1 1, 3) := by decide +kernel
theorem d_Nt_hasMixedChoice_54 : decode prog_4_method_19_code 54 = .ok (.goto (-52), 3) := by decide +kernel
theorem d_Nt_hasMixedChoice_57 : decode prog_4_method_19_code 57 = .ok (.iconst 0, 1) := by decide +kernel
theorem d_Nt_hasMixedChoice_58 : decode prog_4_method_19_code 58 = .ok (.ireturn, 1) := by decide +kernel
set_option maxRecDepth 20000 in
set_option maxHeartbeats 4000000 in
theorem cN_hasMixedChoice (E : fk_E) (n0 : Nat) (n1 : Nat) (n2 : Nat) (n3 : Nat) (n4 : Nat) (cnt : Nat) (fi : Nat) (la : Nat) (lo : Nat) (me : Nat) (outs : Nat → Nat) (hc : cnt ≤ 14) (hb : ∀ j, j < cnt → outs j < 128) (hf : fi < 128) : fk_C E fy_Nt_hasMixedChoice prog_4_method_19_code 3 (some .boolean) 1 0 0 [.ref n0] [(n0, .inr (2, [.ref n1, .ref n2, .ref n3, .ref n4, .int (nI cnt), .int (nI fi), .int (nI la), .int (nI lo), .int (nI me)])), fk_ai E n2 14 outs] (S := Unit) (fun _ => some (.int (nI (Bool.toNat (fs_any (fs_mix cnt outs fi) (cnt + 1)))))) (fun _ => True) (fun _ => [(n0, .inr (2, [.ref n1, .ref n2, .ref n3, .ref n4, .int (nI cnt), .int (nI fi), .int (nI la), .int (nI lo), .int (nI me)])), fk_ai E n2 14 outs]) := by
  refine fk_enterZ (v := fun _ => fs_any (fs_mix cnt outs fi) (cnt + 1)) (by decide) (Nat.le_of_ble_eq_true rfl) (lv0 := [(0, .ref n0)]) rfl ?_
  intro K hini hret
  refine fk_iconst (v := nI 0) d_Nt_hasMixedChoice_0 (by decide +kernel) ?_
  refine fk_istore_n (lv' := [(0, .ref n0), (1, .int (nI 0))]) d_Nt_hasMixedChoice_1 rfl (Nat.le_of_ble_eq_true rfl) [1, 0] rfl ?_
  have L2 : ∀ (fuel : Nat) (k : Nat), (k ≤ cnt + 1) → (∀ j, j < k → fs_mix cnt outs fi j = false) → cnt + 1 - k < fuel → fk_V E (prog_4_method_19_code, fy_Nt_hasMixedChoice.cls, 3, fk_rm 1 0 0) K (0, 0) [(n0, .inr (2, [.ref n1, .ref n2, .ref n3, .ref n4, .int (nI cnt), .int (nI fi), .int (nI la), .int (nI lo), .int (nI me)])), fk_ai E n2 14 outs] 2 [(0, .ref n0), (1, .int (nI k))] [] := by
    intro fuel
    induction fuel with
    | zero => intro k _ _ hm; exact absurd hm (Nat.not_lt_zero _)
    | succ fuel ih =>
      intro k h1 h2 hm2
      have ih2 := ih
      clear ih
      refine fk_iload_n 1 d_Nt_hasMixedChoice_2 rfl ?_
      refine fk_aload_n 0 d_Nt_hasMixedChoice_3 rfl ?_
      refine fk_get 0 4 rfl rfl fh_Nt (Nat.le_of_ble_eq_true rfl) fw_48 rfl d_Nt_hasMixedChoice_4 ?_
      refine fk_icmp_gt (a := k) (b := cnt) (by omega) (by omega) d_Nt_hasMixedChoice_7 rfl (fun h7t => ?_) (fun h7f => ?_)
      · refine fk_iconst (v := nI 0) d_Nt_hasMixedChoice_57 (by decide +kernel) ?_
        refine fk_top (fn_rf (b := fs_any (fs_mix cnt outs fi) (cnt + 1)) (fs_any_f.mpr (fun j hj => h2 j (by omega)))) ?_
        exact hret (0, 0) _ 58 _ () d_Nt_hasMixedChoice_58 (trivial) (rfl)
      · refine fk_iload_n 1 d_Nt_hasMixedChoice_10 rfl ?_
        refine fk_aload_n 0 d_Nt_hasMixedChoice_11 rfl ?_
        refine fk_get 0 4 rfl rfl fh_Nt (Nat.le_of_ble_eq_true rfl) fw_48 rfl d_Nt_hasMixedChoice_12 ?_
        refine fk_icmp_ne (a := k) (b := cnt) (by omega) (by omega) d_Nt_hasMixedChoice_15 rfl (fun h15t => ?_) (fun h15f => ?_)
        · have g0 : fs_ch cnt outs fi k = outs k := if_neg h15t
          have g1 := hb k (by omega)
          refine fk_aload_n 0 d_Nt_hasMixedChoice_25 rfl ?_
          refine fk_get 0 1 rfl rfl fh_Nt (Nat.le_of_ble_eq_true rfl) fw_45 rfl d_Nt_hasMixedChoice_26 ?_
          refine fk_iload_n 1 d_Nt_hasMixedChoice_29 rfl ?_
          refine fk_ld_ai (i := k) 1 rfl (by omega) (by decide) d_Nt_hasMixedChoice_30 ?_
          refine fk_istore_n (lv' := [(0, .ref n0), (1, .int (nI k)), (2, .int (nI (outs k)))]) d_Nt_hasMixedChoice_31 rfl (Nat.le_of_ble_eq_true rfl) [1, 2, 0] rfl ?_
          refine fk_iload_n 2 d_Nt_hasMixedChoice_32 rfl ?_
          refine fk_callS (As := [.int (nI (outs k))]) (rest := []) (is := []) (ir := [0, 1]) (ip := [0, 1]) (wc := []) (wr := [(n0, .inr (2, [.ref n1, .ref n2, .ref n3, .ref n4, .int (nI cnt), .int (nI fi), .int (nI la), .int (nI lo), .int (nI me)])), fk_ai E n2 14 outs]) (w2 := fun _ => [(n0, .inr (2, [.ref n1, .ref n2, .ref n3, .ref n4, .int (nI cnt), .int (nI fi), .int (nI la), .int (nI lo), .int (nI me)])), fk_ai E n2 14 outs]) (cI_bitCount E (outs k) (by first | omega | assumption)) d_Nt_hasMixedChoice_33 fz_It_bitCount fw_452 fw_453 ⟨Nat.le_of_ble_eq_true rfl, Nat.le_of_ble_eq_true rfl⟩ rfl (Nat.le_of_ble_eq_true rfl) ⟨Nat.zero_le _, Nat.zero_le _⟩ ⟨rfl, rfl, rfl, rfl, by decide, fun _ => rfl, rfl⟩ (fun u hu33 => ?_)
          show fk_V E _ K (0, 0) [(n0, .inr (2, [.ref n1, .ref n2, .ref n3, .ref n4, .int (nI cnt), .int (nI fi), .int (nI la), .int (nI lo), .int (nI me)])), fk_ai E n2 14 outs] 36 [(0, .ref n0), (1, .int (nI k)), (2, .int (nI (outs k)))] [.int (nI (fs_bc (outs k) 7))]
          have g3 := fs_bc_lt _ g1
          refine fk_iconst (v := nI 2) d_Nt_hasMixedChoice_36 (by decide +kernel) ?_
          refine fk_icmp_lt (a := (fs_bc (outs k) 7)) (b := 2) (by omega) (by omega) d_Nt_hasMixedChoice_37 rfl (fun h37t => ?_) (fun h37f => ?_)
          · refine fk_iinc (j := 1) (lv' := [(0, .ref n0), (1, .int (nI (k + 1))), (2, .int (nI (outs k)))]) (k + 1) d_Nt_hasMixedChoice_51 rfl (nI_1 k) (Nat.le_of_ble_eq_true rfl) [1, 0, 2] rfl ?_
            refine fk_goto d_Nt_hasMixedChoice_54 rfl ?_
            refine fk_lv (lv' := [(0, .ref n0), (1, .int (nI (k + 1)))]) [0, 1] rfl ?_
            refine ih2 _ ?_ ?_ ?_
            · first | omega | assumption | exact Nat.zero_le _
            · refine fs_lt_s h2 ?_
              unfold fs_mix
              rw [g0]
              first | rw [h46t, Bool.and_false] | rw [decide_eq_false (by omega), Bool.false_and]
            · omega
          · refine fk_aload_n 0 d_Nt_hasMixedChoice_40 rfl ?_
            refine fk_iload_n 1 d_Nt_hasMixedChoice_41 rfl ?_
            refine fk_iload_n 2 d_Nt_hasMixedChoice_42 rfl ?_
            refine fk_callV (q0 := 0) (As := [.int (nI k), .int (nI (outs k))]) (rest := []) (is := [0, 1]) (ir := []) (ip := [0, 1]) (wc := [(n0, .inr (2, [.ref n1, .ref n2, .ref n3, .ref n4, .int (nI cnt), .int (nI fi), .int (nI la), .int (nI lo), .int (nI me)])), fk_ai E n2 14 outs]) (wr := []) (w2 := fun _ => [(n0, .inr (2, [.ref n1, .ref n2, .ref n3, .ref n4, .int (nI cnt), .int (nI fi), .int (nI la), .int (nI lo), .int (nI me)])), fk_ai E n2 14 outs]) (cN_sharesOutputs E n0 n1 n2 n3 n4 cnt fi la lo me outs k (outs k) (by first | omega | assumption) (by first | omega | assumption) (by first | omega | assumption) (by first | omega | assumption) (by first | omega | assumption)) d_Nt_hasMixedChoice_43 fz_Nt_sharesOutputs fw_462 rfl rfl fw_464 fw_p15 ⟨Nat.le_of_ble_eq_true rfl, Nat.le_of_ble_eq_true rfl⟩ rfl (Nat.le_of_ble_eq_true rfl) ⟨Nat.zero_le _, Nat.zero_le _⟩ ⟨rfl, rfl, rfl, rfl, by decide, fun _ => rfl, rfl⟩ (fun u hu43 => ?_)
            show fk_V E _ K (0, 0) [(n0, .inr (2, [.ref n1, .ref n2, .ref n3, .ref n4, .int (nI cnt), .int (nI fi), .int (nI la), .int (nI lo), .int (nI me)])), fk_ai E n2 14 outs] 46 [(0, .ref n0), (1, .int (nI k)), (2, .int (nI (outs k)))] [.int (nI (Bool.toNat (fs_shr cnt outs fi k (outs k))))]
            refine fk_if_eqB (b := (fs_shr cnt outs fi k (outs k))) d_Nt_hasMixedChoice_46 rfl (fun h46t => ?_) (fun h46f => ?_)
            · refine fk_iinc (j := 1) (lv' := [(0, .ref n0), (1, .int (nI (k + 1))), (2, .int (nI (outs k)))]) (k + 1) d_Nt_hasMixedChoice_51 rfl (nI_1 k) (Nat.le_of_ble_eq_true rfl) [1, 0, 2] rfl ?_
              refine fk_goto d_Nt_hasMixedChoice_54 rfl ?_
              refine fk_lv (lv' := [(0, .ref n0), (1, .int (nI (k + 1)))]) [0, 1] rfl ?_
              refine ih2 _ ?_ ?_ ?_
              · first | omega | assumption | exact Nat.zero_le _
              · refine fs_lt_s h2 ?_
                unfold fs_mix
                rw [g0]
                first | rw [h46t, Bool.and_false] | rw [decide_eq_false (by omega), Bool.false_and]
              · omega
            · refine fk_iconst (v := nI 1) d_Nt_hasMixedChoice_49 (by decide +kernel) ?_
              refine fk_top (fn_rt (b := fs_any (fs_mix cnt outs fi) (cnt + 1)) (fs_any_t (j := k) (by omega) (by unfold fs_mix; rw [g0, h46f, decide_eq_true h37f]; rfl))) ?_
              exact hret (0, 0) _ 50 _ () d_Nt_hasMixedChoice_50 (trivial) (rfl)
        · have g0 : fs_ch cnt outs fi k = fi := if_pos h15f
          have g1 := hf
          refine fk_aload_n 0 d_Nt_hasMixedChoice_18 rfl ?_
          refine fk_get 0 5 rfl rfl fh_Nt (Nat.le_of_ble_eq_true rfl) fw_49 rfl d_Nt_hasMixedChoice_19 ?_
          refine fk_goto d_Nt_hasMixedChoice_22 rfl ?_
          refine fk_istore_n (lv' := [(0, .ref n0), (1, .int (nI k)), (2, .int (nI fi))]) d_Nt_hasMixedChoice_31 rfl (Nat.le_of_ble_eq_true rfl) [1, 2, 0] rfl ?_
          refine fk_iload_n 2 d_Nt_hasMixedChoice_32 rfl ?_
          refine fk_callS (As := [.int (nI fi)]) (rest := []) (is := []) (ir := [0, 1]) (ip := [0, 1]) (wc := []) (wr := [(n0, .inr (2, [.ref n1, .ref n2, .ref n3, .ref n4, .int (nI cnt), .int (nI fi), .int (nI la), .int (nI lo), .int (nI me)])), fk_ai E n2 14 outs]) (w2 := fun _ => [(n0, .inr (2, [.ref n1, .ref n2, .ref n3, .ref n4, .int (nI cnt), .int (nI fi), .int (nI la), .int (nI lo), .int (nI me)])), fk_ai E n2 14 outs]) (cI_bitCount E fi (by first | omega | assumption)) d_Nt_hasMixedChoice_33 fz_It_bitCount fw_452 fw_453 ⟨Nat.le_of_ble_eq_true rfl, Nat.le_of_ble_eq_true rfl⟩ rfl (Nat.le_of_ble_eq_true rfl) ⟨Nat.zero_le _, Nat.zero_le _⟩ ⟨rfl, rfl, rfl, rfl, by decide, fun _ => rfl, rfl⟩ (fun u hu33 => ?_)
          show fk_V E _ K (0, 0) [(n0, .inr (2, [.ref n1, .ref n2, .ref n3, .ref n4, .int (nI cnt), .int (nI fi), .int (nI la), .int (nI lo), .int (nI me)])), fk_ai E n2 14 outs] 36 [(0, .ref n0), (1, .int (nI k)), (2, .int (nI fi))] [.int (nI (fs_bc fi 7))]
          have g3 := fs_bc_lt _ g1
          refine fk_iconst (v := nI 2) d_Nt_hasMixedChoice_36 (by decide +kernel) ?_
          refine fk_icmp_lt (a := (fs_bc fi 7)) (b := 2) (by omega) (by omega) d_Nt_hasMixedChoice_37 rfl (fun h37t => ?_) (fun h37f => ?_)
          · refine fk_iinc (j := 1) (lv' := [(0, .ref n0), (1, .int (nI (k + 1))), (2, .int (nI fi))]) (k + 1) d_Nt_hasMixedChoice_51 rfl (nI_1 k) (Nat.le_of_ble_eq_true rfl) [1, 0, 2] rfl ?_
            refine fk_goto d_Nt_hasMixedChoice_54 rfl ?_
            refine fk_lv (lv' := [(0, .ref n0), (1, .int (nI (k + 1)))]) [0, 1] rfl ?_
            refine ih2 _ ?_ ?_ ?_
            · first | omega | assumption | exact Nat.zero_le _
            · refine fs_lt_s h2 ?_
              unfold fs_mix
              rw [g0]
              first | rw [h46t, Bool.and_false] | rw [decide_eq_false (by omega), Bool.false_and]
            · omega
          · refine fk_aload_n 0 d_Nt_hasMixedChoice_40 rfl ?_
            refine fk_iload_n 1 d_Nt_hasMixedChoice_41 rfl ?_
            refine fk_iload_n 2 d_Nt_hasMixedChoice_42 rfl ?_
            refine fk_callV (q0 := 0) (As := [.int (nI k), .int (nI fi)]) (rest := []) (is := [0, 1]) (ir := []) (ip := [0, 1]) (wc := [(n0, .inr (2, [.ref n1, .ref n2, .ref n3, .ref n4, .int (nI cnt), .int (nI fi), .int (nI la), .int (nI lo), .int (nI me)])), fk_ai E n2 14 outs]) (wr := []) (w2 := fun _ => [(n0, .inr (2, [.ref n1, .ref n2, .ref n3, .ref n4, .int (nI cnt), .int (nI fi), .int (nI la), .int (nI lo), .int (nI me)])), fk_ai E n2 14 outs]) (cN_sharesOutputs E n0 n1 n2 n3 n4 cnt fi la lo me outs k fi (by first | omega | assumption) (by first | omega | assumption) (by first | omega | assumption) (by first | omega | assumption) (by first | omega | assumption)) d_Nt_hasMixedChoice_43 fz_Nt_sharesOutputs fw_462 rfl rfl fw_464 fw_p15 ⟨Nat.le_of_ble_eq_true rfl, Nat.le_of_ble_eq_true rfl⟩ rfl (Nat.le_of_ble_eq_true rfl) ⟨Nat.zero_le _, Nat.zero_le _⟩ ⟨rfl, rfl, rfl, rfl, by decide, fun _ => rfl, rfl⟩ (fun u hu43 => ?_)
            show fk_V E _ K (0, 0) [(n0, .inr (2, [.ref n1, .ref n2, .ref n3, .ref n4, .int (nI cnt), .int (nI fi), .int (nI la), .int (nI lo), .int (nI me)])), fk_ai E n2 14 outs] 46 [(0, .ref n0), (1, .int (nI k)), (2, .int (nI fi))] [.int (nI (Bool.toNat (fs_shr cnt outs fi k fi)))]
            refine fk_if_eqB (b := (fs_shr cnt outs fi k fi)) d_Nt_hasMixedChoice_46 rfl (fun h46t => ?_) (fun h46f => ?_)
            · refine fk_iinc (j := 1) (lv' := [(0, .ref n0), (1, .int (nI (k + 1))), (2, .int (nI fi))]) (k + 1) d_Nt_hasMixedChoice_51 rfl (nI_1 k) (Nat.le_of_ble_eq_true rfl) [1, 0, 2] rfl ?_
              refine fk_goto d_Nt_hasMixedChoice_54 rfl ?_
              refine fk_lv (lv' := [(0, .ref n0), (1, .int (nI (k + 1)))]) [0, 1] rfl ?_
              refine ih2 _ ?_ ?_ ?_
              · first | omega | assumption | exact Nat.zero_le _
              · refine fs_lt_s h2 ?_
                unfold fs_mix
                rw [g0]
                first | rw [h46t, Bool.and_false] | rw [decide_eq_false (by omega), Bool.false_and]
              · omega
            · refine fk_iconst (v := nI 1) d_Nt_hasMixedChoice_49 (by decide +kernel) ?_
              refine fk_top (fn_rt (b := fs_any (fs_mix cnt outs fi) (cnt + 1)) (fs_any_t (j := k) (by omega) (by unfold fs_mix; rw [g0, h46f, decide_eq_true h37f]; rfl))) ?_
              exact hret (0, 0) _ 50 _ () d_Nt_hasMixedChoice_50 (trivial) (rfl)
  refine L2 _ _ ?_ ?_ (Nat.lt_succ_self _)
  · first | omega | assumption | exact Nat.zero_le _
  · exact fs_lt_0
theorem d_Nt_isLike_0 : decode prog_4_method_21_code 0 = .ok (.aload_n 0, 1) := by decide +kernel
theorem d_Nt_isLike_1 : decode prog_4_method_21_code 1 = .ok (.getfield 38, 3) := by decide +kernel
theorem d_Nt_isLike_4 : decode prog_4_method_21_code 4 = .ok (.aload_n 1, 1) := by decide +kernel
theorem d_Nt_isLike_5 : decode prog_4_method_21_code 5 = .ok (.getfield 38, 3) := by decide +kernel
theorem d_Nt_isLike_8 : decode prog_4_method_21_code 8 = .ok (.if_icmp .ne 36, 3) := by decide +kernel
theorem d_Nt_isLike_11 : decode prog_4_method_21_code 11 = .ok (.aload_n 0, 1) := by decide +kernel
theorem d_Nt_isLike_12 : decode prog_4_method_21_code 12 = .ok (.getfield 29, 3) := by decide +kernel
theorem d_Nt_isLike_15 : decode prog_4_method_21_code 15 = .ok (.aload_n 1, 1) := by decide +kernel
theorem d_Nt_isLike_16 : decode prog_4_method_21_code 16 = .ok (.getfield 29, 3) := by decide +kernel
theorem d_Nt_isLike_19 : decode prog_4_method_21_code 19 = .ok (.if_icmp .ne 25, 3) := by decide +kernel
theorem d_Nt_isLike_22 : decode prog_4_method_21_code 22 = .ok (.aload_n 0, 1) := by decide +kernel
theorem d_Nt_isLike_23 : decode prog_4_method_21_code 23 = .ok (.getfield 32, 3) := by decide +kernel
theorem d_Nt_isLike_26 : decode prog_4_method_21_code 26 = .ok (.aload_n 1, 1) := by decide +kernel
theorem d_Nt_isLike_27 : decode prog_4_method_21_code 27 = .ok (.getfield 32, 3) := by decide +kernel
theorem d_Nt_isLike_30 : decode prog_4_method_21_code 30 = .ok (.if_icmp .ne 14, 3) := by decide +kernel
theorem d_Nt_isLike_33 : decode prog_4_method_21_code 33 = .ok (.aload_n 0, 1) := by decide +kernel
theorem d_Nt_isLike_34 : decode prog_4_method_21_code 34 = .ok (.getfield 25, 3) := by decide +kernel
theorem d_Nt_isLike_37 : decode prog_4_method_21_code 37 = .ok (.aload_n 1, 1) := by decide +kernel
theorem d_Nt_isLike_38 : decode prog_4_method_21_code 38 = .ok (.getfield 25, 3) := by decide +kernel
theorem d_Nt_isLike_41 : decode prog_4_method_21_code 41 = .ok (.if_icmp .eq 5, 3) := by decide +kernel
theorem d_Nt_isLike_44 : decode prog_4_method_21_code 44 = .ok (.iconst 0, 1) := by decide +kernel
theorem d_Nt_isLike_45 : decode prog_4_method_21_code 45 = .ok (.ireturn, 1) := by decide +kernel
theorem d_Nt_isLike_46 : decode prog_4_method_21_code 46 = .ok (.iconst 0, 1) := by decide +kernel
theorem d_Nt_isLike_47 : decode prog_4_method_21_code 47 = .ok (.istore_n 2, 1) := by decide +kernel
theorem d_Nt_isLike_48 : decode prog_4_method_21_code 48 = .ok (.iload_n 2, 1) := by decide +kernel
theorem d_Nt_isLike_49 : decode prog_4_method_21_code 49 = .ok (.aload_n 0, 1) := by decide +kernel
theorem d_Nt_isLike_50 : decode prog_4_method_21_code 50 = .ok (.getfield 25, 3) := by decide +kernel
theorem d_Nt_isLike_53 : decode prog_4_method_21_code 53 = .ok (.if_icmp .ge 30, 3) := by decide +kernel
theorem d_Nt_isLike_56 : decode prog_4_method_21_code 56 = .ok (.aload_n 1, 1) := by decide +kernel
theorem d_Nt_isLike_57 : decode prog_4_method_21_code 57 = .ok (.aload_n 0, 1) := by decide +kernel
theorem d_Nt_isLike_58 : decode prog_4_method_21_code 58 = .ok (.getfield 9, 3) := by decide +kernel
theorem d_Nt_isLike_61 : decode prog_4_method_21_code 61 = .ok (.iload_n 2, 1) := by decide +kernel
theorem d_Nt_isLike_62 : decode prog_4_method_21_code 62 = .ok (.iaload, 1) := by decide +kernel
theorem d_Nt_isLike_63 : decode prog_4_method_21_code 63 = .ok (.aload_n 0, 1) := by decide +kernel
theorem d_Nt_isLike_64 : decode prog_4_method_21_code 64 = .ok (.getfield 15, 3) := by decide +kernel
theorem d_Nt_isLike_67 : decode prog_4_method_21_code 67 = .ok (.iload_n 2, 1) := by decide +kernel
theorem d_Nt_isLike_68 : decode prog_4_method_21_code 68 = .ok (.iaload, 1) := by decide +kernel
theorem d_Nt_isLike_69 : decode prog_4_method_21_code 69 = .ok (.invokevirtual 77, 3) := by decide +kernel
theorem d_Nt_isLike_72 : decode prog_4_method_21_code 72 = .ok (.ifCond .ne 5, 3) := by decide +kernel
theorem d_Nt_isLike_75 : decode prog_4_method_21_code 75 = .ok (.iconst 0, 1) := by decide +kernel
theorem d_Nt_isLike_76 : decode prog_4_method_21_code 76 = .ok (.ireturn, 1) := by decide +kernel
theorem d_Nt_isLike_77 : decode prog_4_method_21_code 77 = .ok (.iinc 2 1, 3) := by decide +kernel
theorem d_Nt_isLike_80 : decode prog_4_method_21_code 80 = .ok (.goto (-32), 3) := by decide +kernel
theorem d_Nt_isLike_83 : decode prog_4_method_21_code 83 = .ok (.iconst 1, 1) := by decide +kernel
theorem d_Nt_isLike_84 : decode prog_4_method_21_code 84 = .ok (.ireturn, 1) := by decide +kernel
set_option maxRecDepth 20000 in
set_option maxHeartbeats 4000000 in
theorem cN_isLike (E : fk_E) (n0 : Nat) (n1 : Nat) (n2 : Nat) (n3 : Nat) (n4 : Nat) (cnt : Nat) (fi : Nat) (la : Nat) (lo : Nat) (me : Nat) (m0 : Nat) (m1 : Nat) (m2 : Nat) (m3 : Nat) (m4 : Nat) (cn2 : Nat) (fi2 : Nat) (la2 : Nat) (lo2 : Nat) (me2 : Nat) (ins : Nat → Nat) (outs : Nat → Nat) (in2 : Nat → Nat) (ou2 : Nat → Nat) (hc : cnt ≤ 14) (hb : ∀ j, j < cnt → ins j < 128 ∧ outs j < 128) (hc2 : cn2 ≤ 14) (hb2 : ∀ j, j < cn2 → in2 j < 128 ∧ ou2 j < 128) (hf : fi < 128 ∧ la < 128 ∧ me < 128) (hf2 : fi2 < 128 ∧ la2 < 128 ∧ me2 < 128) : fk_C E fy_Nt_isLike prog_4_method_21_code 3 (some .boolean) 1 0 0 [.ref n0, .ref m0] [(n0, .inr (2, [.ref n1, .ref n2, .ref n3, .ref n4, .int (nI cnt), .int (nI fi), .int (nI la), .int (nI lo), .int (nI me)])), fk_ai E n1 14 ins, fk_ai E n2 14 outs, (m0, .inr (2, [.ref m1, .ref m2, .ref m3, .ref m4, .int (nI cn2), .int (nI fi2), .int (nI la2), .int (nI lo2), .int (nI me2)])), fk_ai E m1 14 in2, fk_ai E m2 14 ou2] (S := Unit) (fun _ => some (.int (nI (Bool.toNat (decide (me = me2 ∧ fi = fi2 ∧ la = la2 ∧ cnt = cn2) && fs_all (fun z9 => fs_any (fun z8 => decide (in2 z8 = ins z9) && decide (ou2 z8 = outs z9)) cn2) cnt))))) (fun _ => True) (fun _ => [(n0, .inr (2, [.ref n1, .ref n2, .ref n3, .ref n4, .int (nI cnt), .int (nI fi), .int (nI la), .int (nI lo), .int (nI me)])), fk_ai E n1 14 ins, fk_ai E n2 14 outs, (m0, .inr (2, [.ref m1, .ref m2, .ref m3, .ref m4, .int (nI cn2), .int (nI fi2), .int (nI la2), .int (nI lo2), .int (nI me2)])), fk_ai E m1 14 in2, fk_ai E m2 14 ou2]) := by
  refine fk_enterZ (v := fun _ => decide (me = me2 ∧ fi = fi2 ∧ la = la2 ∧ cnt = cn2) && fs_all (fun z9 => fs_any (fun z8 => decide (in2 z8 = ins z9) && decide (ou2 z8 = outs z9)) cn2) cnt) (by decide) (Nat.le_of_ble_eq_true rfl) (lv0 := [(0, .ref n0), (1, .ref m0)]) rfl ?_
  intro K hini hret
  refine fk_aload_n 0 d_Nt_isLike_0 rfl ?_
  refine fk_get 0 8 rfl rfl fh_Nt (Nat.le_of_ble_eq_true rfl) fw_52 rfl d_Nt_isLike_1 ?_
  refine fk_aload_n 1 d_Nt_isLike_4 rfl ?_
  refine fk_get 3 8 rfl rfl fh_Nt (Nat.le_of_ble_eq_true rfl) fw_52 rfl d_Nt_isLike_5 ?_
  refine fk_icmp_ne (a := me) (b := me2) (by omega) (by omega) d_Nt_isLike_8 rfl (fun h8t => ?_) (fun h8f => ?_)
  · refine fk_iconst (v := nI 0) d_Nt_isLike_44 (by decide +kernel) ?_
    refine fk_top (fn_rf (b := decide (me = me2 ∧ fi = fi2 ∧ la = la2 ∧ cnt = cn2) && fs_all (fun z9 => fs_any (fun z8 => decide (in2 z8 = ins z9) && decide (ou2 z8 = outs z9)) cn2) cnt) (by rw [decide_eq_false (by omega), Bool.false_and])) ?_
    exact hret (0, 0) _ 45 _ () d_Nt_isLike_45 (trivial) (rfl)
  · refine fk_aload_n 0 d_Nt_isLike_11 rfl ?_
    refine fk_get 0 5 rfl rfl fh_Nt (Nat.le_of_ble_eq_true rfl) fw_49 rfl d_Nt_isLike_12 ?_
    refine fk_aload_n 1 d_Nt_isLike_15 rfl ?_
    refine fk_get 3 5 rfl rfl fh_Nt (Nat.le_of_ble_eq_true rfl) fw_49 rfl d_Nt_isLike_16 ?_
    refine fk_icmp_ne (a := fi) (b := fi2) (by omega) (by omega) d_Nt_isLike_19 rfl (fun h19t => ?_) (fun h19f => ?_)
    · refine fk_iconst (v := nI 0) d_Nt_isLike_44 (by decide +kernel) ?_
      refine fk_top (fn_rf (b := decide (me = me2 ∧ fi = fi2 ∧ la = la2 ∧ cnt = cn2) && fs_all (fun z9 => fs_any (fun z8 => decide (in2 z8 = ins z9) && decide (ou2 z8 = outs z9)) cn2) cnt) (by rw [decide_eq_false (by omega), Bool.false_and])) ?_
      exact hret (0, 0) _ 45 _ () d_Nt_isLike_45 (trivial) (rfl)
    · refine fk_aload_n 0 d_Nt_isLike_22 rfl ?_
      refine fk_get 0 6 rfl rfl fh_Nt (Nat.le_of_ble_eq_true rfl) fw_50 rfl d_Nt_isLike_23 ?_
      refine fk_aload_n 1 d_Nt_isLike_26 rfl ?_
      refine fk_get 3 6 rfl rfl fh_Nt (Nat.le_of_ble_eq_true rfl) fw_50 rfl d_Nt_isLike_27 ?_
      refine fk_icmp_ne (a := la) (b := la2) (by omega) (by omega) d_Nt_isLike_30 rfl (fun h30t => ?_) (fun h30f => ?_)
      · refine fk_iconst (v := nI 0) d_Nt_isLike_44 (by decide +kernel) ?_
        refine fk_top (fn_rf (b := decide (me = me2 ∧ fi = fi2 ∧ la = la2 ∧ cnt = cn2) && fs_all (fun z9 => fs_any (fun z8 => decide (in2 z8 = ins z9) && decide (ou2 z8 = outs z9)) cn2) cnt) (by rw [decide_eq_false (by omega), Bool.false_and])) ?_
        exact hret (0, 0) _ 45 _ () d_Nt_isLike_45 (trivial) (rfl)
      · refine fk_aload_n 0 d_Nt_isLike_33 rfl ?_
        refine fk_get 0 4 rfl rfl fh_Nt (Nat.le_of_ble_eq_true rfl) fw_48 rfl d_Nt_isLike_34 ?_
        refine fk_aload_n 1 d_Nt_isLike_37 rfl ?_
        refine fk_get 3 4 rfl rfl fh_Nt (Nat.le_of_ble_eq_true rfl) fw_48 rfl d_Nt_isLike_38 ?_
        refine fk_icmp_eq (a := cnt) (b := cn2) (by omega) (by omega) d_Nt_isLike_41 rfl (fun h41t => ?_) (fun h41f => ?_)
        · refine fk_iconst (v := nI 0) d_Nt_isLike_46 (by decide +kernel) ?_
          refine fk_istore_n (lv' := [(0, .ref n0), (1, .ref m0), (2, .int (nI 0))]) d_Nt_isLike_47 rfl (Nat.le_of_ble_eq_true rfl) [1, 2, 0] rfl ?_
          have L48 : ∀ (fuel : Nat) (k : Nat), (k ≤ cnt) → (∀ j, j < k → fs_any (fun i => decide (in2 i = ins j) && decide (ou2 i = outs j)) cn2 = true) → cnt - k < fuel → fk_V E (prog_4_method_21_code, fy_Nt_isLike.cls, 3, fk_rm 1 0 0) K (0, 0) [(n0, .inr (2, [.ref n1, .ref n2, .ref n3, .ref n4, .int (nI cnt), .int (nI fi), .int (nI la), .int (nI lo), .int (nI me)])), fk_ai E n1 14 ins, fk_ai E n2 14 outs, (m0, .inr (2, [.ref m1, .ref m2, .ref m3, .ref m4, .int (nI cn2), .int (nI fi2), .int (nI la2), .int (nI lo2), .int (nI me2)])), fk_ai E m1 14 in2, fk_ai E m2 14 ou2] 48 [(0, .ref n0), (1, .ref m0), (2, .int (nI k))] [] := by
            intro fuel
            induction fuel with
            | zero => intro k _ _ hm; exact absurd hm (Nat.not_lt_zero _)
            | succ fuel ih =>
              intro k h1 h2 hm48
              have ih48 := ih
              clear ih
              refine fk_iload_n 2 d_Nt_isLike_48 rfl ?_
              refine fk_aload_n 0 d_Nt_isLike_49 rfl ?_
              refine fk_get 0 4 rfl rfl fh_Nt (Nat.le_of_ble_eq_true rfl) fw_48 rfl d_Nt_isLike_50 ?_
              refine fk_icmp_ge (a := k) (b := cnt) (by omega) (by omega) d_Nt_isLike_53 rfl (fun h53t => ?_) (fun h53f => ?_)
              · refine fk_iconst (v := nI 1) d_Nt_isLike_83 (by decide +kernel) ?_
                refine fk_top (fn_rt (b := decide (me = me2 ∧ fi = fi2 ∧ la = la2 ∧ cnt = cn2) && fs_all (fun z9 => fs_any (fun z8 => decide (in2 z8 = ins z9) && decide (ou2 z8 = outs z9)) cn2) cnt) (by rw [decide_eq_true (by omega), fs_all_iff.mpr (fun j hj => h2 j (by omega))]; rfl)) ?_
                exact hret (0, 0) _ 84 _ () d_Nt_isLike_84 (trivial) (rfl)
              · have g1 := hb k (by omega)
                refine fk_aload_n 1 d_Nt_isLike_56 rfl ?_
                refine fk_aload_n 0 d_Nt_isLike_57 rfl ?_
                refine fk_get 0 0 rfl rfl fh_Nt (Nat.le_of_ble_eq_true rfl) fw_44 rfl d_Nt_isLike_58 ?_
                refine fk_iload_n 2 d_Nt_isLike_61 rfl ?_
                refine fk_ld_ai (i := k) 1 rfl (by omega) (by decide) d_Nt_isLike_62 ?_
                refine fk_aload_n 0 d_Nt_isLike_63 rfl ?_
                refine fk_get 0 1 rfl rfl fh_Nt (Nat.le_of_ble_eq_true rfl) fw_45 rfl d_Nt_isLike_64 ?_
                refine fk_iload_n 2 d_Nt_isLike_67 rfl ?_
                refine fk_ld_ai (i := k) 2 rfl (by omega) (by decide) d_Nt_isLike_68 ?_
                refine fk_callV (q0 := 3) (As := [.int (nI (ins k)), .int (nI (outs k))]) (rest := []) (is := [3, 4, 5]) (ir := [0, 1, 2]) (ip := [0, 1, 2, 3, 4, 5]) (wc := [(m0, .inr (2, [.ref m1, .ref m2, .ref m3, .ref m4, .int (nI cn2), .int (nI fi2), .int (nI la2), .int (nI lo2), .int (nI me2)])), fk_ai E m1 14 in2, fk_ai E m2 14 ou2]) (wr := [(n0, .inr (2, [.ref n1, .ref n2, .ref n3, .ref n4, .int (nI cnt), .int (nI fi), .int (nI la), .int (nI lo), .int (nI me)])), fk_ai E n1 14 ins, fk_ai E n2 14 outs]) (w2 := fun _ => [(n0, .inr (2, [.ref n1, .ref n2, .ref n3, .ref n4, .int (nI cnt), .int (nI fi), .int (nI la), .int (nI lo), .int (nI me)])), fk_ai E n1 14 ins, fk_ai E n2 14 outs, (m0, .inr (2, [.ref m1, .ref m2, .ref m3, .ref m4, .int (nI cn2), .int (nI fi2), .int (nI la2), .int (nI lo2), .int (nI me2)])), fk_ai E m1 14 in2, fk_ai E m2 14 ou2]) (cN_hasPlace E m0 m1 m2 m3 m4 cn2 fi2 la2 lo2 me2 in2 ou2 (ins k) (outs k) (by first | omega | assumption) (by first | omega | assumption) (by first | omega | assumption) (by first | omega | assumption)) d_Nt_isLike_69 fz_Nt_hasPlace fw_500 rfl rfl fw_314 fw_315 ⟨Nat.le_of_ble_eq_true rfl, Nat.le_of_ble_eq_true rfl⟩ rfl (Nat.le_of_ble_eq_true rfl) ⟨Nat.zero_le _, Nat.zero_le _⟩ ⟨rfl, rfl, rfl, rfl, by decide, fun _ => rfl, rfl⟩ (fun u hu69 => ?_)
                show fk_V E _ K (0, 0) [(n0, .inr (2, [.ref n1, .ref n2, .ref n3, .ref n4, .int (nI cnt), .int (nI fi), .int (nI la), .int (nI lo), .int (nI me)])), fk_ai E n1 14 ins, fk_ai E n2 14 outs, (m0, .inr (2, [.ref m1, .ref m2, .ref m3, .ref m4, .int (nI cn2), .int (nI fi2), .int (nI la2), .int (nI lo2), .int (nI me2)])), fk_ai E m1 14 in2, fk_ai E m2 14 ou2] 72 [(0, .ref n0), (1, .ref m0), (2, .int (nI k))] [.int (nI (Bool.toNat (fs_any (fun z9 => decide (in2 z9 = (ins k)) && decide (ou2 z9 = (outs k))) cn2)))]
                refine fk_if_neB (b := (fs_any (fun z9 => decide (in2 z9 = (ins k)) && decide (ou2 z9 = (outs k))) cn2)) d_Nt_isLike_72 rfl (fun h72t => ?_) (fun h72f => ?_)
                · refine fk_iinc (j := 2) (lv' := [(0, .ref n0), (1, .ref m0), (2, .int (nI (k + 1)))]) (k + 1) d_Nt_isLike_77 rfl (nI_1 k) (Nat.le_of_ble_eq_true rfl) [1, 2, 0] rfl ?_
                  refine fk_goto d_Nt_isLike_80 rfl ?_
                  refine ih48 _ ?_ ?_ ?_
                  · first | omega | assumption | exact Nat.zero_le _
                  · exact fs_lt_t (f := fun j => fs_any (fun i => decide (in2 i = ins j) && decide (ou2 i = outs j)) cn2) h2 h72t
                  · omega
                · refine fk_iconst (v := nI 0) d_Nt_isLike_75 (by decide +kernel) ?_
                  refine fk_top (fn_rf (b := decide (me = me2 ∧ fi = fi2 ∧ la = la2 ∧ cnt = cn2) && fs_all (fun z9 => fs_any (fun z8 => decide (in2 z8 = ins z9) && decide (ou2 z8 = outs z9)) cn2) cnt) (by rw [fs_all_f (j := k) (by omega) h72f, Bool.and_false])) ?_
                  exact hret (0, 0) _ 76 _ () d_Nt_isLike_76 (trivial) (rfl)
          refine L48 _ _ ?_ ?_ (Nat.lt_succ_self _)
          · first | omega | assumption | exact Nat.zero_le _
          · exact fs_lt_0
        · refine fk_iconst (v := nI 0) d_Nt_isLike_44 (by decide +kernel) ?_
          refine fk_top (fn_rf (b := decide (me = me2 ∧ fi = fi2 ∧ la = la2 ∧ cnt = cn2) && fs_all (fun z9 => fs_any (fun z8 => decide (in2 z8 = ins z9) && decide (ou2 z8 = outs z9)) cn2) cnt) (by rw [decide_eq_false (by omega), Bool.false_and])) ?_
          exact hret (0, 0) _ 45 _ () d_Nt_isLike_45 (trivial) (rfl)
end
section
/-! rows for the miner -/
theorem fn_xor (a b : Nat) : nI a ^^^ nI b = nI (a ^^^ b) := by
  apply Int32.toBitVec_inj.1
  show BitVec.ofNat 32 a ^^^ BitVec.ofNat 32 b = BitVec.ofNat 32 (a ^^^ b)
  apply BitVec.eq_of_getLsbD_eq
  intro i hi
  simp [hi]
def fg_kn (fl : Nat → Nat → Bool) (a b : Nat) : Bool := fl a b || fl b a
theorem fg_kn_str (fl : Nat → Nat → Bool) (a b : Nat) : fg_kn fl a b = !(fg_str fl a b) := by
  unfold fg_kn fg_str
  cases fl a b <;> cases fl b a <;> rfl
theorem fb_ones : ∀ i, i < 7 → (4294967295 : Nat).testBit i = true := by decide +kernel
theorem fb_sub {r e : Nat} (hr : r < 128) : r &&& (e ^^^ 4294967295) = 0 ↔ fs_all (fun b => !(r.testBit b) || e.testBit b) 7 = true := by
  rw [fm_and0, fs_all_iff]
  constructor
  · intro h b hb
    have h1 := h b
    rw [Nat.testBit_xor, fb_ones b hb] at h1
    cases q : r.testBit b <;> cases z : e.testBit b <;> rw [q, z] at h1 <;> simp at h1 ⊢
  · intro h i
    rcases Nat.lt_or_ge i 7 with hi | hi
    · have h1 := h i hi
      rw [Nat.testBit_xor, fb_ones i hi]
      cases q : r.testBit i <;> cases z : e.testBit i <;> rw [q, z] at h1 <;> simp at h1 ⊢
    · rw [fb_big hr hi, Bool.false_and]
theorem fb_or_pos {l k : Nat} (h : 0 < l) : 0 < l ||| k := Nat.lt_of_lt_of_le h Nat.left_le_or
theorem fg_more_eq {fl : Nat → Nat → Bool} {l r : Nat} (hl : 0 < l) (hr : 0 < r) (a : Nat) : fg_more fl l r a = ((!(l.testBit a) && fg_T fl (l ||| 2 ^ a) r) || (!(r.testBit a) && fg_T fl l (r ||| 2 ^ a))) := by
  unfold fg_more
  rw [fg_C_T (fb_or_pos hl) hr, fg_C_T hl (fb_or_pos hr)]
theorem fg_Q_eq {fl : Nat → Nat → Bool} {l r : Nat} (hr : r < 128) : fg_Q fl (128 * l + r) = (fg_C fl l r && fg_G fl l r) := by
  unfold fg_Q
  rw [show (128 * l + r) / 128 = l by omega, show (128 * l + r) % 128 = r by omega]
theorem fl_left (l m : List Nat) {k : Nat} (h : k < l.length) : (l ++ m).getD k 0 = l.getD k 0 := by
  rw [List.getD_eq_getElem?_getD, List.getD_eq_getElem?_getD, List.getElem?_append_left h]
theorem fl_new (l : List Nat) (x : Nat) : (l ++ [x]).getD l.length 0 = x := by
  rw [List.getD_eq_getElem?_getD, List.getElem?_append_right (Nat.le_refl _), Nat.sub_self]
  rfl
theorem fl_mem (l : List Nat) {k : Nat} (h : k < l.length) : l.getD k 0 ∈ l := by
  rw [List.getD_eq_getElem?_getD, List.getElem?_eq_getElem h]
  exact List.getElem_mem h
/-- the pairs found below n, in their rows -/
def fg_P (fl : Nat → Nat → Bool) (n pr : Nat) (pin pou : Nat → Nat) : Prop := pr = (fg_L fl n).length ∧ pr ≤ 14 ∧ ∀ k, k < pr → pin k = (fg_L fl n).getD k 0 / 128 ∧ pou k = (fg_L fl n).getD k 0 % 128
theorem fg_P_f {fl : Nat → Nat → Bool} {n pr : Nat} {pin pou : Nat → Nat} (h : fg_P fl n pr pin pou) (hq : fg_Q fl n = false) : fg_P fl (n + 1) pr pin pou := by
  unfold fg_P
  rw [fg_L_f hq]
  exact h
theorem fg_P_t {fl : Nat → Nat → Bool} {n pr : Nat} {pin pou : Nat → Nat} (h : fg_P fl n pr pin pou) (hp : pr < 14) (hq : fg_Q fl n = true) : fg_P fl (n + 1) (pr + 1) (va_up pin pr (n / 128)) (va_up pou pr (n % 128)) := by
  obtain ⟨h1, h2, h3⟩ := h
  unfold fg_P
  rw [fg_L_t hq]
  refine ⟨by rw [List.length_append, ← h1]; rfl, by omega, fun k hk => ?_⟩
  rcases Nat.lt_or_ge k pr with q | q
  · rw [va_up_ne _ _ (by omega), va_up_ne _ _ (by omega), fl_left _ _ (by omega)]
    exact h3 k q
  · have e : k = pr := by omega
    subst e
    rw [va_up_self, va_up_self, h1, fl_new]
    exact ⟨rfl, rfl⟩
theorem fg_P_skip {fl : Nat → Nat → Bool} {n m pr : Nat} {pin pou : Nat → Nat} (h : fg_P fl n pr pin pou) (hm : n ≤ m) (hq : ∀ i, n ≤ i → i < m → fg_Q fl i = false) : fg_P fl m pr pin pou := by
  unfold fg_P
  rw [fg_L_skip hm hq]
  exact h
theorem fg_P_full {fl : Nat → Nat → Bool} {n pr : Nat} {pin pou : Nat → Nat} (h : fg_P fl n pr pin pou) (hp : pr = 14) (hq : fg_Q fl n = true) (hn : n < 16384) : 14 < (fg_L fl 16384).length := by
  have h1 := fg_L_mono (fl := fl) (show n + 1 ≤ 16384 by omega)
  rw [fg_L_t hq, List.length_append, ← h.1, hp] at h1
  exact h1
theorem fg_P_lt {fl : Nat → Nat → Bool} {n pr : Nat} {pin pou : Nat → Nat} (h : fg_P fl n pr pin pou) (hn : n ≤ 16384) {k : Nat} (hk : k < pr) : pin k < 128 ∧ pou k < 128 := by
  obtain ⟨h1, _, h3⟩ := h
  have h4 : (fg_L fl n).getD k 0 ∈ fg_L fl n := fl_mem _ (by omega)
  have h5 := List.mem_range.mp (List.mem_filter.mp h4).1
  rw [(h3 k hk).1, (h3 k hk).2]
  omega
theorem fg_noS {fl : Nat → Nat → Bool} {l : Nat} (h : fg_S fl l = false) {i : Nat} (h1 : 128 * l ≤ i) (h2 : i < 128 * (l + 1)) : fg_Q fl i = false := by
  rw [show i = 128 * l + i % 128 by omega, fg_Q_eq (by omega)]
  rcases Nat.eq_zero_or_pos l with z | z
  · subst z; unfold fg_C; simp
  · rcases Nat.eq_zero_or_pos (i % 128) with y | y
    · rw [y]; unfold fg_C; simp
    · rw [fg_C_T z y]; unfold fg_T; rw [h]; rfl
theorem fb_some : ∀ r, r < 128 → 0 < r → ∃ b, b < 7 ∧ r.testBit b = true := by decide +kernel
theorem fg_noE {fl : Nat → Nat → Bool} {l : Nat} (h : fg_E fl l = 0) {i : Nat} (h1 : 128 * l ≤ i) (h2 : i < 128 * (l + 1)) : fg_Q fl i = false := by
  rw [show i = 128 * l + i % 128 by omega, fg_Q_eq (by omega)]
  rcases Nat.eq_zero_or_pos l with z | z
  · subst z; unfold fg_C; simp
  · rcases Nat.eq_zero_or_pos (i % 128) with y | y
    · rw [y]; unfold fg_C; simp
    · rw [fg_C_T z y]
      obtain ⟨b, hb, hq⟩ := fb_some (i % 128) (by omega) y
      unfold fg_T
      rw [fs_all_f hb (by rw [hq, h, Nat.zero_testBit]; rfl), Bool.and_false, Bool.false_and]
theorem fb_add_or {r a : Nat} (h : r < 2 ^ a) : r ||| 2 ^ a = 2 ^ a + r := by
  have h1 := Nat.two_pow_add_eq_or_of_lt h 1
  rw [Nat.mul_one] at h1
  rw [h1, Nat.or_comm]
theorem fb_pow_le {a : Nat} (h : a < 7) : 2 ^ a + 2 ^ a ≤ 128 := by
  have h1 : 2 ^ (a + 1) ≤ 2 ^ 7 := Nat.pow_le_pow_right (by decide) (by omega)
  rw [Nat.pow_succ] at h1
  omega
end
section
theorem d_Mi_causedBy_0 : decode prog_3_method_5_code 0 = .ok (.iconst 0, 1) := by decide +kernel
theorem d_Mi_causedBy_1 : decode prog_3_method_5_code 1 = .ok (.istore_n 2, 1) := by decide +kernel
theorem d_Mi_causedBy_2 : decode prog_3_method_5_code 2 = .ok (.iconst 0, 1) := by decide +kernel
theorem d_Mi_causedBy_3 : decode prog_3_method_5_code 3 = .ok (.istore_n 3, 1) := by decide +kernel
theorem d_Mi_causedBy_4 : decode prog_3_method_5_code 4 = .ok (.iload_n 3, 1) := by decide +kernel
theorem d_Mi_causedBy_5 : decode prog_3_method_5_code 5 = .ok (.bipush 7, 2) := by decide +kernel
theorem d_Mi_causedBy_7 : decode prog_3_method_5_code 7 = .ok (.if_icmp .ge 33, 3) := by decide +kernel
theorem d_Mi_causedBy_10 : decode prog_3_method_5_code 10 = .ok (.aload_n 0, 1) := by decide +kernel
theorem d_Mi_causedBy_11 : decode prog_3_method_5_code 11 = .ok (.iload_n 1, 1) := by decide +kernel
theorem d_Mi_causedBy_12 : decode prog_3_method_5_code 12 = .ok (.iload_n 3, 1) := by decide +kernel
theorem d_Mi_causedBy_13 : decode prog_3_method_5_code 13 = .ok (.invokevirtual 73, 3) := by decide +kernel
theorem d_Mi_causedBy_16 : decode prog_3_method_5_code 16 = .ok (.ifCond .eq 18, 3) := by decide +kernel
theorem d_Mi_causedBy_19 : decode prog_3_method_5_code 19 = .ok (.aload_n 0, 1) := by decide +kernel
theorem d_Mi_causedBy_20 : decode prog_3_method_5_code 20 = .ok (.iload_n 3, 1) := by decide +kernel
theorem d_Mi_causedBy_21 : decode prog_3_method_5_code 21 = .ok (.iload_n 1, 1) := by decide +kernel
theorem d_Mi_causedBy_22 : decode prog_3_method_5_code 22 = .ok (.invokevirtual 73, 3) := by decide +kernel
theorem d_Mi_causedBy_25 : decode prog_3_method_5_code 25 = .ok (.ifCond .ne 9, 3) := by decide +kernel
theorem d_Mi_causedBy_28 : decode prog_3_method_5_code 28 = .ok (.iload_n 2, 1) := by decide +kernel
theorem d_Mi_causedBy_29 : decode prog_3_method_5_code 29 = .ok (.iconst 1, 1) := by decide +kernel
theorem d_Mi_causedBy_30 : decode prog_3_method_5_code 30 = .ok (.iload_n 3, 1) := by decide +kernel
theorem d_Mi_causedBy_31 : decode prog_3_method_5_code 31 = .ok (.ishl, 1) := by decide +kernel
theorem d_Mi_causedBy_32 : decode prog_3_method_5_code 32 = .ok (.ior, 1) := by decide +kernel
theorem d_Mi_causedBy_33 : decode prog_3_method_5_code 33 = .ok (.istore_n 2, 1) := by decide +kernel
theorem d_Mi_causedBy_34 : decode prog_3_method_5_code 34 = .ok (.iinc 3 1, 3) := by decide +kernel
theorem d_Mi_causedBy_37 : decode prog_3_method_5_code 37 = .ok (.goto (-33), 3) := by decide +kernel
theorem d_Mi_causedBy_40 : decode prog_3_method_5_code 40 = .ok (.iload_n 2, 1) := by decide +kernel
theorem d_Mi_causedBy_41 : decode prog_3_method_5_code 41 = .ok (.ireturn, 1) := by decide +kernel
set_option maxRecDepth 20000 in
set_option maxHeartbeats 4000000 in
theorem cM_causedBy (E : fk_E) (a0 : Nat) (a1 : Nat) (a2 : Nat) (a3 : Nat) (tr : Nat) (fo : Nat → Nat) (fl : Nat → Nat → Bool) (a : Nat) (hfl : ∀ a, a < 7 → ∀ b, b < 7 → Nat.testBit (fo a) b = fl a b) (hf : ∀ k, k < 7 → fo k < 128) (ha : a < 7) : fk_C E fy_Mi_causedBy prog_3_method_5_code 4 (some .int) 2 0 0 [.ref a0, .int (nI a)] [(a0, .inr (1, [.ref a1, .ref a2, .ref a3, .int (nI tr)])), fk_ai E a3 7 fo] (S := Unit) (fun _ => some (.int (nI (fs_set (fg_caus fl a) 7)))) (fun _ => True) (fun _ => [(a0, .inr (1, [.ref a1, .ref a2, .ref a3, .int (nI tr)])), fk_ai E a3 7 fo]) := by
  refine fk_enterI (v := fun _ => (nI (fs_set (fg_caus fl a) 7))) (by decide) (Nat.le_of_ble_eq_true rfl) (lv0 := [(0, .ref a0), (1, .int (nI a))]) rfl ?_
  intro K hini hret
  refine fk_iconst (v := nI 0) d_Mi_causedBy_0 (by decide +kernel) ?_
  refine fk_istore_n (lv' := [(0, .ref a0), (1, .int (nI a)), (2, .int (nI 0))]) d_Mi_causedBy_1 rfl (Nat.le_of_ble_eq_true rfl) [1, 2, 0] rfl ?_
  refine fk_iconst (v := nI 0) d_Mi_causedBy_2 (by decide +kernel) ?_
  refine fk_istore_n (lv' := [(0, .ref a0), (1, .int (nI a)), (2, .int (nI 0)), (3, .int (nI 0))]) d_Mi_causedBy_3 rfl (Nat.le_of_ble_eq_true rfl) [1, 2, 3, 0] rfl ?_
  have L4 : ∀ (fuel : Nat) (s : Nat) (b : Nat), (b ≤ 7) → (s = fs_set (fg_caus fl a) b) → 7 - b < fuel → fk_V E (prog_3_method_5_code, fy_Mi_causedBy.cls, 4, fk_rm 2 0 0) K (0, 0) [(a0, .inr (1, [.ref a1, .ref a2, .ref a3, .int (nI tr)])), fk_ai E a3 7 fo] 4 [(0, .ref a0), (1, .int (nI a)), (2, .int (nI s)), (3, .int (nI b))] [] := by
    intro fuel
    induction fuel with
    | zero => intro s b _ _ hm; exact absurd hm (Nat.not_lt_zero _)
    | succ fuel ih =>
      intro s b h1 h2 hm4
      have ih4 := ih
      clear ih
      refine fk_iload_n 3 d_Mi_causedBy_4 rfl ?_
      refine fk_bipush (v := nI 7) d_Mi_causedBy_5 (by decide +kernel) ?_
      refine fk_icmp_ge (a := b) (b := 7) (by omega) (by omega) d_Mi_causedBy_7 rfl (fun h7t => ?_) (fun h7f => ?_)
      · refine fk_iload_n 2 d_Mi_causedBy_40 rfl ?_
        refine fk_top (congrArg nI (show s = fs_set (fg_caus fl a) 7 from by rw [h2, show b = 7 by omega])) ?_
        exact hret (0, 0) _ 41 _ () d_Mi_causedBy_41 (trivial) (rfl)
      · have q1 := hfl a ha b h7f
        have q2 := hfl b h7f a ha
        refine fk_aload_n 0 d_Mi_causedBy_10 rfl ?_
        refine fk_iload_n 1 d_Mi_causedBy_11 rfl ?_
        refine fk_iload_n 3 d_Mi_causedBy_12 rfl ?_
        refine fk_callV (q0 := 0) (As := [.int (nI a), .int (nI b)]) (rest := []) (is := [0, 1]) (ir := []) (ip := [0, 1]) (wc := [(a0, .inr (1, [.ref a1, .ref a2, .ref a3, .int (nI tr)])), fk_ai E a3 7 fo]) (wr := []) (w2 := fun _ => [(a0, .inr (1, [.ref a1, .ref a2, .ref a3, .int (nI tr)])), fk_ai E a3 7 fo]) (cL_isFollowed E a0 a1 a2 a3 tr fo a b (by first | omega | assumption) (by first | omega | assumption) (by first | omega | assumption)) d_Mi_causedBy_13 fz_Lg_isFollowed fw_240 rfl rfl fw_219 fw_220 ⟨Nat.le_of_ble_eq_true rfl, Nat.le_of_ble_eq_true rfl⟩ rfl (Nat.le_of_ble_eq_true rfl) ⟨Nat.zero_le _, Nat.zero_le _⟩ ⟨rfl, rfl, rfl, rfl, by decide, fun _ => rfl, rfl⟩ (fun u hu13 => ?_)
        show fk_V E _ K (0, 0) [(a0, .inr (1, [.ref a1, .ref a2, .ref a3, .int (nI tr)])), fk_ai E a3 7 fo] 16 [(0, .ref a0), (1, .int (nI a)), (2, .int (nI s)), (3, .int (nI b))] [.int (nI (Bool.toNat (Nat.testBit (fo a) b)))]
        refine fk_if_eqB (b := (Nat.testBit (fo a) b)) d_Mi_causedBy_16 rfl (fun h16t => ?_) (fun h16f => ?_)
        · have g1 := q1.symm.trans h16t
          refine fk_iinc (j := 3) (lv' := [(0, .ref a0), (1, .int (nI a)), (2, .int (nI s)), (3, .int (nI (b + 1)))]) (b + 1) d_Mi_causedBy_34 rfl (nI_1 b) (Nat.le_of_ble_eq_true rfl) [1, 2, 3, 0] rfl ?_
          refine fk_goto d_Mi_causedBy_37 rfl ?_
          refine ih4 _ _ ?_ ?_ ?_
          · first | omega | assumption | exact Nat.zero_le _
          · rw [h2]
            first | (refine fs_set_t ?_; unfold fg_caus; rw [g1, g2]; rfl) | (refine fs_set_f ?_; unfold fg_caus; rw [g1, g2]; rfl) | (refine fs_set_f ?_; unfold fg_caus; rw [g1]; rfl)
          · omega
        · have g1 := q1.symm.trans h16f
          refine fk_aload_n 0 d_Mi_causedBy_19 rfl ?_
          refine fk_iload_n 3 d_Mi_causedBy_20 rfl ?_
          refine fk_iload_n 1 d_Mi_causedBy_21 rfl ?_
          refine fk_callV (q0 := 0) (As := [.int (nI b), .int (nI a)]) (rest := []) (is := [0, 1]) (ir := []) (ip := [0, 1]) (wc := [(a0, .inr (1, [.ref a1, .ref a2, .ref a3, .int (nI tr)])), fk_ai E a3 7 fo]) (wr := []) (w2 := fun _ => [(a0, .inr (1, [.ref a1, .ref a2, .ref a3, .int (nI tr)])), fk_ai E a3 7 fo]) (cL_isFollowed E a0 a1 a2 a3 tr fo b a (by first | omega | assumption) (by first | omega | assumption) (by first | omega | assumption)) d_Mi_causedBy_22 fz_Lg_isFollowed fw_240 rfl rfl fw_219 fw_220 ⟨Nat.le_of_ble_eq_true rfl, Nat.le_of_ble_eq_true rfl⟩ rfl (Nat.le_of_ble_eq_true rfl) ⟨Nat.zero_le _, Nat.zero_le _⟩ ⟨rfl, rfl, rfl, rfl, by decide, fun _ => rfl, rfl⟩ (fun u hu22 => ?_)
          show fk_V E _ K (0, 0) [(a0, .inr (1, [.ref a1, .ref a2, .ref a3, .int (nI tr)])), fk_ai E a3 7 fo] 25 [(0, .ref a0), (1, .int (nI a)), (2, .int (nI s)), (3, .int (nI b))] [.int (nI (Bool.toNat (Nat.testBit (fo b) a)))]
          refine fk_if_neB (b := (Nat.testBit (fo b) a)) d_Mi_causedBy_25 rfl (fun h25t => ?_) (fun h25f => ?_)
          · have g2 := q2.symm.trans h25t
            refine fk_iinc (j := 3) (lv' := [(0, .ref a0), (1, .int (nI a)), (2, .int (nI s)), (3, .int (nI (b + 1)))]) (b + 1) d_Mi_causedBy_34 rfl (nI_1 b) (Nat.le_of_ble_eq_true rfl) [1, 2, 3, 0] rfl ?_
            refine fk_goto d_Mi_causedBy_37 rfl ?_
            refine ih4 _ _ ?_ ?_ ?_
            · first | omega | assumption | exact Nat.zero_le _
            · rw [h2]
              first | (refine fs_set_t ?_; unfold fg_caus; rw [g1, g2]; rfl) | (refine fs_set_f ?_; unfold fg_caus; rw [g1, g2]; rfl) | (refine fs_set_f ?_; unfold fg_caus; rw [g1]; rfl)
            · omega
          · have g2 := q2.symm.trans h25f
            refine fk_iload_n 2 d_Mi_causedBy_28 rfl ?_
            refine fk_iconst (v := nI 1) d_Mi_causedBy_29 (by decide +kernel) ?_
            refine fk_iload_n 3 d_Mi_causedBy_30 rfl ?_
            refine fk_ishl (a := 1) (b := b) d_Mi_causedBy_31 (by omega) (by have := fb_pow_lt h7f; omega) ?_
            refine fk_top (show nI (1 * 2 ^ b) = nI (2 ^ b) by rw [Nat.one_mul]) ?_
            refine fk_ior (a := s) (b := (2 ^ b)) d_Mi_causedBy_32 ?_
            refine fk_istore_n (lv' := [(0, .ref a0), (1, .int (nI a)), (2, .int (nI (s ||| (2 ^ b)))), (3, .int (nI b))]) d_Mi_causedBy_33 rfl (Nat.le_of_ble_eq_true rfl) [1, 2, 0, 3] rfl ?_
            refine fk_iinc (j := 3) (lv' := [(0, .ref a0), (1, .int (nI a)), (2, .int (nI (s ||| (2 ^ b)))), (3, .int (nI (b + 1)))]) (b + 1) d_Mi_causedBy_34 rfl (nI_1 b) (Nat.le_of_ble_eq_true rfl) [1, 2, 3, 0] rfl ?_
            refine fk_goto d_Mi_causedBy_37 rfl ?_
            refine ih4 _ _ ?_ ?_ ?_
            · first | omega | assumption | exact Nat.zero_le _
            · rw [h2]
              first | (refine fs_set_t ?_; unfold fg_caus; rw [g1, g2]; rfl) | (refine fs_set_f ?_; unfold fg_caus; rw [g1, g2]; rfl) | (refine fs_set_f ?_; unfold fg_caus; rw [g1]; rfl)
            · omega
  refine L4 _ _ _ ?_ ?_ (Nat.lt_succ_self _)
  · first | omega | assumption | exact Nat.zero_le _
  · rfl
theorem d_Mi_knownTo_0 : decode prog_3_method_6_code 0 = .ok (.iconst 0, 1) := by decide +kernel
theorem d_Mi_knownTo_1 : decode prog_3_method_6_code 1 = .ok (.istore_n 2, 1) := by decide +kernel
theorem d_Mi_knownTo_2 : decode prog_3_method_6_code 2 = .ok (.iconst 0, 1) := by decide +kernel
theorem d_Mi_knownTo_3 : decode prog_3_method_6_code 3 = .ok (.istore_n 3, 1) := by decide +kernel
theorem d_Mi_knownTo_4 : decode prog_3_method_6_code 4 = .ok (.iload_n 3, 1) := by decide +kernel
theorem d_Mi_knownTo_5 : decode prog_3_method_6_code 5 = .ok (.bipush 7, 2) := by decide +kernel
theorem d_Mi_knownTo_7 : decode prog_3_method_6_code 7 = .ok (.if_icmp .ge 33, 3) := by decide +kernel
theorem d_Mi_knownTo_10 : decode prog_3_method_6_code 10 = .ok (.aload_n 0, 1) := by decide +kernel
theorem d_Mi_knownTo_11 : decode prog_3_method_6_code 11 = .ok (.iload_n 1, 1) := by decide +kernel
theorem d_Mi_knownTo_12 : decode prog_3_method_6_code 12 = .ok (.iload_n 3, 1) := by decide +kernel
theorem d_Mi_knownTo_13 : decode prog_3_method_6_code 13 = .ok (.invokevirtual 73, 3) := by decide +kernel
theorem d_Mi_knownTo_16 : decode prog_3_method_6_code 16 = .ok (.ifCond .ne 12, 3) := by decide +kernel
theorem d_Mi_knownTo_19 : decode prog_3_method_6_code 19 = .ok (.aload_n 0, 1) := by decide +kernel
theorem d_Mi_knownTo_20 : decode prog_3_method_6_code 20 = .ok (.iload_n 3, 1) := by decide +kernel
theorem d_Mi_knownTo_21 : decode prog_3_method_6_code 21 = .ok (.iload_n 1, 1) := by decide +kernel
theorem d_Mi_knownTo_22 : decode prog_3_method_6_code 22 = .ok (.invokevirtual 73, 3) := by decide +kernel
theorem d_Mi_knownTo_25 : decode prog_3_method_6_code 25 = .ok (.ifCond .eq 9, 3) := by decide +kernel
theorem d_Mi_knownTo_28 : decode prog_3_method_6_code 28 = .ok (.iload_n 2, 1) := by decide +kernel
theorem d_Mi_knownTo_29 : decode prog_3_method_6_code 29 = .ok (.iconst 1, 1) := by decide +kernel
theorem d_Mi_knownTo_30 : decode prog_3_method_6_code 30 = .ok (.iload_n 3, 1) := by decide +kernel
theorem d_Mi_knownTo_31 : decode prog_3_method_6_code 31 = .ok (.ishl, 1) := by decide +kernel
theorem d_Mi_knownTo_32 : decode prog_3_method_6_code 32 = .ok (.ior, 1) := by decide +kernel
theorem d_Mi_knownTo_33 : decode prog_3_method_6_code 33 = .ok (.istore_n 2, 1) := by decide +kernel
theorem d_Mi_knownTo_34 : decode prog_3_method_6_code 34 = .ok (.iinc 3 1, 3) := by decide +kernel
theorem d_Mi_knownTo_37 : decode prog_3_method_6_code 37 = .ok (.goto (-33), 3) := by decide +kernel
theorem d_Mi_knownTo_40 : decode prog_3_method_6_code 40 = .ok (.iload_n 2, 1) := by decide +kernel
theorem d_Mi_knownTo_41 : decode prog_3_method_6_code 41 = .ok (.ireturn, 1) := by decide +kernel
set_option maxRecDepth 20000 in
set_option maxHeartbeats 4000000 in
theorem cM_knownTo (E : fk_E) (a0 : Nat) (a1 : Nat) (a2 : Nat) (a3 : Nat) (tr : Nat) (fo : Nat → Nat) (fl : Nat → Nat → Bool) (a : Nat) (hfl : ∀ a, a < 7 → ∀ b, b < 7 → Nat.testBit (fo a) b = fl a b) (hf : ∀ k, k < 7 → fo k < 128) (ha : a < 7) : fk_C E fy_Mi_knownTo prog_3_method_6_code 4 (some .int) 2 0 0 [.ref a0, .int (nI a)] [(a0, .inr (1, [.ref a1, .ref a2, .ref a3, .int (nI tr)])), fk_ai E a3 7 fo] (S := Unit) (fun _ => some (.int (nI (fs_set (fg_kn fl a) 7)))) (fun _ => True) (fun _ => [(a0, .inr (1, [.ref a1, .ref a2, .ref a3, .int (nI tr)])), fk_ai E a3 7 fo]) := by
  refine fk_enterI (v := fun _ => (nI (fs_set (fg_kn fl a) 7))) (by decide) (Nat.le_of_ble_eq_true rfl) (lv0 := [(0, .ref a0), (1, .int (nI a))]) rfl ?_
  intro K hini hret
  refine fk_iconst (v := nI 0) d_Mi_knownTo_0 (by decide +kernel) ?_
  refine fk_istore_n (lv' := [(0, .ref a0), (1, .int (nI a)), (2, .int (nI 0))]) d_Mi_knownTo_1 rfl (Nat.le_of_ble_eq_true rfl) [1, 2, 0] rfl ?_
  refine fk_iconst (v := nI 0) d_Mi_knownTo_2 (by decide +kernel) ?_
  refine fk_istore_n (lv' := [(0, .ref a0), (1, .int (nI a)), (2, .int (nI 0)), (3, .int (nI 0))]) d_Mi_knownTo_3 rfl (Nat.le_of_ble_eq_true rfl) [1, 2, 3, 0] rfl ?_
  have L4 : ∀ (fuel : Nat) (s : Nat) (b : Nat), (b ≤ 7) → (s = fs_set (fg_kn fl a) b) → 7 - b < fuel → fk_V E (prog_3_method_6_code, fy_Mi_knownTo.cls, 4, fk_rm 2 0 0) K (0, 0) [(a0, .inr (1, [.ref a1, .ref a2, .ref a3, .int (nI tr)])), fk_ai E a3 7 fo] 4 [(0, .ref a0), (1, .int (nI a)), (2, .int (nI s)), (3, .int (nI b))] [] := by
    intro fuel
    induction fuel with
    | zero => intro s b _ _ hm; exact absurd hm (Nat.not_lt_zero _)
    | succ fuel ih =>
      intro s b h1 h2 hm4
      have ih4 := ih
      clear ih
      refine fk_iload_n 3 d_Mi_knownTo_4 rfl ?_
      refine fk_bipush (v := nI 7) d_Mi_knownTo_5 (by decide +kernel) ?_
      refine fk_icmp_ge (a := b) (b := 7) (by omega) (by omega) d_Mi_knownTo_7 rfl (fun h7t => ?_) (fun h7f => ?_)
      · refine fk_iload_n 2 d_Mi_knownTo_40 rfl ?_
        refine fk_top (congrArg nI (show s = fs_set (fg_kn fl a) 7 from by rw [h2, show b = 7 by omega])) ?_
        exact hret (0, 0) _ 41 _ () d_Mi_knownTo_41 (trivial) (rfl)
      · have q1 := hfl a ha b h7f
        have q2 := hfl b h7f a ha
        refine fk_aload_n 0 d_Mi_knownTo_10 rfl ?_
        refine fk_iload_n 1 d_Mi_knownTo_11 rfl ?_
        refine fk_iload_n 3 d_Mi_knownTo_12 rfl ?_
        refine fk_callV (q0 := 0) (As := [.int (nI a), .int (nI b)]) (rest := []) (is := [0, 1]) (ir := []) (ip := [0, 1]) (wc := [(a0, .inr (1, [.ref a1, .ref a2, .ref a3, .int (nI tr)])), fk_ai E a3 7 fo]) (wr := []) (w2 := fun _ => [(a0, .inr (1, [.ref a1, .ref a2, .ref a3, .int (nI tr)])), fk_ai E a3 7 fo]) (cL_isFollowed E a0 a1 a2 a3 tr fo a b (by first | omega | assumption) (by first | omega | assumption) (by first | omega | assumption)) d_Mi_knownTo_13 fz_Lg_isFollowed fw_240 rfl rfl fw_219 fw_220 ⟨Nat.le_of_ble_eq_true rfl, Nat.le_of_ble_eq_true rfl⟩ rfl (Nat.le_of_ble_eq_true rfl) ⟨Nat.zero_le _, Nat.zero_le _⟩ ⟨rfl, rfl, rfl, rfl, by decide, fun _ => rfl, rfl⟩ (fun u hu13 => ?_)
        show fk_V E _ K (0, 0) [(a0, .inr (1, [.ref a1, .ref a2, .ref a3, .int (nI tr)])), fk_ai E a3 7 fo] 16 [(0, .ref a0), (1, .int (nI a)), (2, .int (nI s)), (3, .int (nI b))] [.int (nI (Bool.toNat (Nat.testBit (fo a) b)))]
        refine fk_if_neB (b := (Nat.testBit (fo a) b)) d_Mi_knownTo_16 rfl (fun h16t => ?_) (fun h16f => ?_)
        · have g1 := q1.symm.trans h16t
          refine fk_iload_n 2 d_Mi_knownTo_28 rfl ?_
          refine fk_iconst (v := nI 1) d_Mi_knownTo_29 (by decide +kernel) ?_
          refine fk_iload_n 3 d_Mi_knownTo_30 rfl ?_
          refine fk_ishl (a := 1) (b := b) d_Mi_knownTo_31 (by omega) (by have := fb_pow_lt h7f; omega) ?_
          refine fk_top (show nI (1 * 2 ^ b) = nI (2 ^ b) by rw [Nat.one_mul]) ?_
          refine fk_ior (a := s) (b := (2 ^ b)) d_Mi_knownTo_32 ?_
          refine fk_istore_n (lv' := [(0, .ref a0), (1, .int (nI a)), (2, .int (nI (s ||| (2 ^ b)))), (3, .int (nI b))]) d_Mi_knownTo_33 rfl (Nat.le_of_ble_eq_true rfl) [1, 2, 0, 3] rfl ?_
          refine fk_iinc (j := 3) (lv' := [(0, .ref a0), (1, .int (nI a)), (2, .int (nI (s ||| (2 ^ b)))), (3, .int (nI (b + 1)))]) (b + 1) d_Mi_knownTo_34 rfl (nI_1 b) (Nat.le_of_ble_eq_true rfl) [1, 2, 3, 0] rfl ?_
          refine fk_goto d_Mi_knownTo_37 rfl ?_
          refine ih4 _ _ ?_ ?_ ?_
          · first | omega | assumption | exact Nat.zero_le _
          · rw [h2]
            first | (refine fs_set_t ?_; unfold fg_kn; rw [g1]; rfl) | (refine fs_set_t ?_; unfold fg_kn; rw [g1, g2]; rfl) | (refine fs_set_f ?_; unfold fg_kn; rw [g1, g2]; rfl)
          · omega
        · have g1 := q1.symm.trans h16f
          refine fk_aload_n 0 d_Mi_knownTo_19 rfl ?_
          refine fk_iload_n 3 d_Mi_knownTo_20 rfl ?_
          refine fk_iload_n 1 d_Mi_knownTo_21 rfl ?_
          refine fk_callV (q0 := 0) (As := [.int (nI b), .int (nI a)]) (rest := []) (is := [0, 1]) (ir := []) (ip := [0, 1]) (wc := [(a0, .inr (1, [.ref a1, .ref a2, .ref a3, .int (nI tr)])), fk_ai E a3 7 fo]) (wr := []) (w2 := fun _ => [(a0, .inr (1, [.ref a1, .ref a2, .ref a3, .int (nI tr)])), fk_ai E a3 7 fo]) (cL_isFollowed E a0 a1 a2 a3 tr fo b a (by first | omega | assumption) (by first | omega | assumption) (by first | omega | assumption)) d_Mi_knownTo_22 fz_Lg_isFollowed fw_240 rfl rfl fw_219 fw_220 ⟨Nat.le_of_ble_eq_true rfl, Nat.le_of_ble_eq_true rfl⟩ rfl (Nat.le_of_ble_eq_true rfl) ⟨Nat.zero_le _, Nat.zero_le _⟩ ⟨rfl, rfl, rfl, rfl, by decide, fun _ => rfl, rfl⟩ (fun u hu22 => ?_)
          show fk_V E _ K (0, 0) [(a0, .inr (1, [.ref a1, .ref a2, .ref a3, .int (nI tr)])), fk_ai E a3 7 fo] 25 [(0, .ref a0), (1, .int (nI a)), (2, .int (nI s)), (3, .int (nI b))] [.int (nI (Bool.toNat (Nat.testBit (fo b) a)))]
          refine fk_if_eqB (b := (Nat.testBit (fo b) a)) d_Mi_knownTo_25 rfl (fun h25t => ?_) (fun h25f => ?_)
          · have g2 := q2.symm.trans h25t
            refine fk_iinc (j := 3) (lv' := [(0, .ref a0), (1, .int (nI a)), (2, .int (nI s)), (3, .int (nI (b + 1)))]) (b + 1) d_Mi_knownTo_34 rfl (nI_1 b) (Nat.le_of_ble_eq_true rfl) [1, 2, 3, 0] rfl ?_
            refine fk_goto d_Mi_knownTo_37 rfl ?_
            refine ih4 _ _ ?_ ?_ ?_
            · first | omega | assumption | exact Nat.zero_le _
            · rw [h2]
              first | (refine fs_set_t ?_; unfold fg_kn; rw [g1]; rfl) | (refine fs_set_t ?_; unfold fg_kn; rw [g1, g2]; rfl) | (refine fs_set_f ?_; unfold fg_kn; rw [g1, g2]; rfl)
            · omega
          · have g2 := q2.symm.trans h25f
            refine fk_iload_n 2 d_Mi_knownTo_28 rfl ?_
            refine fk_iconst (v := nI 1) d_Mi_knownTo_29 (by decide +kernel) ?_
            refine fk_iload_n 3 d_Mi_knownTo_30 rfl ?_
            refine fk_ishl (a := 1) (b := b) d_Mi_knownTo_31 (by omega) (by have := fb_pow_lt h7f; omega) ?_
            refine fk_top (show nI (1 * 2 ^ b) = nI (2 ^ b) by rw [Nat.one_mul]) ?_
            refine fk_ior (a := s) (b := (2 ^ b)) d_Mi_knownTo_32 ?_
            refine fk_istore_n (lv' := [(0, .ref a0), (1, .int (nI a)), (2, .int (nI (s ||| (2 ^ b)))), (3, .int (nI b))]) d_Mi_knownTo_33 rfl (Nat.le_of_ble_eq_true rfl) [1, 2, 0, 3] rfl ?_
            refine fk_iinc (j := 3) (lv' := [(0, .ref a0), (1, .int (nI a)), (2, .int (nI (s ||| (2 ^ b)))), (3, .int (nI (b + 1)))]) (b + 1) d_Mi_knownTo_34 rfl (nI_1 b) (Nat.le_of_ble_eq_true rfl) [1, 2, 3, 0] rfl ?_
            refine fk_goto d_Mi_knownTo_37 rfl ?_
            refine ih4 _ _ ?_ ?_ ?_
            · first | omega | assumption | exact Nat.zero_le _
            · rw [h2]
              first | (refine fs_set_t ?_; unfold fg_kn; rw [g1]; rfl) | (refine fs_set_t ?_; unfold fg_kn; rw [g1, g2]; rfl) | (refine fs_set_f ?_; unfold fg_kn; rw [g1, g2]; rfl)
            · omega
  refine L4 _ _ _ ?_ ?_ (Nat.lt_succ_self _)
  · first | omega | assumption | exact Nat.zero_le _
  · rfl
theorem d_Mi_isCausal_0 : decode prog_3_method_8_code 0 = .ok (.aload_n 0, 1) := by decide +kernel
theorem d_Mi_isCausal_1 : decode prog_3_method_8_code 1 = .ok (.getfield 15, 3) := by decide +kernel
theorem d_Mi_isCausal_4 : decode prog_3_method_8_code 4 = .ok (.iload_n 1, 1) := by decide +kernel
theorem d_Mi_isCausal_5 : decode prog_3_method_8_code 5 = .ok (.baload, 1) := by decide +kernel
theorem d_Mi_isCausal_6 : decode prog_3_method_8_code 6 = .ok (.ifCond .eq 29, 3) := by decide +kernel
theorem d_Mi_isCausal_9 : decode prog_3_method_8_code 9 = .ok (.aload_n 0, 1) := by decide +kernel
theorem d_Mi_isCausal_10 : decode prog_3_method_8_code 10 = .ok (.getfield 15, 3) := by decide +kernel
theorem d_Mi_isCausal_13 : decode prog_3_method_8_code 13 = .ok (.iload_n 2, 1) := by decide +kernel
theorem d_Mi_isCausal_14 : decode prog_3_method_8_code 14 = .ok (.baload, 1) := by decide +kernel
theorem d_Mi_isCausal_15 : decode prog_3_method_8_code 15 = .ok (.ifCond .eq 20, 3) := by decide +kernel
theorem d_Mi_isCausal_18 : decode prog_3_method_8_code 18 = .ok (.iload_n 2, 1) := by decide +kernel
theorem d_Mi_isCausal_19 : decode prog_3_method_8_code 19 = .ok (.aload_n 0, 1) := by decide +kernel
theorem d_Mi_isCausal_20 : decode prog_3_method_8_code 20 = .ok (.getfield 9, 3) := by decide +kernel
theorem d_Mi_isCausal_23 : decode prog_3_method_8_code 23 = .ok (.iload_n 1, 1) := by decide +kernel
theorem d_Mi_isCausal_24 : decode prog_3_method_8_code 24 = .ok (.iaload, 1) := by decide +kernel
theorem d_Mi_isCausal_25 : decode prog_3_method_8_code 25 = .ok (.iconst (-1), 1) := by decide +kernel
theorem d_Mi_isCausal_26 : decode prog_3_method_8_code 26 = .ok (.ixor, 1) := by decide +kernel
theorem d_Mi_isCausal_27 : decode prog_3_method_8_code 27 = .ok (.iand, 1) := by decide +kernel
theorem d_Mi_isCausal_28 : decode prog_3_method_8_code 28 = .ok (.ifCond .ne 7, 3) := by decide +kernel
theorem d_Mi_isCausal_31 : decode prog_3_method_8_code 31 = .ok (.iconst 1, 1) := by decide +kernel
theorem d_Mi_isCausal_32 : decode prog_3_method_8_code 32 = .ok (.goto 4, 3) := by decide +kernel
theorem d_Mi_isCausal_35 : decode prog_3_method_8_code 35 = .ok (.iconst 0, 1) := by decide +kernel
theorem d_Mi_isCausal_36 : decode prog_3_method_8_code 36 = .ok (.ireturn, 1) := by decide +kernel
set_option maxRecDepth 20000 in
set_option maxHeartbeats 4000000 in
theorem cM_isCausal (E : fk_E) (i0 : Nat) (i1 : Nat) (i2 : Nat) (i3 : Nat) (i4 : Nat) (pr : Nat) (eff : Nat → Nat) (stg : Nat → Bool) (fl : Nat → Nat → Bool) (l : Nat) (r : Nat) (he : ∀ s, s < 128 → eff s = fg_E fl s ∧ stg s = fg_S fl s) (hl : l < 128) (hr : r < 128) : fk_C E fy_Mi_isCausal prog_3_method_8_code 3 (some .boolean) 0 0 0 [.ref i0, .int (nI l), .int (nI r)] [(i0, .inr (3, [.ref i1, .ref i2, .ref i3, .ref i4, .int (nI pr)])), fk_ai E i1 128 eff, fk_az E i2 128 stg] (S := Unit) (fun _ => some (.int (nI (Bool.toNat (fg_T fl l r))))) (fun _ => True) (fun _ => [(i0, .inr (3, [.ref i1, .ref i2, .ref i3, .ref i4, .int (nI pr)])), fk_ai E i1 128 eff, fk_az E i2 128 stg]) := by
  refine fk_enterZ (v := fun _ => fg_T fl l r) (by decide) (Nat.le_of_ble_eq_true rfl) (lv0 := [(0, .ref i0), (1, .int (nI l)), (2, .int (nI r))]) rfl ?_
  intro K hini hret
  have e1 := he l hl
  have e2 := he r hr
  refine fk_aload_n 0 d_Mi_isCausal_0 rfl ?_
  refine fk_get 0 1 rfl rfl fh_Mi (Nat.le_of_ble_eq_true rfl) fw_80 rfl d_Mi_isCausal_1 ?_
  refine fk_iload_n 1 d_Mi_isCausal_4 rfl ?_
  refine fk_ld_az (i := l) 2 rfl (by omega) (by decide) d_Mi_isCausal_5 ?_
  refine fk_if_eqB (b := (stg l)) d_Mi_isCausal_6 rfl (fun h6t => ?_) (fun h6f => ?_)
  · refine fk_iconst (v := nI 0) d_Mi_isCausal_35 (by decide +kernel) ?_
    refine fk_top (fn_rf (b := fg_T fl l r) (by unfold fg_T; first | (rw [← e1.2, h6t]; rfl) | (rw [← e1.2, ← e2.2, h6f, h15t]; rfl) | (rw [← e1.2, ← e2.2, h6f, h15f, ← e1.1, (fb_sub hr).mp h28f]; rfl) | (rw [← e1.2, ← e2.2, h6f, h15f, ← e1.1]; cases q : fs_all (fun b => !(r.testBit b) || (eff l).testBit b) 7 with | false => rfl | true => exact absurd ((fb_sub hr).mpr q) h28t))) ?_
    exact hret (0, 0) _ 36 _ () d_Mi_isCausal_36 (trivial) (rfl)
  · refine fk_aload_n 0 d_Mi_isCausal_9 rfl ?_
    refine fk_get 0 1 rfl rfl fh_Mi (Nat.le_of_ble_eq_true rfl) fw_80 rfl d_Mi_isCausal_10 ?_
    refine fk_iload_n 2 d_Mi_isCausal_13 rfl ?_
    refine fk_ld_az (i := r) 2 rfl (by omega) (by decide) d_Mi_isCausal_14 ?_
    refine fk_if_eqB (b := (stg r)) d_Mi_isCausal_15 rfl (fun h15t => ?_) (fun h15f => ?_)
    · refine fk_iconst (v := nI 0) d_Mi_isCausal_35 (by decide +kernel) ?_
      refine fk_top (fn_rf (b := fg_T fl l r) (by unfold fg_T; first | (rw [← e1.2, h6t]; rfl) | (rw [← e1.2, ← e2.2, h6f, h15t]; rfl) | (rw [← e1.2, ← e2.2, h6f, h15f, ← e1.1, (fb_sub hr).mp h28f]; rfl) | (rw [← e1.2, ← e2.2, h6f, h15f, ← e1.1]; cases q : fs_all (fun b => !(r.testBit b) || (eff l).testBit b) 7 with | false => rfl | true => exact absurd ((fb_sub hr).mpr q) h28t))) ?_
      exact hret (0, 0) _ 36 _ () d_Mi_isCausal_36 (trivial) (rfl)
    · refine fk_iload_n 2 d_Mi_isCausal_18 rfl ?_
      refine fk_aload_n 0 d_Mi_isCausal_19 rfl ?_
      refine fk_get 0 0 rfl rfl fh_Mi (Nat.le_of_ble_eq_true rfl) fw_79 rfl d_Mi_isCausal_20 ?_
      refine fk_iload_n 1 d_Mi_isCausal_23 rfl ?_
      refine fk_ld_ai (i := l) 1 rfl (by omega) (by decide) d_Mi_isCausal_24 ?_
      refine fk_iconst (v := nI 4294967295) d_Mi_isCausal_25 (by decide +kernel) ?_
      refine fk_ixorR d_Mi_isCausal_26 ?_
      refine fk_top (fn_xor (eff l) 4294967295) ?_
      refine fk_iand (a := r) (b := ((eff l) ^^^ 4294967295)) d_Mi_isCausal_27 ?_
      refine fk_if_ne (a := (r &&& ((eff l) ^^^ 4294967295))) (by have := fb_and_lt' (b := eff l ^^^ 4294967295) hr; omega) d_Mi_isCausal_28 rfl (fun h28t => ?_) (fun h28f => ?_)
      · refine fk_iconst (v := nI 0) d_Mi_isCausal_35 (by decide +kernel) ?_
        refine fk_top (fn_rf (b := fg_T fl l r) (by unfold fg_T; first | (rw [← e1.2, h6t]; rfl) | (rw [← e1.2, ← e2.2, h6f, h15t]; rfl) | (rw [← e1.2, ← e2.2, h6f, h15f, ← e1.1, (fb_sub hr).mp h28f]; rfl) | (rw [← e1.2, ← e2.2, h6f, h15f, ← e1.1]; cases q : fs_all (fun b => !(r.testBit b) || (eff l).testBit b) 7 with | false => rfl | true => exact absurd ((fb_sub hr).mpr q) h28t))) ?_
        exact hret (0, 0) _ 36 _ () d_Mi_isCausal_36 (trivial) (rfl)
      · refine fk_iconst (v := nI 1) d_Mi_isCausal_31 (by decide +kernel) ?_
        refine fk_goto d_Mi_isCausal_32 rfl ?_
        refine fk_top (fn_rt (b := fg_T fl l r) (by unfold fg_T; first | (rw [← e1.2, h6t]; rfl) | (rw [← e1.2, ← e2.2, h6f, h15t]; rfl) | (rw [← e1.2, ← e2.2, h6f, h15f, ← e1.1, (fb_sub hr).mp h28f]; rfl) | (rw [← e1.2, ← e2.2, h6f, h15f, ← e1.1]; cases q : fs_all (fun b => !(r.testBit b) || (eff l).testBit b) 7 with | false => rfl | true => exact absurd ((fb_sub hr).mpr q) h28t))) ?_
        exact hret (0, 0) _ 36 _ () d_Mi_isCausal_36 (trivial) (rfl)
theorem d_Mi_isGreatest_0 : decode prog_3_method_9_code 0 = .ok (.iconst 0, 1) := by decide +kernel
theorem d_Mi_isGreatest_1 : decode prog_3_method_9_code 1 = .ok (.istore_n 3, 1) := by decide +kernel
theorem d_Mi_isGreatest_2 : decode prog_3_method_9_code 2 = .ok (.iload_n 3, 1) := by decide +kernel
theorem d_Mi_isGreatest_3 : decode prog_3_method_9_code 3 = .ok (.bipush 7, 2) := by decide +kernel
theorem d_Mi_isGreatest_5 : decode prog_3_method_9_code 5 = .ok (.if_icmp .ge 56, 3) := by decide +kernel
theorem d_Mi_isGreatest_8 : decode prog_3_method_9_code 8 = .ok (.iconst 1, 1) := by decide +kernel
theorem d_Mi_isGreatest_9 : decode prog_3_method_9_code 9 = .ok (.iload_n 3, 1) := by decide +kernel
theorem d_Mi_isGreatest_10 : decode prog_3_method_9_code 10 = .ok (.ishl, 1) := by decide +kernel
theorem d_Mi_isGreatest_11 : decode prog_3_method_9_code 11 = .ok (.istore 4, 2) := by decide +kernel
theorem d_Mi_isGreatest_13 : decode prog_3_method_9_code 13 = .ok (.iload_n 1, 1) := by decide +kernel
theorem d_Mi_isGreatest_14 : decode prog_3_method_9_code 14 = .ok (.iload 4, 2) := by decide +kernel
theorem d_Mi_isGreatest_16 : decode prog_3_method_9_code 16 = .ok (.iand, 1) := by decide +kernel
theorem d_Mi_isGreatest_17 : decode prog_3_method_9_code 17 = .ok (.ifCond .ne 17, 3) := by decide +kernel
theorem d_Mi_isGreatest_20 : decode prog_3_method_9_code 20 = .ok (.aload_n 0, 1) := by decide +kernel
theorem d_Mi_isGreatest_21 : decode prog_3_method_9_code 21 = .ok (.iload_n 1, 1) := by decide +kernel
theorem d_Mi_isGreatest_22 : decode prog_3_method_9_code 22 = .ok (.iload 4, 2) := by decide +kernel
theorem d_Mi_isGreatest_24 : decode prog_3_method_9_code 24 = .ok (.ior, 1) := by decide +kernel
theorem d_Mi_isGreatest_25 : decode prog_3_method_9_code 25 = .ok (.iload_n 2, 1) := by decide +kernel
theorem d_Mi_isGreatest_26 : decode prog_3_method_9_code 26 = .ok (.invokevirtual 76, 3) := by decide +kernel
theorem d_Mi_isGreatest_29 : decode prog_3_method_9_code 29 = .ok (.ifCond .eq 5, 3) := by decide +kernel
theorem d_Mi_isGreatest_32 : decode prog_3_method_9_code 32 = .ok (.iconst 0, 1) := by decide +kernel
theorem d_Mi_isGreatest_33 : decode prog_3_method_9_code 33 = .ok (.ireturn, 1) := by decide +kernel
theorem d_Mi_isGreatest_34 : decode prog_3_method_9_code 34 = .ok (.iload_n 2, 1) := by decide +kernel
theorem d_Mi_isGreatest_35 : decode prog_3_method_9_code 35 = .ok (.iload 4, 2) := by decide +kernel
theorem d_Mi_isGreatest_37 : decode prog_3_method_9_code 37 = .ok (.iand, 1) := by decide +kernel
theorem d_Mi_isGreatest_38 : decode prog_3_method_9_code 38 = .ok (.ifCond .ne 17, 3) := by decide +kernel
theorem d_Mi_isGreatest_41 : decode prog_3_method_9_code 41 = .ok (.aload_n 0, 1) := by decide +kernel
theorem d_Mi_isGreatest_42 : decode prog_3_method_9_code 42 = .ok (.iload_n 1, 1) := by decide +kernel
theorem d_Mi_isGreatest_43 : decode prog_3_method_9_code 43 = .ok (.iload_n 2, 1) := by decide +kernel
theorem d_Mi_isGreatest_44 : decode prog_3_method_9_code 44 = .ok (.iload 4, 2) := by decide +kernel
theorem d_Mi_isGreatest_46 : decode prog_3_method_9_code 46 = .ok (.ior, 1) := by decide +kernel
theorem d_Mi_isGreatest_47 : decode prog_3_method_9_code 47 = .ok (.invokevirtual 76, 3) := by decide +kernel
theorem d_Mi_isGreatest_50 : decode prog_3_method_9_code 50 = .ok (.ifCond .eq 5, 3) := by decide +kernel
theorem d_Mi_isGreatest_53 : decode prog_3_method_9_code 53 = .ok (.iconst 0, 1) := by decide +kernel
theorem d_Mi_isGreatest_54 : decode prog_3_method_9_code 54 = .ok (.ireturn, 1) := by decide +kernel
theorem d_Mi_isGreatest_55 : decode prog_3_method_9_code 55 = .ok (.iinc 3 1, 3) := by decide +kernel
theorem d_Mi_isGreatest_58 : decode prog_3_method_9_code 58 = .ok (.goto (-56), 3) := by decide +kernel
theorem d_Mi_isGreatest_61 : decode prog_3_method_9_code 61 = .ok (.iconst 1, 1) := by decide +kernel
theorem d_Mi_isGreatest_62 : decode prog_3_method_9_code 62 = .ok (.ireturn, 1) := by decide +kernel
set_option maxRecDepth 20000 in
set_option maxHeartbeats 4000000 in
theorem cM_isGreatest (E : fk_E) (i0 : Nat) (i1 : Nat) (i2 : Nat) (i3 : Nat) (i4 : Nat) (pr : Nat) (eff : Nat → Nat) (stg : Nat → Bool) (fl : Nat → Nat → Bool) (l : Nat) (r : Nat) (he : ∀ s, s < 128 → eff s = fg_E fl s ∧ stg s = fg_S fl s) (hl : l < 128) (hr : r < 128) (hl0 : 0 < l) (hr0 : 0 < r) : fk_C E fy_Mi_isGreatest prog_3_method_9_code 5 (some .boolean) 1 0 0 [.ref i0, .int (nI l), .int (nI r)] [(i0, .inr (3, [.ref i1, .ref i2, .ref i3, .ref i4, .int (nI pr)])), fk_ai E i1 128 eff, fk_az E i2 128 stg] (S := Unit) (fun _ => some (.int (nI (Bool.toNat (fg_G fl l r))))) (fun _ => True) (fun _ => [(i0, .inr (3, [.ref i1, .ref i2, .ref i3, .ref i4, .int (nI pr)])), fk_ai E i1 128 eff, fk_az E i2 128 stg]) := by
  refine fk_enterZ (v := fun _ => fg_G fl l r) (by decide) (Nat.le_of_ble_eq_true rfl) (lv0 := [(0, .ref i0), (1, .int (nI l)), (2, .int (nI r))]) rfl ?_
  intro K hini hret
  refine fk_iconst (v := nI 0) d_Mi_isGreatest_0 (by decide +kernel) ?_
  refine fk_istore_n (lv' := [(0, .ref i0), (1, .int (nI l)), (2, .int (nI r)), (3, .int (nI 0))]) d_Mi_isGreatest_1 rfl (Nat.le_of_ble_eq_true rfl) [1, 2, 3, 0] rfl ?_
  have L2 : ∀ (fuel : Nat) (a : Nat), (a ≤ 7) → (∀ j, j < a → fg_more fl l r j = false) → 7 - a < fuel → fk_V E (prog_3_method_9_code, fy_Mi_isGreatest.cls, 5, fk_rm 1 0 0) K (0, 0) [(i0, .inr (3, [.ref i1, .ref i2, .ref i3, .ref i4, .int (nI pr)])), fk_ai E i1 128 eff, fk_az E i2 128 stg] 2 [(0, .ref i0), (1, .int (nI l)), (2, .int (nI r)), (3, .int (nI a))] [] := by
    intro fuel
    induction fuel with
    | zero => intro a _ _ hm; exact absurd hm (Nat.not_lt_zero _)
    | succ fuel ih =>
      intro a h1 h2 hm2
      have ih2 := ih
      clear ih
      refine fk_iload_n 3 d_Mi_isGreatest_2 rfl ?_
      refine fk_bipush (v := nI 7) d_Mi_isGreatest_3 (by decide +kernel) ?_
      refine fk_icmp_ge (a := a) (b := 7) (by omega) (by omega) d_Mi_isGreatest_5 rfl (fun h5t => ?_) (fun h5f => ?_)
      · refine fk_iconst (v := nI 1) d_Mi_isGreatest_61 (by decide +kernel) ?_
        refine fk_top (fn_rt (b := fg_G fl l r) (by unfold fg_G; rw [fs_any_f.mpr (fun j hj => h2 j (by omega))]; rfl)) ?_
        exact hret (0, 0) _ 62 _ () d_Mi_isGreatest_62 (trivial) (rfl)
      · have g0 := fb_pow_lt h5f
        refine fk_iconst (v := nI 1) d_Mi_isGreatest_8 (by decide +kernel) ?_
        refine fk_iload_n 3 d_Mi_isGreatest_9 rfl ?_
        refine fk_ishl (a := 1) (b := a) d_Mi_isGreatest_10 (by omega) (by omega) ?_
        refine fk_top (show nI (1 * 2 ^ a) = nI (2 ^ a) by rw [Nat.one_mul]) ?_
        refine fk_istore (lv' := [(0, .ref i0), (1, .int (nI l)), (2, .int (nI r)), (3, .int (nI a)), (4, .int (nI (2 ^ a)))]) d_Mi_isGreatest_11 (Nat.le_of_ble_eq_true rfl) [1, 2, 3, 4, 0] rfl ?_
        refine fk_iload_n 1 d_Mi_isGreatest_13 rfl ?_
        refine fk_iload 4 d_Mi_isGreatest_14 rfl ?_
        refine fk_iand (a := l) (b := (2 ^ a)) d_Mi_isGreatest_16 ?_
        refine fk_if_ne (a := (l &&& (2 ^ a))) (by have := fb_and_lt' (b := 2 ^ a) hl; omega) d_Mi_isGreatest_17 rfl (fun h17t => ?_) (fun h17f => ?_)
        · have g1 := fb_and_ne.mp h17t
          refine fk_iload_n 2 d_Mi_isGreatest_34 rfl ?_
          refine fk_iload 4 d_Mi_isGreatest_35 rfl ?_
          refine fk_iand (a := r) (b := (2 ^ a)) d_Mi_isGreatest_37 ?_
          refine fk_if_ne (a := (r &&& (2 ^ a))) (by have := fb_and_lt' (b := 2 ^ a) hr; omega) d_Mi_isGreatest_38 rfl (fun h38t => ?_) (fun h38f => ?_)
          · have g2 := fb_and_ne.mp h38t
            refine fk_iinc (j := 3) (lv' := [(0, .ref i0), (1, .int (nI l)), (2, .int (nI r)), (3, .int (nI (a + 1))), (4, .int (nI (2 ^ a)))]) (a + 1) d_Mi_isGreatest_55 rfl (nI_1 a) (Nat.le_of_ble_eq_true rfl) [1, 2, 3, 0, 4] rfl ?_
            refine fk_goto d_Mi_isGreatest_58 rfl ?_
            refine fk_lv (lv' := [(0, .ref i0), (1, .int (nI l)), (2, .int (nI r)), (3, .int (nI (a + 1)))]) [0, 1, 2, 3] rfl ?_
            refine ih2 _ ?_ ?_ ?_
            · first | omega | assumption | exact Nat.zero_le _
            · refine fs_lt_s h2 ?_
              rw [fg_more_eq hl0 hr0]
              first | (rw [g1, g2]; simp; done) | (rw [g1, g2, h29t]; simp; done) | (rw [g1, g2, h50t]; simp; done) | (rw [g1, g2, h29t, h50t]; simp; done)
            · omega
          · have g2 := fb_and.mp h38f
            refine fk_aload_n 0 d_Mi_isGreatest_41 rfl ?_
            refine fk_iload_n 1 d_Mi_isGreatest_42 rfl ?_
            refine fk_iload_n 2 d_Mi_isGreatest_43 rfl ?_
            refine fk_iload 4 d_Mi_isGreatest_44 rfl ?_
            refine fk_ior (a := r) (b := (2 ^ a)) d_Mi_isGreatest_46 ?_
            refine fk_callV (q0 := 0) (As := [.int (nI l), .int (nI (r ||| (2 ^ a)))]) (rest := []) (is := [0, 1, 2]) (ir := []) (ip := [0, 1, 2]) (wc := [(i0, .inr (3, [.ref i1, .ref i2, .ref i3, .ref i4, .int (nI pr)])), fk_ai E i1 128 eff, fk_az E i2 128 stg]) (wr := []) (w2 := fun _ => [(i0, .inr (3, [.ref i1, .ref i2, .ref i3, .ref i4, .int (nI pr)])), fk_ai E i1 128 eff, fk_az E i2 128 stg]) (cM_isCausal E i0 i1 i2 i3 i4 pr eff stg fl l (r ||| (2 ^ a)) he (by first | omega | assumption) (fb_or_lt hr g0)) d_Mi_isGreatest_47 fz_Mi_isCausal fw_248 rfl rfl fw_250 fw_p2 ⟨Nat.le_of_ble_eq_true rfl, Nat.le_of_ble_eq_true rfl⟩ rfl (Nat.le_of_ble_eq_true rfl) ⟨Nat.zero_le _, Nat.zero_le _⟩ ⟨rfl, rfl, rfl, rfl, by decide, fun _ => rfl, rfl⟩ (fun u hu47 => ?_)
            show fk_V E _ K (0, 0) [(i0, .inr (3, [.ref i1, .ref i2, .ref i3, .ref i4, .int (nI pr)])), fk_ai E i1 128 eff, fk_az E i2 128 stg] 50 [(0, .ref i0), (1, .int (nI l)), (2, .int (nI r)), (3, .int (nI a)), (4, .int (nI (2 ^ a)))] [.int (nI (Bool.toNat (fg_T fl l (r ||| (2 ^ a)))))]
            refine fk_if_eqB (b := (fg_T fl l (r ||| (2 ^ a)))) d_Mi_isGreatest_50 rfl (fun h50t => ?_) (fun h50f => ?_)
            · refine fk_iinc (j := 3) (lv' := [(0, .ref i0), (1, .int (nI l)), (2, .int (nI r)), (3, .int (nI (a + 1))), (4, .int (nI (2 ^ a)))]) (a + 1) d_Mi_isGreatest_55 rfl (nI_1 a) (Nat.le_of_ble_eq_true rfl) [1, 2, 3, 0, 4] rfl ?_
              refine fk_goto d_Mi_isGreatest_58 rfl ?_
              refine fk_lv (lv' := [(0, .ref i0), (1, .int (nI l)), (2, .int (nI r)), (3, .int (nI (a + 1)))]) [0, 1, 2, 3] rfl ?_
              refine ih2 _ ?_ ?_ ?_
              · first | omega | assumption | exact Nat.zero_le _
              · refine fs_lt_s h2 ?_
                rw [fg_more_eq hl0 hr0]
                first | (rw [g1, g2]; simp; done) | (rw [g1, g2, h29t]; simp; done) | (rw [g1, g2, h50t]; simp; done) | (rw [g1, g2, h29t, h50t]; simp; done)
              · omega
            · refine fk_iconst (v := nI 0) d_Mi_isGreatest_53 (by decide +kernel) ?_
              refine fk_top (fn_rf (b := fg_G fl l r) (by unfold fg_G; rw [fs_any_t h5f (by rw [fg_more_eq hl0 hr0, g2, h50f]; simp)]; rfl)) ?_
              exact hret (0, 0) _ 54 _ () d_Mi_isGreatest_54 (trivial) (rfl)
        · have g1 := fb_and.mp h17f
          refine fk_aload_n 0 d_Mi_isGreatest_20 rfl ?_
          refine fk_iload_n 1 d_Mi_isGreatest_21 rfl ?_
          refine fk_iload 4 d_Mi_isGreatest_22 rfl ?_
          refine fk_ior (a := l) (b := (2 ^ a)) d_Mi_isGreatest_24 ?_
          refine fk_iload_n 2 d_Mi_isGreatest_25 rfl ?_
          refine fk_callV (q0 := 0) (As := [.int (nI (l ||| (2 ^ a))), .int (nI r)]) (rest := []) (is := [0, 1, 2]) (ir := []) (ip := [0, 1, 2]) (wc := [(i0, .inr (3, [.ref i1, .ref i2, .ref i3, .ref i4, .int (nI pr)])), fk_ai E i1 128 eff, fk_az E i2 128 stg]) (wr := []) (w2 := fun _ => [(i0, .inr (3, [.ref i1, .ref i2, .ref i3, .ref i4, .int (nI pr)])), fk_ai E i1 128 eff, fk_az E i2 128 stg]) (cM_isCausal E i0 i1 i2 i3 i4 pr eff stg fl (l ||| (2 ^ a)) r he (fb_or_lt hl g0) (by first | omega | assumption)) d_Mi_isGreatest_26 fz_Mi_isCausal fw_248 rfl rfl fw_250 fw_p2 ⟨Nat.le_of_ble_eq_true rfl, Nat.le_of_ble_eq_true rfl⟩ rfl (Nat.le_of_ble_eq_true rfl) ⟨Nat.zero_le _, Nat.zero_le _⟩ ⟨rfl, rfl, rfl, rfl, by decide, fun _ => rfl, rfl⟩ (fun u hu26 => ?_)
          show fk_V E _ K (0, 0) [(i0, .inr (3, [.ref i1, .ref i2, .ref i3, .ref i4, .int (nI pr)])), fk_ai E i1 128 eff, fk_az E i2 128 stg] 29 [(0, .ref i0), (1, .int (nI l)), (2, .int (nI r)), (3, .int (nI a)), (4, .int (nI (2 ^ a)))] [.int (nI (Bool.toNat (fg_T fl (l ||| (2 ^ a)) r)))]
          refine fk_if_eqB (b := (fg_T fl (l ||| (2 ^ a)) r)) d_Mi_isGreatest_29 rfl (fun h29t => ?_) (fun h29f => ?_)
          · refine fk_iload_n 2 d_Mi_isGreatest_34 rfl ?_
            refine fk_iload 4 d_Mi_isGreatest_35 rfl ?_
            refine fk_iand (a := r) (b := (2 ^ a)) d_Mi_isGreatest_37 ?_
            refine fk_if_ne (a := (r &&& (2 ^ a))) (by have := fb_and_lt' (b := 2 ^ a) hr; omega) d_Mi_isGreatest_38 rfl (fun h38t => ?_) (fun h38f => ?_)
            · have g2 := fb_and_ne.mp h38t
              refine fk_iinc (j := 3) (lv' := [(0, .ref i0), (1, .int (nI l)), (2, .int (nI r)), (3, .int (nI (a + 1))), (4, .int (nI (2 ^ a)))]) (a + 1) d_Mi_isGreatest_55 rfl (nI_1 a) (Nat.le_of_ble_eq_true rfl) [1, 2, 3, 0, 4] rfl ?_
              refine fk_goto d_Mi_isGreatest_58 rfl ?_
              refine fk_lv (lv' := [(0, .ref i0), (1, .int (nI l)), (2, .int (nI r)), (3, .int (nI (a + 1)))]) [0, 1, 2, 3] rfl ?_
              refine ih2 _ ?_ ?_ ?_
              · first | omega | assumption | exact Nat.zero_le _
              · refine fs_lt_s h2 ?_
                rw [fg_more_eq hl0 hr0]
                first | (rw [g1, g2]; simp; done) | (rw [g1, g2, h29t]; simp; done) | (rw [g1, g2, h50t]; simp; done) | (rw [g1, g2, h29t, h50t]; simp; done)
              · omega
            · have g2 := fb_and.mp h38f
              refine fk_aload_n 0 d_Mi_isGreatest_41 rfl ?_
              refine fk_iload_n 1 d_Mi_isGreatest_42 rfl ?_
              refine fk_iload_n 2 d_Mi_isGreatest_43 rfl ?_
              refine fk_iload 4 d_Mi_isGreatest_44 rfl ?_
              refine fk_ior (a := r) (b := (2 ^ a)) d_Mi_isGreatest_46 ?_
              refine fk_callV (q0 := 0) (As := [.int (nI l), .int (nI (r ||| (2 ^ a)))]) (rest := []) (is := [0, 1, 2]) (ir := []) (ip := [0, 1, 2]) (wc := [(i0, .inr (3, [.ref i1, .ref i2, .ref i3, .ref i4, .int (nI pr)])), fk_ai E i1 128 eff, fk_az E i2 128 stg]) (wr := []) (w2 := fun _ => [(i0, .inr (3, [.ref i1, .ref i2, .ref i3, .ref i4, .int (nI pr)])), fk_ai E i1 128 eff, fk_az E i2 128 stg]) (cM_isCausal E i0 i1 i2 i3 i4 pr eff stg fl l (r ||| (2 ^ a)) he (by first | omega | assumption) (fb_or_lt hr g0)) d_Mi_isGreatest_47 fz_Mi_isCausal fw_248 rfl rfl fw_250 fw_p2 ⟨Nat.le_of_ble_eq_true rfl, Nat.le_of_ble_eq_true rfl⟩ rfl (Nat.le_of_ble_eq_true rfl) ⟨Nat.zero_le _, Nat.zero_le _⟩ ⟨rfl, rfl, rfl, rfl, by decide, fun _ => rfl, rfl⟩ (fun u hu47 => ?_)
              show fk_V E _ K (0, 0) [(i0, .inr (3, [.ref i1, .ref i2, .ref i3, .ref i4, .int (nI pr)])), fk_ai E i1 128 eff, fk_az E i2 128 stg] 50 [(0, .ref i0), (1, .int (nI l)), (2, .int (nI r)), (3, .int (nI a)), (4, .int (nI (2 ^ a)))] [.int (nI (Bool.toNat (fg_T fl l (r ||| (2 ^ a)))))]
              refine fk_if_eqB (b := (fg_T fl l (r ||| (2 ^ a)))) d_Mi_isGreatest_50 rfl (fun h50t => ?_) (fun h50f => ?_)
              · refine fk_iinc (j := 3) (lv' := [(0, .ref i0), (1, .int (nI l)), (2, .int (nI r)), (3, .int (nI (a + 1))), (4, .int (nI (2 ^ a)))]) (a + 1) d_Mi_isGreatest_55 rfl (nI_1 a) (Nat.le_of_ble_eq_true rfl) [1, 2, 3, 0, 4] rfl ?_
                refine fk_goto d_Mi_isGreatest_58 rfl ?_
                refine fk_lv (lv' := [(0, .ref i0), (1, .int (nI l)), (2, .int (nI r)), (3, .int (nI (a + 1)))]) [0, 1, 2, 3] rfl ?_
                refine ih2 _ ?_ ?_ ?_
                · first | omega | assumption | exact Nat.zero_le _
                · refine fs_lt_s h2 ?_
                  rw [fg_more_eq hl0 hr0]
                  first | (rw [g1, g2]; simp; done) | (rw [g1, g2, h29t]; simp; done) | (rw [g1, g2, h50t]; simp; done) | (rw [g1, g2, h29t, h50t]; simp; done)
                · omega
              · refine fk_iconst (v := nI 0) d_Mi_isGreatest_53 (by decide +kernel) ?_
                refine fk_top (fn_rf (b := fg_G fl l r) (by unfold fg_G; rw [fs_any_t h5f (by rw [fg_more_eq hl0 hr0, g2, h50f]; simp)]; rfl)) ?_
                exact hret (0, 0) _ 54 _ () d_Mi_isGreatest_54 (trivial) (rfl)
          · refine fk_iconst (v := nI 0) d_Mi_isGreatest_32 (by decide +kernel) ?_
            refine fk_top (fn_rf (b := fg_G fl l r) (by unfold fg_G; rw [fs_any_t h5f (by rw [fg_more_eq hl0 hr0, g1, h29f]; rfl)]; rfl)) ?_
            exact hret (0, 0) _ 33 _ () d_Mi_isGreatest_33 (trivial) (rfl)
  refine L2 _ _ ?_ ?_ (Nat.lt_succ_self _)
  · first | omega | assumption | exact Nat.zero_le _
  · exact fs_lt_0
theorem d_Mi_addPairsOf_0 : decode prog_3_method_7_code 0 = .ok (.iconst 1, 1) := by decide +kernel
theorem d_Mi_addPairsOf_1 : decode prog_3_method_7_code 1 = .ok (.istore_n 2, 1) := by decide +kernel
theorem d_Mi_addPairsOf_2 : decode prog_3_method_7_code 2 = .ok (.iload_n 2, 1) := by decide +kernel
theorem d_Mi_addPairsOf_3 : decode prog_3_method_7_code 3 = .ok (.sipush 128, 3) := by decide +kernel
theorem d_Mi_addPairsOf_6 : decode prog_3_method_7_code 6 = .ok (.if_icmp .ge 68, 3) := by decide +kernel
theorem d_Mi_addPairsOf_9 : decode prog_3_method_7_code 9 = .ok (.aload_n 0, 1) := by decide +kernel
theorem d_Mi_addPairsOf_10 : decode prog_3_method_7_code 10 = .ok (.iload_n 1, 1) := by decide +kernel
theorem d_Mi_addPairsOf_11 : decode prog_3_method_7_code 11 = .ok (.iload_n 2, 1) := by decide +kernel
theorem d_Mi_addPairsOf_12 : decode prog_3_method_7_code 12 = .ok (.invokevirtual 76, 3) := by decide +kernel
theorem d_Mi_addPairsOf_15 : decode prog_3_method_7_code 15 = .ok (.ifCond .eq 53, 3) := by decide +kernel
theorem d_Mi_addPairsOf_18 : decode prog_3_method_7_code 18 = .ok (.aload_n 0, 1) := by decide +kernel
theorem d_Mi_addPairsOf_19 : decode prog_3_method_7_code 19 = .ok (.iload_n 1, 1) := by decide +kernel
theorem d_Mi_addPairsOf_20 : decode prog_3_method_7_code 20 = .ok (.iload_n 2, 1) := by decide +kernel
theorem d_Mi_addPairsOf_21 : decode prog_3_method_7_code 21 = .ok (.invokevirtual 79, 3) := by decide +kernel
theorem d_Mi_addPairsOf_24 : decode prog_3_method_7_code 24 = .ok (.ifCond .eq 44, 3) := by decide +kernel
theorem d_Mi_addPairsOf_27 : decode prog_3_method_7_code 27 = .ok (.aload_n 0, 1) := by decide +kernel
theorem d_Mi_addPairsOf_28 : decode prog_3_method_7_code 28 = .ok (.getfield 25, 3) := by decide +kernel
theorem d_Mi_addPairsOf_31 : decode prog_3_method_7_code 31 = .ok (.bipush 14, 2) := by decide +kernel
theorem d_Mi_addPairsOf_33 : decode prog_3_method_7_code 33 = .ok (.if_icmp .ne 5, 3) := by decide +kernel
theorem d_Mi_addPairsOf_36 : decode prog_3_method_7_code 36 = .ok (.iconst 0, 1) := by decide +kernel
theorem d_Mi_addPairsOf_37 : decode prog_3_method_7_code 37 = .ok (.ireturn, 1) := by decide +kernel
theorem d_Mi_addPairsOf_38 : decode prog_3_method_7_code 38 = .ok (.aload_n 0, 1) := by decide +kernel
theorem d_Mi_addPairsOf_39 : decode prog_3_method_7_code 39 = .ok (.getfield 19, 3) := by decide +kernel
theorem d_Mi_addPairsOf_42 : decode prog_3_method_7_code 42 = .ok (.aload_n 0, 1) := by decide +kernel
theorem d_Mi_addPairsOf_43 : decode prog_3_method_7_code 43 = .ok (.getfield 25, 3) := by decide +kernel
theorem d_Mi_addPairsOf_46 : decode prog_3_method_7_code 46 = .ok (.iload_n 1, 1) := by decide +kernel
theorem d_Mi_addPairsOf_47 : decode prog_3_method_7_code 47 = .ok (.iastore, 1) := by decide +kernel
theorem d_Mi_addPairsOf_48 : decode prog_3_method_7_code 48 = .ok (.aload_n 0, 1) := by decide +kernel
theorem d_Mi_addPairsOf_49 : decode prog_3_method_7_code 49 = .ok (.getfield 22, 3) := by decide +kernel
theorem d_Mi_addPairsOf_52 : decode prog_3_method_7_code 52 = .ok (.aload_n 0, 1) := by decide +kernel
theorem d_Mi_addPairsOf_53 : decode prog_3_method_7_code 53 = .ok (.getfield 25, 3) := by decide +kernel
theorem d_Mi_addPairsOf_56 : decode prog_3_method_7_code 56 = .ok (.iload_n 2, 1) := by decide +kernel
theorem d_Mi_addPairsOf_57 : decode prog_3_method_7_code 57 = .ok (.iastore, 1) := by decide +kernel
theorem d_Mi_addPairsOf_58 : decode prog_3_method_7_code 58 = .ok (.aload_n 0, 1) := by decide +kernel
theorem d_Mi_addPairsOf_59 : decode prog_3_method_7_code 59 = .ok (.dup, 1) := by decide +kernel
theorem d_Mi_addPairsOf_60 : decode prog_3_method_7_code 60 = .ok (.getfield 25, 3) := by decide +kernel
theorem d_Mi_addPairsOf_63 : decode prog_3_method_7_code 63 = .ok (.iconst 1, 1) := by decide +kernel
theorem d_Mi_addPairsOf_64 : decode prog_3_method_7_code 64 = .ok (.iadd, 1) := by decide +kernel
theorem d_Mi_addPairsOf_65 : decode prog_3_method_7_code 65 = .ok (.putfield 25, 3) := by decide +kernel
theorem d_Mi_addPairsOf_68 : decode prog_3_method_7_code 68 = .ok (.iinc 2 1, 3) := by decide +kernel
theorem d_Mi_addPairsOf_71 : decode prog_3_method_7_code 71 = .ok (.goto (-69), 3) := by decide +kernel
theorem d_Mi_addPairsOf_74 : decode prog_3_method_7_code 74 = .ok (.iconst 1, 1) := by decide +kernel
theorem d_Mi_addPairsOf_75 : decode prog_3_method_7_code 75 = .ok (.ireturn, 1) := by decide +kernel
set_option maxRecDepth 20000 in
set_option maxHeartbeats 4000000 in
theorem cM_addPairsOf (E : fk_E) (i0 : Nat) (i1 : Nat) (i2 : Nat) (i3 : Nat) (i4 : Nat) (pr : Nat) (eff : Nat → Nat) (stg : Nat → Bool) (fl : Nat → Nat → Bool) (pin : Nat → Nat) (pou : Nat → Nat) (l : Nat) (he : ∀ s, s < 128 → eff s = fg_E fl s ∧ stg s = fg_S fl s) (hl : l < 128) (hl0 : 0 < l) (hP : fg_P fl (128 * l) pr pin pou) : fk_C E fy_Mi_addPairsOf prog_3_method_7_code 3 (some .boolean) 2 0 0 [.ref i0, .int (nI l)] [(i0, .inr (3, [.ref i1, .ref i2, .ref i3, .ref i4, .int (nI pr)])), fk_ai E i1 128 eff, fk_az E i2 128 stg, fk_ai E i3 14 pin, fk_ai E i4 14 pou] (S := Bool × Nat × (Nat → Nat) × (Nat → Nat)) (fun (u : Bool × Nat × (Nat → Nat) × (Nat → Nat)) => some (.int (nI (Bool.toNat u.1)))) (fun (u : Bool × Nat × (Nat → Nat) × (Nat → Nat)) => (u.1 = true → fg_P fl (128 * (l + 1)) u.2.1 u.2.2.1 u.2.2.2) ∧ (u.1 = false → 14 < (fg_L fl 16384).length)) (fun (u : Bool × Nat × (Nat → Nat) × (Nat → Nat)) => [(i0, .inr (3, [.ref i1, .ref i2, .ref i3, .ref i4, .int (nI u.2.1)])), fk_ai E i1 128 eff, fk_az E i2 128 stg, fk_ai E i3 14 u.2.2.1, fk_ai E i4 14 u.2.2.2]) := by
  refine fk_enterZ (v := fun (u : Bool × Nat × (Nat → Nat) × (Nat → Nat)) => u.1) (by decide) (Nat.le_of_ble_eq_true rfl) (lv0 := [(0, .ref i0), (1, .int (nI l))]) rfl ?_
  intro K hini hret
  refine fk_iconst (v := nI 1) d_Mi_addPairsOf_0 (by decide +kernel) ?_
  refine fk_istore_n (lv' := [(0, .ref i0), (1, .int (nI l)), (2, .int (nI 1))]) d_Mi_addPairsOf_1 rfl (Nat.le_of_ble_eq_true rfl) [1, 2, 0] rfl ?_
  have L2 : ∀ (fuel : Nat) (r : Nat) (pr1 : Nat) (pi1 : Nat → Nat) (po1 : Nat → Nat), (0 < r) → (r ≤ 128) → (fg_P fl (128 * l + r) pr1 pi1 po1) → 128 - r < fuel → fk_V E (prog_3_method_7_code, fy_Mi_addPairsOf.cls, 3, fk_rm 2 0 0) K (0, 0) [(i0, .inr (3, [.ref i1, .ref i2, .ref i3, .ref i4, .int (nI pr1)])), fk_ai E i1 128 eff, fk_az E i2 128 stg, fk_ai E i3 14 pi1, fk_ai E i4 14 po1] 2 [(0, .ref i0), (1, .int (nI l)), (2, .int (nI r))] [] := by
    intro fuel
    induction fuel with
    | zero => intro r pr1 pi1 po1 _ _ _ hm; exact absurd hm (Nat.not_lt_zero _)
    | succ fuel ih =>
      intro r pr1 pi1 po1 h0 h1 h2 hm2
      have ih2 := ih
      clear ih
      refine fk_iload_n 2 d_Mi_addPairsOf_2 rfl ?_
      refine fk_sipush (v := nI 128) d_Mi_addPairsOf_3 (by decide +kernel) ?_
      refine fk_icmp_ge (a := r) (b := 128) (by omega) (by omega) d_Mi_addPairsOf_6 rfl (fun h6t => ?_) (fun h6f => ?_)
      · refine fk_iconst (v := nI 1) d_Mi_addPairsOf_74 (by decide +kernel) ?_
        refine fk_top (fn_rt (b := true) (by first | assumption | (simp; omega) | simp_all | (simp_all; omega))) ?_
        exact hret (0, 0) _ 75 _ (true, pr1, pi1, po1) d_Mi_addPairsOf_75 (⟨fun _ => by rw [show 128 * (l + 1) = 128 * l + r by omega]; exact h2, fun q => absurd (show true = false from q) (by decide)⟩) (rfl)
      · have g0 : fg_Q fl (128 * l + r) = (fg_T fl l r && fg_G fl l r) := by rw [fg_Q_eq h6f, fg_C_T hl0 h0]
        have g9 := h2.2.1
        refine fk_aload_n 0 d_Mi_addPairsOf_9 rfl ?_
        refine fk_iload_n 1 d_Mi_addPairsOf_10 rfl ?_
        refine fk_iload_n 2 d_Mi_addPairsOf_11 rfl ?_
        refine fk_callV (q0 := 0) (As := [.int (nI l), .int (nI r)]) (rest := []) (is := [0, 1, 2]) (ir := [3, 4]) (ip := [2, 3, 4, 0, 1]) (wc := [(i0, .inr (3, [.ref i1, .ref i2, .ref i3, .ref i4, .int (nI pr1)])), fk_ai E i1 128 eff, fk_az E i2 128 stg]) (wr := [fk_ai E i3 14 pi1, fk_ai E i4 14 po1]) (w2 := fun _ => [(i0, .inr (3, [.ref i1, .ref i2, .ref i3, .ref i4, .int (nI pr1)])), fk_ai E i1 128 eff, fk_az E i2 128 stg, fk_ai E i3 14 pi1, fk_ai E i4 14 po1]) (cM_isCausal E i0 i1 i2 i3 i4 pr1 eff stg fl l r he (by first | omega | assumption) (by first | omega | assumption)) d_Mi_addPairsOf_12 fz_Mi_isCausal fw_248 rfl rfl fw_250 fw_p2 ⟨Nat.le_of_ble_eq_true rfl, Nat.le_of_ble_eq_true rfl⟩ rfl (Nat.le_of_ble_eq_true rfl) ⟨Nat.zero_le _, Nat.zero_le _⟩ ⟨rfl, rfl, rfl, rfl, by decide, fun _ => rfl, rfl⟩ (fun u hu12 => ?_)
        show fk_V E _ K (0, 0) [(i0, .inr (3, [.ref i1, .ref i2, .ref i3, .ref i4, .int (nI pr1)])), fk_ai E i1 128 eff, fk_az E i2 128 stg, fk_ai E i3 14 pi1, fk_ai E i4 14 po1] 15 [(0, .ref i0), (1, .int (nI l)), (2, .int (nI r))] [.int (nI (Bool.toNat (fg_T fl l r)))]
        refine fk_if_eqB (b := (fg_T fl l r)) d_Mi_addPairsOf_15 rfl (fun h15t => ?_) (fun h15f => ?_)
        · refine fk_iinc (j := 2) (lv' := [(0, .ref i0), (1, .int (nI l)), (2, .int (nI (r + 1)))]) (r + 1) d_Mi_addPairsOf_68 rfl (nI_1 r) (Nat.le_of_ble_eq_true rfl) [1, 2, 0] rfl ?_
          refine fk_goto d_Mi_addPairsOf_71 rfl ?_
          refine ih2 _ _ _ _ ?_ ?_ ?_ ?_
          · first | omega | assumption | exact Nat.zero_le _
          · first | omega | assumption | exact Nat.zero_le _
          · rw [← Nat.add_assoc]
            first | exact fg_P_f h2 (by rw [g0, h15t, Bool.false_and]) | exact fg_P_f h2 (by rw [g0, h24t, Bool.and_false]) | (have q := fg_P_t h2 (by omega) (by rw [g0, h15f, h24f, Bool.and_self]); rw [show (128 * l + r) / 128 = l by omega, show (128 * l + r) % 128 = r by omega] at q; exact q)
          · omega
        · refine fk_aload_n 0 d_Mi_addPairsOf_18 rfl ?_
          refine fk_iload_n 1 d_Mi_addPairsOf_19 rfl ?_
          refine fk_iload_n 2 d_Mi_addPairsOf_20 rfl ?_
          refine fk_callV (q0 := 0) (As := [.int (nI l), .int (nI r)]) (rest := []) (is := [0, 1, 2]) (ir := [3, 4]) (ip := [2, 3, 4, 0, 1]) (wc := [(i0, .inr (3, [.ref i1, .ref i2, .ref i3, .ref i4, .int (nI pr1)])), fk_ai E i1 128 eff, fk_az E i2 128 stg]) (wr := [fk_ai E i3 14 pi1, fk_ai E i4 14 po1]) (w2 := fun _ => [(i0, .inr (3, [.ref i1, .ref i2, .ref i3, .ref i4, .int (nI pr1)])), fk_ai E i1 128 eff, fk_az E i2 128 stg, fk_ai E i3 14 pi1, fk_ai E i4 14 po1]) (cM_isGreatest E i0 i1 i2 i3 i4 pr1 eff stg fl l r he (by first | omega | assumption) (by first | omega | assumption) (by first | omega | assumption) (by first | omega | assumption)) d_Mi_addPairsOf_21 fz_Mi_isGreatest fw_252 rfl rfl fw_254 fw_p3 ⟨Nat.le_of_ble_eq_true rfl, Nat.le_of_ble_eq_true rfl⟩ rfl (Nat.le_of_ble_eq_true rfl) ⟨Nat.zero_le _, Nat.zero_le _⟩ ⟨rfl, rfl, rfl, rfl, by decide, fun _ => rfl, rfl⟩ (fun u hu21 => ?_)
          show fk_V E _ K (0, 0) [(i0, .inr (3, [.ref i1, .ref i2, .ref i3, .ref i4, .int (nI pr1)])), fk_ai E i1 128 eff, fk_az E i2 128 stg, fk_ai E i3 14 pi1, fk_ai E i4 14 po1] 24 [(0, .ref i0), (1, .int (nI l)), (2, .int (nI r))] [.int (nI (Bool.toNat (fg_G fl l r)))]
          refine fk_if_eqB (b := (fg_G fl l r)) d_Mi_addPairsOf_24 rfl (fun h24t => ?_) (fun h24f => ?_)
          · refine fk_iinc (j := 2) (lv' := [(0, .ref i0), (1, .int (nI l)), (2, .int (nI (r + 1)))]) (r + 1) d_Mi_addPairsOf_68 rfl (nI_1 r) (Nat.le_of_ble_eq_true rfl) [1, 2, 0] rfl ?_
            refine fk_goto d_Mi_addPairsOf_71 rfl ?_
            refine ih2 _ _ _ _ ?_ ?_ ?_ ?_
            · first | omega | assumption | exact Nat.zero_le _
            · first | omega | assumption | exact Nat.zero_le _
            · rw [← Nat.add_assoc]
              first | exact fg_P_f h2 (by rw [g0, h15t, Bool.false_and]) | exact fg_P_f h2 (by rw [g0, h24t, Bool.and_false]) | (have q := fg_P_t h2 (by omega) (by rw [g0, h15f, h24f, Bool.and_self]); rw [show (128 * l + r) / 128 = l by omega, show (128 * l + r) % 128 = r by omega] at q; exact q)
            · omega
          · refine fk_aload_n 0 d_Mi_addPairsOf_27 rfl ?_
            refine fk_get 0 4 rfl rfl fh_Mi (Nat.le_of_ble_eq_true rfl) fw_83 rfl d_Mi_addPairsOf_28 ?_
            refine fk_bipush (v := nI 14) d_Mi_addPairsOf_31 (by decide +kernel) ?_
            refine fk_icmp_ne (a := pr1) (b := 14) (by omega) (by omega) d_Mi_addPairsOf_33 rfl (fun h33t => ?_) (fun h33f => ?_)
            · refine fk_aload_n 0 d_Mi_addPairsOf_38 rfl ?_
              refine fk_get 0 2 rfl rfl fh_Mi (Nat.le_of_ble_eq_true rfl) fw_81 rfl d_Mi_addPairsOf_39 ?_
              refine fk_aload_n 0 d_Mi_addPairsOf_42 rfl ?_
              refine fk_get 0 4 rfl rfl fh_Mi (Nat.le_of_ble_eq_true rfl) fw_83 rfl d_Mi_addPairsOf_43 ?_
              refine fk_iload_n 1 d_Mi_addPairsOf_46 rfl ?_
              refine fk_st_ai (i := pr1) (x := l) (w' := [(i0, .inr (3, [.ref i1, .ref i2, .ref i3, .ref i4, .int (nI pr1)])), fk_ai E i1 128 eff, fk_az E i2 128 stg, fk_ai E i3 14 (va_up pi1 pr1 l), fk_ai E i4 14 po1]) 3 rfl (by omega) (by decide) d_Mi_addPairsOf_47 rfl ?_
              refine fk_aload_n 0 d_Mi_addPairsOf_48 rfl ?_
              refine fk_get 0 3 rfl rfl fh_Mi (Nat.le_of_ble_eq_true rfl) fw_82 rfl d_Mi_addPairsOf_49 ?_
              refine fk_aload_n 0 d_Mi_addPairsOf_52 rfl ?_
              refine fk_get 0 4 rfl rfl fh_Mi (Nat.le_of_ble_eq_true rfl) fw_83 rfl d_Mi_addPairsOf_53 ?_
              refine fk_iload_n 2 d_Mi_addPairsOf_56 rfl ?_
              refine fk_st_ai (i := pr1) (x := r) (w' := [(i0, .inr (3, [.ref i1, .ref i2, .ref i3, .ref i4, .int (nI pr1)])), fk_ai E i1 128 eff, fk_az E i2 128 stg, fk_ai E i3 14 (va_up pi1 pr1 l), fk_ai E i4 14 (va_up po1 pr1 r)]) 4 rfl (by omega) (by decide) d_Mi_addPairsOf_57 rfl ?_
              refine fk_aload_n 0 d_Mi_addPairsOf_58 rfl ?_
              refine fk_dup d_Mi_addPairsOf_59 rfl ?_
              refine fk_get 0 4 rfl rfl fh_Mi (Nat.le_of_ble_eq_true rfl) fw_83 rfl d_Mi_addPairsOf_60 ?_
              refine fk_iconst (v := nI 1) d_Mi_addPairsOf_63 (by decide +kernel) ?_
              refine fk_iadd (a := pr1) (b := 1) d_Mi_addPairsOf_64 ?_
              refine fk_put (w' := [(i0, .inr (3, [.ref i1, .ref i2, .ref i3, .ref i4, .int (nI (pr1 + 1))])), fk_ai E i1 128 eff, fk_az E i2 128 stg, fk_ai E i3 14 (va_up pi1 pr1 l), fk_ai E i4 14 (va_up po1 pr1 r)]) 0 4 fT_Mi fT_Mi_ok fT_Mi_nm rfl rfl fh_Mi (Nat.le_of_ble_eq_true rfl) fw_83 rfl (fT_Mi_ok 4 (Nat.le_of_ble_eq_true rfl)) rfl rfl (Nat.le_of_ble_eq_true rfl) d_Mi_addPairsOf_65 rfl ?_
              refine fk_iinc (j := 2) (lv' := [(0, .ref i0), (1, .int (nI l)), (2, .int (nI (r + 1)))]) (r + 1) d_Mi_addPairsOf_68 rfl (nI_1 r) (Nat.le_of_ble_eq_true rfl) [1, 2, 0] rfl ?_
              refine fk_goto d_Mi_addPairsOf_71 rfl ?_
              refine ih2 _ _ _ _ ?_ ?_ ?_ ?_
              · first | omega | assumption | exact Nat.zero_le _
              · first | omega | assumption | exact Nat.zero_le _
              · rw [← Nat.add_assoc]
                first | exact fg_P_f h2 (by rw [g0, h15t, Bool.false_and]) | exact fg_P_f h2 (by rw [g0, h24t, Bool.and_false]) | (have q := fg_P_t h2 (by omega) (by rw [g0, h15f, h24f, Bool.and_self]); rw [show (128 * l + r) / 128 = l by omega, show (128 * l + r) % 128 = r by omega] at q; exact q)
              · omega
            · refine fk_iconst (v := nI 0) d_Mi_addPairsOf_36 (by decide +kernel) ?_
              refine fk_top (fn_rf (b := false) (by first | assumption | (simp; omega) | simp_all | (simp_all; omega))) ?_
              exact hret (0, 0) _ 37 _ (false, pr1, pi1, po1) d_Mi_addPairsOf_37 (⟨fun q => absurd (show false = true from q) (by decide), fun _ => fg_P_full h2 (by omega) (by rw [g0, h15f, h24f, Bool.and_self]) (by omega)⟩) (rfl)
  refine L2 _ _ _ _ _ ?_ ?_ ?_ (Nat.lt_succ_self _)
  · first | omega | assumption | exact Nat.zero_le _
  · first | omega | assumption | exact Nat.zero_le _
  · exact fg_P_f hP (fg_Q_0 (by omega))
theorem d_Mi_prepareSets_0 : decode prog_3_method_4_code 0 = .ok (.aload_n 0, 1) := by decide +kernel
theorem d_Mi_prepareSets_1 : decode prog_3_method_4_code 1 = .ok (.getfield 9, 3) := by decide +kernel
theorem d_Mi_prepareSets_4 : decode prog_3_method_4_code 4 = .ok (.iconst 0, 1) := by decide +kernel
theorem d_Mi_prepareSets_5 : decode prog_3_method_4_code 5 = .ok (.bipush 127, 2) := by decide +kernel
theorem d_Mi_prepareSets_7 : decode prog_3_method_4_code 7 = .ok (.iastore, 1) := by decide +kernel
theorem d_Mi_prepareSets_8 : decode prog_3_method_4_code 8 = .ok (.aload_n 0, 1) := by decide +kernel
theorem d_Mi_prepareSets_9 : decode prog_3_method_4_code 9 = .ok (.getfield 15, 3) := by decide +kernel
theorem d_Mi_prepareSets_12 : decode prog_3_method_4_code 12 = .ok (.iconst 0, 1) := by decide +kernel
theorem d_Mi_prepareSets_13 : decode prog_3_method_4_code 13 = .ok (.iconst 1, 1) := by decide +kernel
theorem d_Mi_prepareSets_14 : decode prog_3_method_4_code 14 = .ok (.bastore, 1) := by decide +kernel
theorem d_Mi_prepareSets_15 : decode prog_3_method_4_code 15 = .ok (.iconst 0, 1) := by decide +kernel
theorem d_Mi_prepareSets_16 : decode prog_3_method_4_code 16 = .ok (.istore_n 2, 1) := by decide +kernel
theorem d_Mi_prepareSets_17 : decode prog_3_method_4_code 17 = .ok (.iload_n 2, 1) := by decide +kernel
theorem d_Mi_prepareSets_18 : decode prog_3_method_4_code 18 = .ok (.bipush 7, 2) := by decide +kernel
theorem d_Mi_prepareSets_20 : decode prog_3_method_4_code 20 = .ok (.if_icmp .ge 96, 3) := by decide +kernel
theorem d_Mi_prepareSets_23 : decode prog_3_method_4_code 23 = .ok (.aload_n 1, 1) := by decide +kernel
theorem d_Mi_prepareSets_24 : decode prog_3_method_4_code 24 = .ok (.iload_n 2, 1) := by decide +kernel
theorem d_Mi_prepareSets_25 : decode prog_3_method_4_code 25 = .ok (.invokestatic 66, 3) := by decide +kernel
theorem d_Mi_prepareSets_28 : decode prog_3_method_4_code 28 = .ok (.istore_n 3, 1) := by decide +kernel
theorem d_Mi_prepareSets_29 : decode prog_3_method_4_code 29 = .ok (.aload_n 1, 1) := by decide +kernel
theorem d_Mi_prepareSets_30 : decode prog_3_method_4_code 30 = .ok (.iload_n 2, 1) := by decide +kernel
theorem d_Mi_prepareSets_31 : decode prog_3_method_4_code 31 = .ok (.invokestatic 70, 3) := by decide +kernel
theorem d_Mi_prepareSets_34 : decode prog_3_method_4_code 34 = .ok (.istore 4, 2) := by decide +kernel
theorem d_Mi_prepareSets_36 : decode prog_3_method_4_code 36 = .ok (.iconst 1, 1) := by decide +kernel
theorem d_Mi_prepareSets_37 : decode prog_3_method_4_code 37 = .ok (.iload_n 2, 1) := by decide +kernel
theorem d_Mi_prepareSets_38 : decode prog_3_method_4_code 38 = .ok (.ishl, 1) := by decide +kernel
theorem d_Mi_prepareSets_39 : decode prog_3_method_4_code 39 = .ok (.istore 5, 2) := by decide +kernel
theorem d_Mi_prepareSets_41 : decode prog_3_method_4_code 41 = .ok (.iconst 0, 1) := by decide +kernel
theorem d_Mi_prepareSets_42 : decode prog_3_method_4_code 42 = .ok (.istore 6, 2) := by decide +kernel
theorem d_Mi_prepareSets_44 : decode prog_3_method_4_code 44 = .ok (.iload 6, 2) := by decide +kernel
theorem d_Mi_prepareSets_46 : decode prog_3_method_4_code 46 = .ok (.iload 5, 2) := by decide +kernel
theorem d_Mi_prepareSets_48 : decode prog_3_method_4_code 48 = .ok (.if_icmp .ge 62, 3) := by decide +kernel
theorem d_Mi_prepareSets_51 : decode prog_3_method_4_code 51 = .ok (.iload 6, 2) := by decide +kernel
theorem d_Mi_prepareSets_53 : decode prog_3_method_4_code 53 = .ok (.iload 5, 2) := by decide +kernel
theorem d_Mi_prepareSets_55 : decode prog_3_method_4_code 55 = .ok (.ior, 1) := by decide +kernel
theorem d_Mi_prepareSets_56 : decode prog_3_method_4_code 56 = .ok (.istore 7, 2) := by decide +kernel
theorem d_Mi_prepareSets_58 : decode prog_3_method_4_code 58 = .ok (.aload_n 0, 1) := by decide +kernel
theorem d_Mi_prepareSets_59 : decode prog_3_method_4_code 59 = .ok (.getfield 9, 3) := by decide +kernel
theorem d_Mi_prepareSets_62 : decode prog_3_method_4_code 62 = .ok (.iload 7, 2) := by decide +kernel
theorem d_Mi_prepareSets_64 : decode prog_3_method_4_code 64 = .ok (.aload_n 0, 1) := by decide +kernel
theorem d_Mi_prepareSets_65 : decode prog_3_method_4_code 65 = .ok (.getfield 9, 3) := by decide +kernel
theorem d_Mi_prepareSets_68 : decode prog_3_method_4_code 68 = .ok (.iload 6, 2) := by decide +kernel
theorem d_Mi_prepareSets_70 : decode prog_3_method_4_code 70 = .ok (.iaload, 1) := by decide +kernel
theorem d_Mi_prepareSets_71 : decode prog_3_method_4_code 71 = .ok (.iload_n 3, 1) := by decide +kernel
theorem d_Mi_prepareSets_72 : decode prog_3_method_4_code 72 = .ok (.iand, 1) := by decide +kernel
theorem d_Mi_prepareSets_73 : decode prog_3_method_4_code 73 = .ok (.iastore, 1) := by decide +kernel
theorem d_Mi_prepareSets_74 : decode prog_3_method_4_code 74 = .ok (.aload_n 0, 1) := by decide +kernel
theorem d_Mi_prepareSets_75 : decode prog_3_method_4_code 75 = .ok (.getfield 15, 3) := by decide +kernel
theorem d_Mi_prepareSets_78 : decode prog_3_method_4_code 78 = .ok (.iload 7, 2) := by decide +kernel
theorem d_Mi_prepareSets_80 : decode prog_3_method_4_code 80 = .ok (.aload_n 0, 1) := by decide +kernel
theorem d_Mi_prepareSets_81 : decode prog_3_method_4_code 81 = .ok (.getfield 15, 3) := by decide +kernel
theorem d_Mi_prepareSets_84 : decode prog_3_method_4_code 84 = .ok (.iload 6, 2) := by decide +kernel
theorem d_Mi_prepareSets_86 : decode prog_3_method_4_code 86 = .ok (.baload, 1) := by decide +kernel
theorem d_Mi_prepareSets_87 : decode prog_3_method_4_code 87 = .ok (.ifCond .eq 15, 3) := by decide +kernel
theorem d_Mi_prepareSets_90 : decode prog_3_method_4_code 90 = .ok (.iload 4, 2) := by decide +kernel
theorem d_Mi_prepareSets_92 : decode prog_3_method_4_code 92 = .ok (.iload 7, 2) := by decide +kernel
theorem d_Mi_prepareSets_94 : decode prog_3_method_4_code 94 = .ok (.iand, 1) := by decide +kernel
theorem d_Mi_prepareSets_95 : decode prog_3_method_4_code 95 = .ok (.ifCond .ne 7, 3) := by decide +kernel
theorem d_Mi_prepareSets_98 : decode prog_3_method_4_code 98 = .ok (.iconst 1, 1) := by decide +kernel
theorem d_Mi_prepareSets_99 : decode prog_3_method_4_code 99 = .ok (.goto 4, 3) := by decide +kernel
theorem d_Mi_prepareSets_102 : decode prog_3_method_4_code 102 = .ok (.iconst 0, 1) := by decide +kernel
theorem d_Mi_prepareSets_103 : decode prog_3_method_4_code 103 = .ok (.bastore, 1) := by decide +kernel
theorem d_Mi_prepareSets_104 : decode prog_3_method_4_code 104 = .ok (.iinc 6 1, 3) := by decide +kernel
theorem d_Mi_prepareSets_107 : decode prog_3_method_4_code 107 = .ok (.goto (-63), 3) := by decide +kernel
theorem d_Mi_prepareSets_110 : decode prog_3_method_4_code 110 = .ok (.iinc 2 1, 3) := by decide +kernel
theorem d_Mi_prepareSets_113 : decode prog_3_method_4_code 113 = .ok (.goto (-96), 3) := by decide +kernel
theorem d_Mi_prepareSets_116 : decode prog_3_method_4_code 116 = .ok (.return_, 1) := by decide +kernel
set_option maxRecDepth 20000 in
set_option maxHeartbeats 4000000 in
theorem cM_prepareSets (E : fk_E) (i0 : Nat) (i1 : Nat) (i2 : Nat) (i3 : Nat) (i4 : Nat) (pr : Nat) (a0 : Nat) (a1 : Nat) (a2 : Nat) (a3 : Nat) (tr : Nat) (eff : Nat → Nat) (stg : Nat → Bool) (fo : Nat → Nat) (fl : Nat → Nat → Bool) (hfl : ∀ a, a < 7 → ∀ b, b < 7 → Nat.testBit (fo a) b = fl a b) (hf : ∀ k, k < 7 → fo k < 128) : fk_C E fy_Mi_prepareSets prog_3_method_4_code 8 none 3 0 0 [.ref i0, .ref a0] [(i0, .inr (3, [.ref i1, .ref i2, .ref i3, .ref i4, .int (nI pr)])), fk_ai E i1 128 eff, fk_az E i2 128 stg, (a0, .inr (1, [.ref a1, .ref a2, .ref a3, .int (nI tr)])), fk_ai E a3 7 fo] (S := (Nat → Nat) × (Nat → Bool)) (fun (u : (Nat → Nat) × (Nat → Bool)) => none) (fun (u : (Nat → Nat) × (Nat → Bool)) => ∀ s, s < 128 → u.1 s = fg_E fl s ∧ u.2 s = fg_S fl s) (fun (u : (Nat → Nat) × (Nat → Bool)) => [(i0, .inr (3, [.ref i1, .ref i2, .ref i3, .ref i4, .int (nI pr)])), fk_ai E i1 128 u.1, fk_az E i2 128 u.2, (a0, .inr (1, [.ref a1, .ref a2, .ref a3, .int (nI tr)])), fk_ai E a3 7 fo]) := by
  refine fk_enterV (by decide) (Nat.le_of_ble_eq_true rfl) (lv0 := [(0, .ref i0), (1, .ref a0)]) rfl ?_
  intro K hini hret
  refine fk_aload_n 0 d_Mi_prepareSets_0 rfl ?_
  refine fk_get 0 0 rfl rfl fh_Mi (Nat.le_of_ble_eq_true rfl) fw_79 rfl d_Mi_prepareSets_1 ?_
  refine fk_iconst (v := nI 0) d_Mi_prepareSets_4 (by decide +kernel) ?_
  refine fk_bipush (v := nI 127) d_Mi_prepareSets_5 (by decide +kernel) ?_
  refine fk_st_ai (i := 0) (x := 127) (w' := [(i0, .inr (3, [.ref i1, .ref i2, .ref i3, .ref i4, .int (nI pr)])), fk_ai E i1 128 (va_up eff 0 127), fk_az E i2 128 stg, (a0, .inr (1, [.ref a1, .ref a2, .ref a3, .int (nI tr)])), fk_ai E a3 7 fo]) 1 rfl (by omega) (by decide) d_Mi_prepareSets_7 rfl ?_
  refine fk_aload_n 0 d_Mi_prepareSets_8 rfl ?_
  refine fk_get 0 1 rfl rfl fh_Mi (Nat.le_of_ble_eq_true rfl) fw_80 rfl d_Mi_prepareSets_9 ?_
  refine fk_iconst (v := nI 0) d_Mi_prepareSets_12 (by decide +kernel) ?_
  refine fk_iconst (v := nI 1) d_Mi_prepareSets_13 (by decide +kernel) ?_
  refine fk_st_az (i := 0) (x := true) (w' := [(i0, .inr (3, [.ref i1, .ref i2, .ref i3, .ref i4, .int (nI pr)])), fk_ai E i1 128 (va_up eff 0 127), fk_az E i2 128 (va_up stg 0 true), (a0, .inr (1, [.ref a1, .ref a2, .ref a3, .int (nI tr)])), fk_ai E a3 7 fo]) 2 rfl (by omega) (by decide) d_Mi_prepareSets_14 rfl ?_
  refine fk_iconst (v := nI 0) d_Mi_prepareSets_15 (by decide +kernel) ?_
  refine fk_istore_n (lv' := [(0, .ref i0), (1, .ref a0), (2, .int (nI 0))]) d_Mi_prepareSets_16 rfl (Nat.le_of_ble_eq_true rfl) [1, 2, 0] rfl ?_
  have L17 : ∀ (fuel : Nat) (a : Nat) (e1 : Nat → Nat) (s1 : Nat → Bool), (a ≤ 7) → (∀ s, s < 2 ^ a → e1 s = fg_E fl s ∧ s1 s = fg_S fl s) → 7 - a < fuel → fk_V E (prog_3_method_4_code, fy_Mi_prepareSets.cls, 8, fk_rm 3 0 0) K (0, 0) [(i0, .inr (3, [.ref i1, .ref i2, .ref i3, .ref i4, .int (nI pr)])), fk_ai E i1 128 e1, fk_az E i2 128 s1, (a0, .inr (1, [.ref a1, .ref a2, .ref a3, .int (nI tr)])), fk_ai E a3 7 fo] 17 [(0, .ref i0), (1, .ref a0), (2, .int (nI a))] [] := by
    intro fuel
    induction fuel with
    | zero => intro a e1 s1 _ _ hm; exact absurd hm (Nat.not_lt_zero _)
    | succ fuel ih =>
      intro a e1 s1 h1 h2 hm17
      have ih17 := ih
      clear ih
      refine fk_iload_n 2 d_Mi_prepareSets_17 rfl ?_
      refine fk_bipush (v := nI 7) d_Mi_prepareSets_18 (by decide +kernel) ?_
      refine fk_icmp_ge (a := a) (b := 7) (by omega) (by omega) d_Mi_prepareSets_20 rfl (fun h20t => ?_) (fun h20f => ?_)
      · exact hret (0, 0) _ 116 _ (e1, s1) d_Mi_prepareSets_116 (by intro s hs; exact h2 s (by rw [show a = 7 by omega]; omega)) (rfl)
      · have g0 := fb_pow_lt h20f
        have g1 := fb_pow_le h20f
        refine fk_aload_n 1 d_Mi_prepareSets_23 rfl ?_
        refine fk_iload_n 2 d_Mi_prepareSets_24 rfl ?_
        refine fk_callS (As := [.ref a0, .int (nI a)]) (rest := []) (is := [3, 4]) (ir := [0, 1, 2]) (ip := [0, 1, 2, 3, 4]) (wc := [(a0, .inr (1, [.ref a1, .ref a2, .ref a3, .int (nI tr)])), fk_ai E a3 7 fo]) (wr := [(i0, .inr (3, [.ref i1, .ref i2, .ref i3, .ref i4, .int (nI pr)])), fk_ai E i1 128 e1, fk_az E i2 128 s1]) (w2 := fun _ => [(i0, .inr (3, [.ref i1, .ref i2, .ref i3, .ref i4, .int (nI pr)])), fk_ai E i1 128 e1, fk_az E i2 128 s1, (a0, .inr (1, [.ref a1, .ref a2, .ref a3, .int (nI tr)])), fk_ai E a3 7 fo]) (cM_causedBy E a0 a1 a2 a3 tr fo fl a hfl hf (by first | omega | assumption)) d_Mi_prepareSets_25 fz_Mi_causedBy fw_237 fw_238 ⟨Nat.le_of_ble_eq_true rfl, Nat.le_of_ble_eq_true rfl⟩ rfl (Nat.le_of_ble_eq_true rfl) ⟨Nat.zero_le _, Nat.zero_le _⟩ ⟨rfl, rfl, rfl, rfl, by decide, fun _ => rfl, rfl⟩ (fun u hu25 => ?_)
        show fk_V E _ K (0, 0) [(i0, .inr (3, [.ref i1, .ref i2, .ref i3, .ref i4, .int (nI pr)])), fk_ai E i1 128 e1, fk_az E i2 128 s1, (a0, .inr (1, [.ref a1, .ref a2, .ref a3, .int (nI tr)])), fk_ai E a3 7 fo] 28 [(0, .ref i0), (1, .ref a0), (2, .int (nI a))] [.int (nI (fs_set (fg_caus fl a) 7))]
        refine fk_istore_n (lv' := [(0, .ref i0), (1, .ref a0), (2, .int (nI a)), (3, .int (nI (fs_set (fg_caus fl a) 7)))]) d_Mi_prepareSets_28 rfl (Nat.le_of_ble_eq_true rfl) [1, 2, 3, 0] rfl ?_
        refine fk_aload_n 1 d_Mi_prepareSets_29 rfl ?_
        refine fk_iload_n 2 d_Mi_prepareSets_30 rfl ?_
        refine fk_callS (As := [.ref a0, .int (nI a)]) (rest := []) (is := [3, 4]) (ir := [0, 1, 2]) (ip := [0, 1, 2, 3, 4]) (wc := [(a0, .inr (1, [.ref a1, .ref a2, .ref a3, .int (nI tr)])), fk_ai E a3 7 fo]) (wr := [(i0, .inr (3, [.ref i1, .ref i2, .ref i3, .ref i4, .int (nI pr)])), fk_ai E i1 128 e1, fk_az E i2 128 s1]) (w2 := fun _ => [(i0, .inr (3, [.ref i1, .ref i2, .ref i3, .ref i4, .int (nI pr)])), fk_ai E i1 128 e1, fk_az E i2 128 s1, (a0, .inr (1, [.ref a1, .ref a2, .ref a3, .int (nI tr)])), fk_ai E a3 7 fo]) (cM_knownTo E a0 a1 a2 a3 tr fo fl a hfl hf (by first | omega | assumption)) d_Mi_prepareSets_31 fz_Mi_knownTo fw_241 fw_242 ⟨Nat.le_of_ble_eq_true rfl, Nat.le_of_ble_eq_true rfl⟩ rfl (Nat.le_of_ble_eq_true rfl) ⟨Nat.zero_le _, Nat.zero_le _⟩ ⟨rfl, rfl, rfl, rfl, by decide, fun _ => rfl, rfl⟩ (fun u hu31 => ?_)
        show fk_V E _ K (0, 0) [(i0, .inr (3, [.ref i1, .ref i2, .ref i3, .ref i4, .int (nI pr)])), fk_ai E i1 128 e1, fk_az E i2 128 s1, (a0, .inr (1, [.ref a1, .ref a2, .ref a3, .int (nI tr)])), fk_ai E a3 7 fo] 34 [(0, .ref i0), (1, .ref a0), (2, .int (nI a)), (3, .int (nI (fs_set (fg_caus fl a) 7)))] [.int (nI (fs_set (fg_kn fl a) 7))]
        refine fk_istore (lv' := [(0, .ref i0), (1, .ref a0), (2, .int (nI a)), (3, .int (nI (fs_set (fg_caus fl a) 7))), (4, .int (nI (fs_set (fg_kn fl a) 7)))]) d_Mi_prepareSets_34 (Nat.le_of_ble_eq_true rfl) [1, 2, 3, 4, 0] rfl ?_
        refine fk_iconst (v := nI 1) d_Mi_prepareSets_36 (by decide +kernel) ?_
        refine fk_iload_n 2 d_Mi_prepareSets_37 rfl ?_
        refine fk_ishl (a := 1) (b := a) d_Mi_prepareSets_38 (by omega) (by omega) ?_
        refine fk_top (show nI (1 * 2 ^ a) = nI (2 ^ a) by rw [Nat.one_mul]) ?_
        refine fk_istore (lv' := [(0, .ref i0), (1, .ref a0), (2, .int (nI a)), (3, .int (nI (fs_set (fg_caus fl a) 7))), (4, .int (nI (fs_set (fg_kn fl a) 7))), (5, .int (nI (2 ^ a)))]) d_Mi_prepareSets_39 (Nat.le_of_ble_eq_true rfl) [1, 2, 3, 4, 5, 0] rfl ?_
        refine fk_iconst (v := nI 0) d_Mi_prepareSets_41 (by decide +kernel) ?_
        refine fk_istore (lv' := [(0, .ref i0), (1, .ref a0), (2, .int (nI a)), (3, .int (nI (fs_set (fg_caus fl a) 7))), (4, .int (nI (fs_set (fg_kn fl a) 7))), (5, .int (nI (2 ^ a))), (6, .int (nI 0))]) d_Mi_prepareSets_42 (Nat.le_of_ble_eq_true rfl) [1, 2, 3, 4, 5, 6, 0] rfl ?_
        have L44 : ∀ (fuel : Nat) (r : Nat) (e2 : Nat → Nat) (s2 : Nat → Bool), (r ≤ 2 ^ a) → (∀ s, s < 2 ^ a + r → e2 s = fg_E fl s ∧ s2 s = fg_S fl s) → 2 ^ a - r < fuel → fk_V E (prog_3_method_4_code, fy_Mi_prepareSets.cls, 8, fk_rm 3 0 0) K (0, 0) [(i0, .inr (3, [.ref i1, .ref i2, .ref i3, .ref i4, .int (nI pr)])), fk_ai E i1 128 e2, fk_az E i2 128 s2, (a0, .inr (1, [.ref a1, .ref a2, .ref a3, .int (nI tr)])), fk_ai E a3 7 fo] 44 [(0, .ref i0), (1, .ref a0), (2, .int (nI a)), (3, .int (nI (fs_set (fg_caus fl a) 7))), (4, .int (nI (fs_set (fg_kn fl a) 7))), (5, .int (nI (2 ^ a))), (6, .int (nI r))] [] := by
          intro fuel
          induction fuel with
          | zero => intro r e2 s2 _ _ hm; exact absurd hm (Nat.not_lt_zero _)
          | succ fuel ih =>
            intro r e2 s2 h3 h4 hm44
            have ih44 := ih
            clear ih
            refine fk_iload 6 d_Mi_prepareSets_44 rfl ?_
            refine fk_iload 5 d_Mi_prepareSets_46 rfl ?_
            refine fk_icmp_ge (a := r) (b := (2 ^ a)) (by omega) (by omega) d_Mi_prepareSets_48 rfl (fun h48t => ?_) (fun h48f => ?_)
            · refine fk_iinc (j := 2) (lv' := [(0, .ref i0), (1, .ref a0), (2, .int (nI (a + 1))), (3, .int (nI (fs_set (fg_caus fl a) 7))), (4, .int (nI (fs_set (fg_kn fl a) 7))), (5, .int (nI (2 ^ a))), (6, .int (nI r))]) (a + 1) d_Mi_prepareSets_110 rfl (nI_1 a) (Nat.le_of_ble_eq_true rfl) [1, 2, 0, 3, 4, 5, 6] rfl ?_
              refine fk_goto d_Mi_prepareSets_113 rfl ?_
              refine fk_lv (lv' := [(0, .ref i0), (1, .ref a0), (2, .int (nI (a + 1)))]) [0, 1, 2] rfl ?_
              refine ih17 _ _ _ ?_ ?_ ?_
              · first | omega | assumption | exact Nat.zero_le _
              · intro s hs
                rw [Nat.pow_succ] at hs
                exact h4 s (by omega)
              · omega
            · have g2 : r ||| 2 ^ a = 2 ^ a + r := fb_add_or h48f
              refine fk_iload 6 d_Mi_prepareSets_51 rfl ?_
              refine fk_iload 5 d_Mi_prepareSets_53 rfl ?_
              refine fk_ior (a := r) (b := (2 ^ a)) d_Mi_prepareSets_55 ?_
              refine fk_istore (lv' := [(0, .ref i0), (1, .ref a0), (2, .int (nI a)), (3, .int (nI (fs_set (fg_caus fl a) 7))), (4, .int (nI (fs_set (fg_kn fl a) 7))), (5, .int (nI (2 ^ a))), (6, .int (nI r)), (7, .int (nI (r ||| (2 ^ a))))]) d_Mi_prepareSets_56 (Nat.le_of_ble_eq_true rfl) [1, 2, 3, 4, 5, 6, 7, 0] rfl ?_
              refine fk_aload_n 0 d_Mi_prepareSets_58 rfl ?_
              refine fk_get 0 0 rfl rfl fh_Mi (Nat.le_of_ble_eq_true rfl) fw_79 rfl d_Mi_prepareSets_59 ?_
              refine fk_iload 7 d_Mi_prepareSets_62 rfl ?_
              refine fk_aload_n 0 d_Mi_prepareSets_64 rfl ?_
              refine fk_get 0 0 rfl rfl fh_Mi (Nat.le_of_ble_eq_true rfl) fw_79 rfl d_Mi_prepareSets_65 ?_
              refine fk_iload 6 d_Mi_prepareSets_68 rfl ?_
              refine fk_ld_ai (i := r) 1 rfl (by omega) (by decide) d_Mi_prepareSets_70 ?_
              refine fk_iload_n 3 d_Mi_prepareSets_71 rfl ?_
              refine fk_iand (a := (e2 r)) (b := (fs_set (fg_caus fl a) 7)) d_Mi_prepareSets_72 ?_
              refine fk_st_ai (i := (r ||| (2 ^ a))) (x := ((e2 r) &&& (fs_set (fg_caus fl a) 7))) (w' := [(i0, .inr (3, [.ref i1, .ref i2, .ref i3, .ref i4, .int (nI pr)])), fk_ai E i1 128 (va_up e2 (r ||| (2 ^ a)) ((e2 r) &&& (fs_set (fg_caus fl a) 7))), fk_az E i2 128 s2, (a0, .inr (1, [.ref a1, .ref a2, .ref a3, .int (nI tr)])), fk_ai E a3 7 fo]) 1 rfl (by omega) (by decide) d_Mi_prepareSets_73 rfl ?_
              refine fk_aload_n 0 d_Mi_prepareSets_74 rfl ?_
              refine fk_get 0 1 rfl rfl fh_Mi (Nat.le_of_ble_eq_true rfl) fw_80 rfl d_Mi_prepareSets_75 ?_
              refine fk_iload 7 d_Mi_prepareSets_78 rfl ?_
              refine fk_aload_n 0 d_Mi_prepareSets_80 rfl ?_
              refine fk_get 0 1 rfl rfl fh_Mi (Nat.le_of_ble_eq_true rfl) fw_80 rfl d_Mi_prepareSets_81 ?_
              refine fk_iload 6 d_Mi_prepareSets_84 rfl ?_
              refine fk_ld_az (i := r) 2 rfl (by omega) (by decide) d_Mi_prepareSets_86 ?_
              refine fk_if_eqB (b := (s2 r)) d_Mi_prepareSets_87 rfl (fun h87t => ?_) (fun h87f => ?_)
              · refine fk_iconst (v := nI 0) d_Mi_prepareSets_102 (by decide +kernel) ?_
                refine fk_st_az (i := (r ||| (2 ^ a))) (x := false) (w' := [(i0, .inr (3, [.ref i1, .ref i2, .ref i3, .ref i4, .int (nI pr)])), fk_ai E i1 128 (va_up e2 (r ||| (2 ^ a)) ((e2 r) &&& (fs_set (fg_caus fl a) 7))), fk_az E i2 128 (va_up s2 (r ||| (2 ^ a)) false), (a0, .inr (1, [.ref a1, .ref a2, .ref a3, .int (nI tr)])), fk_ai E a3 7 fo]) 2 rfl (by omega) (by decide) d_Mi_prepareSets_103 rfl ?_
                refine fk_iinc (j := 6) (lv' := [(0, .ref i0), (1, .ref a0), (2, .int (nI a)), (3, .int (nI (fs_set (fg_caus fl a) 7))), (4, .int (nI (fs_set (fg_kn fl a) 7))), (5, .int (nI (2 ^ a))), (6, .int (nI (r + 1))), (7, .int (nI (r ||| (2 ^ a))))]) (r + 1) d_Mi_prepareSets_104 rfl (nI_1 r) (Nat.le_of_ble_eq_true rfl) [1, 2, 3, 4, 5, 6, 0, 7] rfl ?_
                refine fk_goto d_Mi_prepareSets_107 rfl ?_
                refine fk_lv (lv' := [(0, .ref i0), (1, .ref a0), (2, .int (nI a)), (3, .int (nI (fs_set (fg_caus fl a) 7))), (4, .int (nI (fs_set (fg_kn fl a) 7))), (5, .int (nI (2 ^ a))), (6, .int (nI (r + 1)))]) [0, 1, 2, 3, 4, 5, 6] rfl ?_
                refine ih44 _ _ _ ?_ ?_ ?_
                · first | omega | assumption | exact Nat.zero_le _
                · intro s hs
                  rcases Nat.lt_or_ge s (2 ^ a + r) with q | q
                  · rw [va_up_ne _ _ (by omega), va_up_ne _ _ (by omega)]
                    exact h4 s q
                  · rw [show s = r ||| 2 ^ a by omega, va_up_self, va_up_self]
                    refine ⟨?_, ?_⟩
                    · rw [(h4 r (by omega)).1]
                      exact fg_E_add (by omega) h48f (fs_set_lt _ (by decide)) (fun b hb => by rw [fs_set_bit, decide_eq_true hb, Bool.true_and])
                    · rw [← fg_S_add (k := fs_set (fg_kn fl a) 7) (by omega) h48f (fun b hb => by rw [fs_set_bit, decide_eq_true hb, Bool.true_and, fg_kn_str]) (fs_set_lt _ (by decide)), ← (h4 r (by omega)).2]
                      first | (rw [h87t]; rfl) | (rw [h87f, decide_eq_false h95t]; rfl) | (rw [h87f, decide_eq_true h95f]; rfl)
                · omega
              · refine fk_iload 4 d_Mi_prepareSets_90 rfl ?_
                refine fk_iload 7 d_Mi_prepareSets_92 rfl ?_
                refine fk_iand (a := (fs_set (fg_kn fl a) 7)) (b := (r ||| (2 ^ a))) d_Mi_prepareSets_94 ?_
                refine fk_if_ne (a := ((fs_set (fg_kn fl a) 7) &&& (r ||| (2 ^ a)))) (by have := fb_and_lt' (b := r ||| 2 ^ a) (fs_set_lt (fg_kn fl a) (show 7 ≤ 7 by decide)); omega) d_Mi_prepareSets_95 rfl (fun h95t => ?_) (fun h95f => ?_)
                · refine fk_iconst (v := nI 0) d_Mi_prepareSets_102 (by decide +kernel) ?_
                  refine fk_st_az (i := (r ||| (2 ^ a))) (x := false) (w' := [(i0, .inr (3, [.ref i1, .ref i2, .ref i3, .ref i4, .int (nI pr)])), fk_ai E i1 128 (va_up e2 (r ||| (2 ^ a)) ((e2 r) &&& (fs_set (fg_caus fl a) 7))), fk_az E i2 128 (va_up s2 (r ||| (2 ^ a)) false), (a0, .inr (1, [.ref a1, .ref a2, .ref a3, .int (nI tr)])), fk_ai E a3 7 fo]) 2 rfl (by omega) (by decide) d_Mi_prepareSets_103 rfl ?_
                  refine fk_iinc (j := 6) (lv' := [(0, .ref i0), (1, .ref a0), (2, .int (nI a)), (3, .int (nI (fs_set (fg_caus fl a) 7))), (4, .int (nI (fs_set (fg_kn fl a) 7))), (5, .int (nI (2 ^ a))), (6, .int (nI (r + 1))), (7, .int (nI (r ||| (2 ^ a))))]) (r + 1) d_Mi_prepareSets_104 rfl (nI_1 r) (Nat.le_of_ble_eq_true rfl) [1, 2, 3, 4, 5, 6, 0, 7] rfl ?_
                  refine fk_goto d_Mi_prepareSets_107 rfl ?_
                  refine fk_lv (lv' := [(0, .ref i0), (1, .ref a0), (2, .int (nI a)), (3, .int (nI (fs_set (fg_caus fl a) 7))), (4, .int (nI (fs_set (fg_kn fl a) 7))), (5, .int (nI (2 ^ a))), (6, .int (nI (r + 1)))]) [0, 1, 2, 3, 4, 5, 6] rfl ?_
                  refine ih44 _ _ _ ?_ ?_ ?_
                  · first | omega | assumption | exact Nat.zero_le _
                  · intro s hs
                    rcases Nat.lt_or_ge s (2 ^ a + r) with q | q
                    · rw [va_up_ne _ _ (by omega), va_up_ne _ _ (by omega)]
                      exact h4 s q
                    · rw [show s = r ||| 2 ^ a by omega, va_up_self, va_up_self]
                      refine ⟨?_, ?_⟩
                      · rw [(h4 r (by omega)).1]
                        exact fg_E_add (by omega) h48f (fs_set_lt _ (by decide)) (fun b hb => by rw [fs_set_bit, decide_eq_true hb, Bool.true_and])
                      · rw [← fg_S_add (k := fs_set (fg_kn fl a) 7) (by omega) h48f (fun b hb => by rw [fs_set_bit, decide_eq_true hb, Bool.true_and, fg_kn_str]) (fs_set_lt _ (by decide)), ← (h4 r (by omega)).2]
                        first | (rw [h87t]; rfl) | (rw [h87f, decide_eq_false h95t]; rfl) | (rw [h87f, decide_eq_true h95f]; rfl)
                  · omega
                · refine fk_iconst (v := nI 1) d_Mi_prepareSets_98 (by decide +kernel) ?_
                  refine fk_goto d_Mi_prepareSets_99 rfl ?_
                  refine fk_st_az (i := (r ||| (2 ^ a))) (x := true) (w' := [(i0, .inr (3, [.ref i1, .ref i2, .ref i3, .ref i4, .int (nI pr)])), fk_ai E i1 128 (va_up e2 (r ||| (2 ^ a)) ((e2 r) &&& (fs_set (fg_caus fl a) 7))), fk_az E i2 128 (va_up s2 (r ||| (2 ^ a)) true), (a0, .inr (1, [.ref a1, .ref a2, .ref a3, .int (nI tr)])), fk_ai E a3 7 fo]) 2 rfl (by omega) (by decide) d_Mi_prepareSets_103 rfl ?_
                  refine fk_iinc (j := 6) (lv' := [(0, .ref i0), (1, .ref a0), (2, .int (nI a)), (3, .int (nI (fs_set (fg_caus fl a) 7))), (4, .int (nI (fs_set (fg_kn fl a) 7))), (5, .int (nI (2 ^ a))), (6, .int (nI (r + 1))), (7, .int (nI (r ||| (2 ^ a))))]) (r + 1) d_Mi_prepareSets_104 rfl (nI_1 r) (Nat.le_of_ble_eq_true rfl) [1, 2, 3, 4, 5, 6, 0, 7] rfl ?_
                  refine fk_goto d_Mi_prepareSets_107 rfl ?_
                  refine fk_lv (lv' := [(0, .ref i0), (1, .ref a0), (2, .int (nI a)), (3, .int (nI (fs_set (fg_caus fl a) 7))), (4, .int (nI (fs_set (fg_kn fl a) 7))), (5, .int (nI (2 ^ a))), (6, .int (nI (r + 1)))]) [0, 1, 2, 3, 4, 5, 6] rfl ?_
                  refine ih44 _ _ _ ?_ ?_ ?_
                  · first | omega | assumption | exact Nat.zero_le _
                  · intro s hs
                    rcases Nat.lt_or_ge s (2 ^ a + r) with q | q
                    · rw [va_up_ne _ _ (by omega), va_up_ne _ _ (by omega)]
                      exact h4 s q
                    · rw [show s = r ||| 2 ^ a by omega, va_up_self, va_up_self]
                      refine ⟨?_, ?_⟩
                      · rw [(h4 r (by omega)).1]
                        exact fg_E_add (by omega) h48f (fs_set_lt _ (by decide)) (fun b hb => by rw [fs_set_bit, decide_eq_true hb, Bool.true_and])
                      · rw [← fg_S_add (k := fs_set (fg_kn fl a) 7) (by omega) h48f (fun b hb => by rw [fs_set_bit, decide_eq_true hb, Bool.true_and, fg_kn_str]) (fs_set_lt _ (by decide)), ← (h4 r (by omega)).2]
                        first | (rw [h87t]; rfl) | (rw [h87f, decide_eq_false h95t]; rfl) | (rw [h87f, decide_eq_true h95f]; rfl)
                  · omega
        refine L44 _ _ _ _ ?_ ?_ (Nat.lt_succ_self _)
        · first | omega | assumption | exact Nat.zero_le _
        · intro s hs
          exact h2 s (by omega)
  refine L17 _ _ _ _ ?_ ?_ (Nat.lt_succ_self _)
  · first | omega | assumption | exact Nat.zero_le _
  · intro s hs
    have e : s = 0 := by omega
    subst e
    rw [va_up_self, va_up_self, fg_E0, fg_S0]
    exact ⟨rfl, rfl⟩
theorem d_Mi_findPairs_0 : decode prog_3_method_2_code 0 = .ok (.aload_n 0, 1) := by decide +kernel
theorem d_Mi_findPairs_1 : decode prog_3_method_2_code 1 = .ok (.aload_n 1, 1) := by decide +kernel
theorem d_Mi_findPairs_2 : decode prog_3_method_2_code 2 = .ok (.invokevirtual 29, 3) := by decide +kernel
theorem d_Mi_findPairs_5 : decode prog_3_method_2_code 5 = .ok (.aload_n 0, 1) := by decide +kernel
theorem d_Mi_findPairs_6 : decode prog_3_method_2_code 6 = .ok (.iconst 0, 1) := by decide +kernel
theorem d_Mi_findPairs_7 : decode prog_3_method_2_code 7 = .ok (.putfield 25, 3) := by decide +kernel
theorem d_Mi_findPairs_10 : decode prog_3_method_2_code 10 = .ok (.iconst 1, 1) := by decide +kernel
theorem d_Mi_findPairs_11 : decode prog_3_method_2_code 11 = .ok (.istore_n 2, 1) := by decide +kernel
theorem d_Mi_findPairs_12 : decode prog_3_method_2_code 12 = .ok (.iload_n 2, 1) := by decide +kernel
theorem d_Mi_findPairs_13 : decode prog_3_method_2_code 13 = .ok (.sipush 128, 3) := by decide +kernel
theorem d_Mi_findPairs_16 : decode prog_3_method_2_code 16 = .ok (.if_icmp .ge 37, 3) := by decide +kernel
theorem d_Mi_findPairs_19 : decode prog_3_method_2_code 19 = .ok (.aload_n 0, 1) := by decide +kernel
theorem d_Mi_findPairs_20 : decode prog_3_method_2_code 20 = .ok (.getfield 15, 3) := by decide +kernel
theorem d_Mi_findPairs_23 : decode prog_3_method_2_code 23 = .ok (.iload_n 2, 1) := by decide +kernel
theorem d_Mi_findPairs_24 : decode prog_3_method_2_code 24 = .ok (.baload, 1) := by decide +kernel
theorem d_Mi_findPairs_25 : decode prog_3_method_2_code 25 = .ok (.ifCond .eq 22, 3) := by decide +kernel
theorem d_Mi_findPairs_28 : decode prog_3_method_2_code 28 = .ok (.aload_n 0, 1) := by decide +kernel
theorem d_Mi_findPairs_29 : decode prog_3_method_2_code 29 = .ok (.getfield 9, 3) := by decide +kernel
theorem d_Mi_findPairs_32 : decode prog_3_method_2_code 32 = .ok (.iload_n 2, 1) := by decide +kernel
theorem d_Mi_findPairs_33 : decode prog_3_method_2_code 33 = .ok (.iaload, 1) := by decide +kernel
theorem d_Mi_findPairs_34 : decode prog_3_method_2_code 34 = .ok (.ifCond .eq 13, 3) := by decide +kernel
theorem d_Mi_findPairs_37 : decode prog_3_method_2_code 37 = .ok (.aload_n 0, 1) := by decide +kernel
theorem d_Mi_findPairs_38 : decode prog_3_method_2_code 38 = .ok (.iload_n 2, 1) := by decide +kernel
theorem d_Mi_findPairs_39 : decode prog_3_method_2_code 39 = .ok (.invokevirtual 33, 3) := by decide +kernel
theorem d_Mi_findPairs_42 : decode prog_3_method_2_code 42 = .ok (.ifCond .ne 5, 3) := by decide +kernel
theorem d_Mi_findPairs_45 : decode prog_3_method_2_code 45 = .ok (.iconst 0, 1) := by decide +kernel
theorem d_Mi_findPairs_46 : decode prog_3_method_2_code 46 = .ok (.ireturn, 1) := by decide +kernel
theorem d_Mi_findPairs_47 : decode prog_3_method_2_code 47 = .ok (.iinc 2 1, 3) := by decide +kernel
theorem d_Mi_findPairs_50 : decode prog_3_method_2_code 50 = .ok (.goto (-38), 3) := by decide +kernel
theorem d_Mi_findPairs_53 : decode prog_3_method_2_code 53 = .ok (.iconst 1, 1) := by decide +kernel
theorem d_Mi_findPairs_54 : decode prog_3_method_2_code 54 = .ok (.ireturn, 1) := by decide +kernel
set_option maxRecDepth 20000 in
set_option maxHeartbeats 4000000 in
theorem cM_findPairs (E : fk_E) (i0 : Nat) (i1 : Nat) (i2 : Nat) (i3 : Nat) (i4 : Nat) (pr : Nat) (a0 : Nat) (a1 : Nat) (a2 : Nat) (a3 : Nat) (tr : Nat) (eff : Nat → Nat) (stg : Nat → Bool) (pin : Nat → Nat) (pou : Nat → Nat) (fo : Nat → Nat) (fl : Nat → Nat → Bool) (hfl : ∀ a, a < 7 → ∀ b, b < 7 → Nat.testBit (fo a) b = fl a b) (hf : ∀ k, k < 7 → fo k < 128) : fk_C E fy_Mi_findPairs prog_3_method_2_code 3 (some .boolean) 4 0 0 [.ref i0, .ref a0] [(i0, .inr (3, [.ref i1, .ref i2, .ref i3, .ref i4, .int (nI pr)])), fk_ai E i1 128 eff, fk_az E i2 128 stg, fk_ai E i3 14 pin, fk_ai E i4 14 pou, (a0, .inr (1, [.ref a1, .ref a2, .ref a3, .int (nI tr)])), fk_ai E a3 7 fo] (S := Bool × Nat × (Nat → Nat) × (Nat → Bool) × (Nat → Nat) × (Nat → Nat)) (fun (u : Bool × Nat × (Nat → Nat) × (Nat → Bool) × (Nat → Nat) × (Nat → Nat)) => some (.int (nI (Bool.toNat u.1)))) (fun (u : Bool × Nat × (Nat → Nat) × (Nat → Bool) × (Nat → Nat) × (Nat → Nat)) => (u.1 = true → fg_P fl 16384 u.2.1 u.2.2.2.2.1 u.2.2.2.2.2) ∧ (u.1 = false → 14 < (fg_L fl 16384).length)) (fun (u : Bool × Nat × (Nat → Nat) × (Nat → Bool) × (Nat → Nat) × (Nat → Nat)) => [(i0, .inr (3, [.ref i1, .ref i2, .ref i3, .ref i4, .int (nI u.2.1)])), fk_ai E i1 128 u.2.2.1, fk_az E i2 128 u.2.2.2.1, fk_ai E i3 14 u.2.2.2.2.1, fk_ai E i4 14 u.2.2.2.2.2, (a0, .inr (1, [.ref a1, .ref a2, .ref a3, .int (nI tr)])), fk_ai E a3 7 fo]) := by
  refine fk_enterZ (v := fun (u : Bool × Nat × (Nat → Nat) × (Nat → Bool) × (Nat → Nat) × (Nat → Nat)) => u.1) (by decide) (Nat.le_of_ble_eq_true rfl) (lv0 := [(0, .ref i0), (1, .ref a0)]) rfl ?_
  intro K hini hret
  refine fk_aload_n 0 d_Mi_findPairs_0 rfl ?_
  refine fk_aload_n 1 d_Mi_findPairs_1 rfl ?_
  refine fk_callV (q0 := 0) (As := [.ref a0]) (rest := []) (is := [0, 1, 2, 5, 6]) (ir := [3, 4]) (ip := [2, 3, 4, 0, 1, 5, 6]) (wc := [(i0, .inr (3, [.ref i1, .ref i2, .ref i3, .ref i4, .int (nI pr)])), fk_ai E i1 128 eff, fk_az E i2 128 stg, (a0, .inr (1, [.ref a1, .ref a2, .ref a3, .int (nI tr)])), fk_ai E a3 7 fo]) (wr := [fk_ai E i3 14 pin, fk_ai E i4 14 pou]) (w2 := fun u => [(i0, .inr (3, [.ref i1, .ref i2, .ref i3, .ref i4, .int (nI pr)])), fk_ai E i1 128 u.1, fk_az E i2 128 u.2, fk_ai E i3 14 pin, fk_ai E i4 14 pou, (a0, .inr (1, [.ref a1, .ref a2, .ref a3, .int (nI tr)])), fk_ai E a3 7 fo]) (cM_prepareSets E i0 i1 i2 i3 i4 pr a0 a1 a2 a3 tr eff stg fo fl hfl hf) d_Mi_findPairs_2 fz_Mi_prepareSets fw_233 rfl rfl fw_235 fw_p0 ⟨Nat.le_of_ble_eq_true rfl, Nat.le_of_ble_eq_true rfl⟩ rfl (Nat.le_of_ble_eq_true rfl) ⟨Nat.zero_le _, Nat.zero_le _⟩ ⟨rfl, rfl, rfl, rfl, by decide, fun _ => rfl, rfl⟩ (fun u hu2 => ?_)
  obtain ⟨ef9_2, st9_2⟩ := u
  have hq2 : ∀ s, s < 128 → ef9_2 s = fg_E fl s ∧ st9_2 s = fg_S fl s := hu2
  show fk_V E _ K (0, 0) [(i0, .inr (3, [.ref i1, .ref i2, .ref i3, .ref i4, .int (nI pr)])), fk_ai E i1 128 ef9_2, fk_az E i2 128 st9_2, fk_ai E i3 14 pin, fk_ai E i4 14 pou, (a0, .inr (1, [.ref a1, .ref a2, .ref a3, .int (nI tr)])), fk_ai E a3 7 fo] 5 [(0, .ref i0), (1, .ref a0)] []
  refine fk_aload_n 0 d_Mi_findPairs_5 rfl ?_
  refine fk_iconst (v := nI 0) d_Mi_findPairs_6 (by decide +kernel) ?_
  refine fk_put (w' := [(i0, .inr (3, [.ref i1, .ref i2, .ref i3, .ref i4, .int (nI 0)])), fk_ai E i1 128 ef9_2, fk_az E i2 128 st9_2, fk_ai E i3 14 pin, fk_ai E i4 14 pou, (a0, .inr (1, [.ref a1, .ref a2, .ref a3, .int (nI tr)])), fk_ai E a3 7 fo]) 0 4 fT_Mi fT_Mi_ok fT_Mi_nm rfl rfl fh_Mi (Nat.le_of_ble_eq_true rfl) fw_83 rfl (fT_Mi_ok 4 (Nat.le_of_ble_eq_true rfl)) rfl rfl (Nat.le_of_ble_eq_true rfl) d_Mi_findPairs_7 rfl ?_
  refine fk_iconst (v := nI 1) d_Mi_findPairs_10 (by decide +kernel) ?_
  refine fk_istore_n (lv' := [(0, .ref i0), (1, .ref a0), (2, .int (nI 1))]) d_Mi_findPairs_11 rfl (Nat.le_of_ble_eq_true rfl) [1, 2, 0] rfl ?_
  have L12 : ∀ (fuel : Nat) (l : Nat) (pr1 : Nat) (pi1 : Nat → Nat) (po1 : Nat → Nat), (0 < l) → (l ≤ 128) → (fg_P fl (128 * l) pr1 pi1 po1) → 128 - l < fuel → fk_V E (prog_3_method_2_code, fy_Mi_findPairs.cls, 3, fk_rm 4 0 0) K (0, 0) [(i0, .inr (3, [.ref i1, .ref i2, .ref i3, .ref i4, .int (nI pr1)])), fk_ai E i1 128 ef9_2, fk_az E i2 128 st9_2, fk_ai E i3 14 pi1, fk_ai E i4 14 po1, (a0, .inr (1, [.ref a1, .ref a2, .ref a3, .int (nI tr)])), fk_ai E a3 7 fo] 12 [(0, .ref i0), (1, .ref a0), (2, .int (nI l))] [] := by
    intro fuel
    induction fuel with
    | zero => intro l pr1 pi1 po1 _ _ _ hm; exact absurd hm (Nat.not_lt_zero _)
    | succ fuel ih =>
      intro l pr1 pi1 po1 h0 h1 h2 hm12
      have ih12 := ih
      clear ih
      refine fk_iload_n 2 d_Mi_findPairs_12 rfl ?_
      refine fk_sipush (v := nI 128) d_Mi_findPairs_13 (by decide +kernel) ?_
      refine fk_icmp_ge (a := l) (b := 128) (by omega) (by omega) d_Mi_findPairs_16 rfl (fun h16t => ?_) (fun h16f => ?_)
      · refine fk_iconst (v := nI 1) d_Mi_findPairs_53 (by decide +kernel) ?_
        refine fk_top (fn_rt (b := true) (by first | assumption | (simp; omega) | simp_all | (simp_all; omega))) ?_
        exact hret (0, 0) _ 54 _ (true, pr1, ef9_2, st9_2, pi1, po1) d_Mi_findPairs_54 (⟨fun _ => by rw [show 16384 = 128 * l by omega]; exact h2, fun q => absurd (show true = false from q) (by decide)⟩) (rfl)
      · have g0 := hq2 l h16f
        have g1 : ef9_2 l < 128 := by rw [g0.1]; exact fg_E_lt _ _
        refine fk_aload_n 0 d_Mi_findPairs_19 rfl ?_
        refine fk_get 0 1 rfl rfl fh_Mi (Nat.le_of_ble_eq_true rfl) fw_80 rfl d_Mi_findPairs_20 ?_
        refine fk_iload_n 2 d_Mi_findPairs_23 rfl ?_
        refine fk_ld_az (i := l) 2 rfl (by omega) (by decide) d_Mi_findPairs_24 ?_
        refine fk_if_eqB (b := (st9_2 l)) d_Mi_findPairs_25 rfl (fun h25t => ?_) (fun h25f => ?_)
        · refine fk_iinc (j := 2) (lv' := [(0, .ref i0), (1, .ref a0), (2, .int (nI (l + 1)))]) (l + 1) d_Mi_findPairs_47 rfl (nI_1 l) (Nat.le_of_ble_eq_true rfl) [1, 2, 0] rfl ?_
          refine fk_goto d_Mi_findPairs_50 rfl ?_
          refine ih12 _ _ _ _ ?_ ?_ ?_ ?_
          · first | omega | assumption | exact Nat.zero_le _
          · first | omega | assumption | exact Nat.zero_le _
          · first | exact hq39.1 h42t | exact fg_P_skip h2 (by omega) (fun i q1 q2 => fg_noS (g0.2.symm.trans h25t) q1 q2) | exact fg_P_skip h2 (by omega) (fun i q1 q2 => fg_noE (g0.1.symm.trans h34t) q1 q2)
          · omega
        · refine fk_aload_n 0 d_Mi_findPairs_28 rfl ?_
          refine fk_get 0 0 rfl rfl fh_Mi (Nat.le_of_ble_eq_true rfl) fw_79 rfl d_Mi_findPairs_29 ?_
          refine fk_iload_n 2 d_Mi_findPairs_32 rfl ?_
          refine fk_ld_ai (i := l) 1 rfl (by omega) (by decide) d_Mi_findPairs_33 ?_
          refine fk_if_eq (a := (ef9_2 l)) (by omega) d_Mi_findPairs_34 rfl (fun h34t => ?_) (fun h34f => ?_)
          · refine fk_iinc (j := 2) (lv' := [(0, .ref i0), (1, .ref a0), (2, .int (nI (l + 1)))]) (l + 1) d_Mi_findPairs_47 rfl (nI_1 l) (Nat.le_of_ble_eq_true rfl) [1, 2, 0] rfl ?_
            refine fk_goto d_Mi_findPairs_50 rfl ?_
            refine ih12 _ _ _ _ ?_ ?_ ?_ ?_
            · first | omega | assumption | exact Nat.zero_le _
            · first | omega | assumption | exact Nat.zero_le _
            · first | exact hq39.1 h42t | exact fg_P_skip h2 (by omega) (fun i q1 q2 => fg_noS (g0.2.symm.trans h25t) q1 q2) | exact fg_P_skip h2 (by omega) (fun i q1 q2 => fg_noE (g0.1.symm.trans h34t) q1 q2)
            · omega
          · refine fk_aload_n 0 d_Mi_findPairs_37 rfl ?_
            refine fk_iload_n 2 d_Mi_findPairs_38 rfl ?_
            refine fk_callV (q0 := 0) (As := [.int (nI l)]) (rest := []) (is := [0, 1, 2, 3, 4]) (ir := [5, 6]) (ip := [2, 3, 4, 5, 6, 0, 1]) (wc := [(i0, .inr (3, [.ref i1, .ref i2, .ref i3, .ref i4, .int (nI pr1)])), fk_ai E i1 128 ef9_2, fk_az E i2 128 st9_2, fk_ai E i3 14 pi1, fk_ai E i4 14 po1]) (wr := [(a0, .inr (1, [.ref a1, .ref a2, .ref a3, .int (nI tr)])), fk_ai E a3 7 fo]) (w2 := fun u => [(i0, .inr (3, [.ref i1, .ref i2, .ref i3, .ref i4, .int (nI u.2.1)])), fk_ai E i1 128 ef9_2, fk_az E i2 128 st9_2, fk_ai E i3 14 u.2.2.1, fk_ai E i4 14 u.2.2.2, (a0, .inr (1, [.ref a1, .ref a2, .ref a3, .int (nI tr)])), fk_ai E a3 7 fo]) (cM_addPairsOf E i0 i1 i2 i3 i4 pr1 ef9_2 st9_2 fl pi1 po1 l hq2 (by first | omega | assumption) (by first | omega | assumption) h2) d_Mi_findPairs_39 fz_Mi_addPairsOf fw_244 rfl rfl fw_246 fw_p1 ⟨Nat.le_of_ble_eq_true rfl, Nat.le_of_ble_eq_true rfl⟩ rfl (Nat.le_of_ble_eq_true rfl) ⟨Nat.zero_le _, Nat.zero_le _⟩ ⟨rfl, rfl, rfl, rfl, by decide, fun _ => rfl, rfl⟩ (fun u hu39 => ?_)
            obtain ⟨bb_39, pr9_39, pi9_39, po9_39⟩ := u
            have hq39 : (bb_39 = true → fg_P fl (128 * (l + 1)) pr9_39 pi9_39 po9_39) ∧ (bb_39 = false → 14 < (fg_L fl 16384).length) := hu39
            show fk_V E _ K (0, 0) [(i0, .inr (3, [.ref i1, .ref i2, .ref i3, .ref i4, .int (nI pr9_39)])), fk_ai E i1 128 ef9_2, fk_az E i2 128 st9_2, fk_ai E i3 14 pi9_39, fk_ai E i4 14 po9_39, (a0, .inr (1, [.ref a1, .ref a2, .ref a3, .int (nI tr)])), fk_ai E a3 7 fo] 42 [(0, .ref i0), (1, .ref a0), (2, .int (nI l))] [.int (nI (Bool.toNat bb_39))]
            refine fk_if_neB (b := bb_39) d_Mi_findPairs_42 rfl (fun h42t => ?_) (fun h42f => ?_)
            · refine fk_iinc (j := 2) (lv' := [(0, .ref i0), (1, .ref a0), (2, .int (nI (l + 1)))]) (l + 1) d_Mi_findPairs_47 rfl (nI_1 l) (Nat.le_of_ble_eq_true rfl) [1, 2, 0] rfl ?_
              refine fk_goto d_Mi_findPairs_50 rfl ?_
              refine ih12 _ _ _ _ ?_ ?_ ?_ ?_
              · first | omega | assumption | exact Nat.zero_le _
              · first | omega | assumption | exact Nat.zero_le _
              · first | exact hq39.1 h42t | exact fg_P_skip h2 (by omega) (fun i q1 q2 => fg_noS (g0.2.symm.trans h25t) q1 q2) | exact fg_P_skip h2 (by omega) (fun i q1 q2 => fg_noE (g0.1.symm.trans h34t) q1 q2)
              · omega
            · refine fk_iconst (v := nI 0) d_Mi_findPairs_45 (by decide +kernel) ?_
              refine fk_top (fn_rf (b := false) (by first | assumption | (simp; omega) | simp_all | (simp_all; omega))) ?_
              exact hret (0, 0) _ 46 _ (false, pr9_39, ef9_2, st9_2, pi9_39, po9_39) d_Mi_findPairs_46 (⟨fun q => absurd (show false = true from q) (by decide), fun _ => hq39.2 h42f⟩) (rfl)
  refine L12 _ _ _ _ _ ?_ ?_ ?_ (Nat.lt_succ_self _)
  · first | omega | assumption | exact Nat.zero_le _
  · first | omega | assumption | exact Nat.zero_le _
  · refine fg_P_skip (n := 0) ⟨rfl, by decide, fun k hk => absurd hk (Nat.not_lt_zero k)⟩ (by omega) (fun i _ hi => ?_)
    rw [show i = 128 * 0 + i by omega, fg_Q_eq (by omega)]
    unfold fg_C
    simp
theorem d_Mi_writeNet_0 : decode prog_3_method_3_code 0 = .ok (.aload_n 2, 1) := by decide +kernel
theorem d_Mi_writeNet_1 : decode prog_3_method_3_code 1 = .ok (.invokevirtual 37, 3) := by decide +kernel
theorem d_Mi_writeNet_4 : decode prog_3_method_3_code 4 = .ok (.iconst 0, 1) := by decide +kernel
theorem d_Mi_writeNet_5 : decode prog_3_method_3_code 5 = .ok (.istore_n 3, 1) := by decide +kernel
theorem d_Mi_writeNet_6 : decode prog_3_method_3_code 6 = .ok (.iload_n 3, 1) := by decide +kernel
theorem d_Mi_writeNet_7 : decode prog_3_method_3_code 7 = .ok (.aload_n 0, 1) := by decide +kernel
theorem d_Mi_writeNet_8 : decode prog_3_method_3_code 8 = .ok (.getfield 25, 3) := by decide +kernel
theorem d_Mi_writeNet_11 : decode prog_3_method_3_code 11 = .ok (.if_icmp .ge 26, 3) := by decide +kernel
theorem d_Mi_writeNet_14 : decode prog_3_method_3_code 14 = .ok (.aload_n 2, 1) := by decide +kernel
theorem d_Mi_writeNet_15 : decode prog_3_method_3_code 15 = .ok (.aload_n 0, 1) := by decide +kernel
theorem d_Mi_writeNet_16 : decode prog_3_method_3_code 16 = .ok (.getfield 19, 3) := by decide +kernel
theorem d_Mi_writeNet_19 : decode prog_3_method_3_code 19 = .ok (.iload_n 3, 1) := by decide +kernel
theorem d_Mi_writeNet_20 : decode prog_3_method_3_code 20 = .ok (.iaload, 1) := by decide +kernel
theorem d_Mi_writeNet_21 : decode prog_3_method_3_code 21 = .ok (.aload_n 0, 1) := by decide +kernel
theorem d_Mi_writeNet_22 : decode prog_3_method_3_code 22 = .ok (.getfield 22, 3) := by decide +kernel
theorem d_Mi_writeNet_25 : decode prog_3_method_3_code 25 = .ok (.iload_n 3, 1) := by decide +kernel
theorem d_Mi_writeNet_26 : decode prog_3_method_3_code 26 = .ok (.iaload, 1) := by decide +kernel
theorem d_Mi_writeNet_27 : decode prog_3_method_3_code 27 = .ok (.invokevirtual 42, 3) := by decide +kernel
theorem d_Mi_writeNet_30 : decode prog_3_method_3_code 30 = .ok (.pop, 1) := by decide +kernel
theorem d_Mi_writeNet_31 : decode prog_3_method_3_code 31 = .ok (.iinc 3 1, 3) := by decide +kernel
theorem d_Mi_writeNet_34 : decode prog_3_method_3_code 34 = .ok (.goto (-28), 3) := by decide +kernel
theorem d_Mi_writeNet_37 : decode prog_3_method_3_code 37 = .ok (.aload_n 2, 1) := by decide +kernel
theorem d_Mi_writeNet_38 : decode prog_3_method_3_code 38 = .ok (.aload_n 1, 1) := by decide +kernel
theorem d_Mi_writeNet_39 : decode prog_3_method_3_code 39 = .ok (.invokevirtual 46, 3) := by decide +kernel
theorem d_Mi_writeNet_42 : decode prog_3_method_3_code 42 = .ok (.aload_n 1, 1) := by decide +kernel
theorem d_Mi_writeNet_43 : decode prog_3_method_3_code 43 = .ok (.invokevirtual 52, 3) := by decide +kernel
theorem d_Mi_writeNet_46 : decode prog_3_method_3_code 46 = .ok (.invokevirtual 55, 3) := by decide +kernel
theorem d_Mi_writeNet_49 : decode prog_3_method_3_code 49 = .ok (.aload_n 2, 1) := by decide +kernel
theorem d_Mi_writeNet_50 : decode prog_3_method_3_code 50 = .ok (.aload_n 1, 1) := by decide +kernel
theorem d_Mi_writeNet_51 : decode prog_3_method_3_code 51 = .ok (.invokevirtual 59, 3) := by decide +kernel
theorem d_Mi_writeNet_54 : decode prog_3_method_3_code 54 = .ok (.invokevirtual 62, 3) := by decide +kernel
theorem d_Mi_writeNet_57 : decode prog_3_method_3_code 57 = .ok (.return_, 1) := by decide +kernel
set_option maxRecDepth 20000 in
set_option maxHeartbeats 4000000 in
theorem cM_writeNet (E : fk_E) (i0 : Nat) (i1 : Nat) (i2 : Nat) (i3 : Nat) (i4 : Nat) (pr : Nat) (a0 : Nat) (a1 : Nat) (a2 : Nat) (a3 : Nat) (tr : Nat) (n0 : Nat) (n1 : Nat) (n2 : Nat) (n3 : Nat) (n4 : Nat) (cnt : Nat) (fi : Nat) (la : Nat) (lo : Nat) (me : Nat) (pin : Nat → Nat) (pou : Nat → Nat) (len : Nat → Nat) (ev : Nat → Nat) (ins : Nat → Nat) (outs : Nat → Nat) (tk : Nat → Nat) (pu : Nat → Nat) (hp : pr ≤ 14) (hq : ∀ k, k < pr → pin k < 128 ∧ pou k < 128) (ht : tr ≤ 20) (hl : ∀ t, t < tr → len t ≤ 15) (he : ∀ t, t < tr → ∀ i, i < len t → ev (15 * t + i) < 7) : fk_C E fy_Mi_writeNet prog_3_method_3_code 4 none 5 0 0 [.ref i0, .ref a0, .ref n0] [(i0, .inr (3, [.ref i1, .ref i2, .ref i3, .ref i4, .int (nI pr)])), fk_ai E i3 14 pin, fk_ai E i4 14 pou, (a0, .inr (1, [.ref a1, .ref a2, .ref a3, .int (nI tr)])), fk_ai E a1 20 len, fk_ai E a2 300 ev, (n0, .inr (2, [.ref n1, .ref n2, .ref n3, .ref n4, .int (nI cnt), .int (nI fi), .int (nI la), .int (nI lo), .int (nI me)])), fk_ai E n1 14 ins, fk_ai E n2 14 outs, fk_al E n3 7 tk, fk_al E n4 7 pu] (S := (Nat → Nat) × (Nat → Nat) × (Nat → Nat) × (Nat → Nat)) (fun (u : (Nat → Nat) × (Nat → Nat) × (Nat → Nat) × (Nat → Nat)) => none) (fun (u : (Nat → Nat) × (Nat → Nat) × (Nat → Nat) × (Nat → Nat)) => (∀ z, z < pr → u.1 z = pin z ∧ u.2.1 z = pou z) ∧ ∀ z, z < 7 → u.2.2.1 z = fm_mk (fs_tak (fs_O pr u.2.1 (fs_set (fg_be tr len ev) 7)) z) ∧ u.2.2.2 z = fm_mk (fs_tak (fs_I pr u.1 (fs_set (fg_nd tr len ev) 7)) z)) (fun (u : (Nat → Nat) × (Nat → Nat) × (Nat → Nat) × (Nat → Nat)) => [(i0, .inr (3, [.ref i1, .ref i2, .ref i3, .ref i4, .int (nI pr)])), fk_ai E i3 14 pin, fk_ai E i4 14 pou, (a0, .inr (1, [.ref a1, .ref a2, .ref a3, .int (nI tr)])), fk_ai E a1 20 len, fk_ai E a2 300 ev, (n0, .inr (2, [.ref n1, .ref n2, .ref n3, .ref n4, .int (nI pr), .int (nI (fs_set (fg_be tr len ev) 7)), .int (nI (fs_set (fg_nd tr len ev) 7)), .int (nI (fs_set (fg_oc tr len ev) 7)), .int (nI (fs_mem (fs_set (fg_oc tr len ev) 7) (fs_set (fg_be tr len ev) 7) (fs_set (fg_nd tr len ev) 7) u.1 u.2.1 pr))])), fk_ai E n1 14 u.1, fk_ai E n2 14 u.2.1, fk_al E n3 7 u.2.2.1, fk_al E n4 7 u.2.2.2]) := by
  refine fk_enterV (by decide) (Nat.le_of_ble_eq_true rfl) (lv0 := [(0, .ref i0), (1, .ref a0), (2, .ref n0)]) rfl ?_
  intro K hini hret
  refine fk_aload_n 2 d_Mi_writeNet_0 rfl ?_
  refine fk_callV (q0 := 6) (As := []) (rest := []) (is := [6, 7, 8, 9, 10]) (ir := [0, 1, 2, 3, 4, 5]) (ip := [0, 1, 2, 3, 4, 5, 6, 7, 8, 9, 10]) (wc := [(n0, .inr (2, [.ref n1, .ref n2, .ref n3, .ref n4, .int (nI cnt), .int (nI fi), .int (nI la), .int (nI lo), .int (nI me)])), fk_ai E n1 14 ins, fk_ai E n2 14 outs, fk_al E n3 7 tk, fk_al E n4 7 pu]) (wr := [(i0, .inr (3, [.ref i1, .ref i2, .ref i3, .ref i4, .int (nI pr)])), fk_ai E i3 14 pin, fk_ai E i4 14 pou, (a0, .inr (1, [.ref a1, .ref a2, .ref a3, .int (nI tr)])), fk_ai E a1 20 len, fk_ai E a2 300 ev]) (w2 := fun u => [(i0, .inr (3, [.ref i1, .ref i2, .ref i3, .ref i4, .int (nI pr)])), fk_ai E i3 14 pin, fk_ai E i4 14 pou, (a0, .inr (1, [.ref a1, .ref a2, .ref a3, .int (nI tr)])), fk_ai E a1 20 len, fk_ai E a2 300 ev, (n0, .inr (2, [.ref n1, .ref n2, .ref n3, .ref n4, .int (nI 0), .int (nI 0), .int (nI 0), .int (nI 0), .int (nI 0)])), fk_ai E n1 14 ins, fk_ai E n2 14 outs, fk_al E n3 7 u.1, fk_al E n4 7 u.2]) (cN_removeAll E n0 n1 n2 n3 n4 cnt fi la lo me ins outs tk pu ) d_Mi_writeNet_1 fz_Nt_removeAll fw_260 rfl rfl fw_261 fw_262 ⟨Nat.le_of_ble_eq_true rfl, Nat.le_of_ble_eq_true rfl⟩ rfl (Nat.le_of_ble_eq_true rfl) ⟨Nat.zero_le _, Nat.zero_le _⟩ ⟨rfl, rfl, rfl, rfl, by decide, fun _ => rfl, rfl⟩ (fun u hu1 => ?_)
  obtain ⟨tk9_1, pu9_1⟩ := u
  have hq1 : ∀ a, a < 7 → tk9_1 a = fm_mk (fs_tak (fs_O 0 outs 0) a) ∧ pu9_1 a = fm_mk (fs_tak (fs_I 0 ins 0) a) := hu1
  show fk_V E _ K (0, 0) [(i0, .inr (3, [.ref i1, .ref i2, .ref i3, .ref i4, .int (nI pr)])), fk_ai E i3 14 pin, fk_ai E i4 14 pou, (a0, .inr (1, [.ref a1, .ref a2, .ref a3, .int (nI tr)])), fk_ai E a1 20 len, fk_ai E a2 300 ev, (n0, .inr (2, [.ref n1, .ref n2, .ref n3, .ref n4, .int (nI 0), .int (nI 0), .int (nI 0), .int (nI 0), .int (nI 0)])), fk_ai E n1 14 ins, fk_ai E n2 14 outs, fk_al E n3 7 tk9_1, fk_al E n4 7 pu9_1] 4 [(0, .ref i0), (1, .ref a0), (2, .ref n0)] []
  refine fk_iconst (v := nI 0) d_Mi_writeNet_4 (by decide +kernel) ?_
  refine fk_istore_n (lv' := [(0, .ref i0), (1, .ref a0), (2, .ref n0), (3, .int (nI 0))]) d_Mi_writeNet_5 rfl (Nat.le_of_ble_eq_true rfl) [1, 2, 3, 0] rfl ?_
  have L6 : ∀ (fuel : Nat) (k : Nat) (m1 : Nat) (in1 : Nat → Nat) (ou1 : Nat → Nat) (tk1 : Nat → Nat) (pu1 : Nat → Nat), (k ≤ pr) → (∀ z, z < k → in1 z = pin z ∧ ou1 z = pou z) → pr - k < fuel → fk_V E (prog_3_method_3_code, fy_Mi_writeNet.cls, 4, fk_rm 5 0 0) K (0, 0) [(i0, .inr (3, [.ref i1, .ref i2, .ref i3, .ref i4, .int (nI pr)])), fk_ai E i3 14 pin, fk_ai E i4 14 pou, (a0, .inr (1, [.ref a1, .ref a2, .ref a3, .int (nI tr)])), fk_ai E a1 20 len, fk_ai E a2 300 ev, (n0, .inr (2, [.ref n1, .ref n2, .ref n3, .ref n4, .int (nI k), .int (nI 0), .int (nI 0), .int (nI 0), .int (nI m1)])), fk_ai E n1 14 in1, fk_ai E n2 14 ou1, fk_al E n3 7 tk1, fk_al E n4 7 pu1] 6 [(0, .ref i0), (1, .ref a0), (2, .ref n0), (3, .int (nI k))] [] := by
    intro fuel
    induction fuel with
    | zero => intro k m1 in1 ou1 tk1 pu1 _ _ hm; exact absurd hm (Nat.not_lt_zero _)
    | succ fuel ih =>
      intro k m1 in1 ou1 tk1 pu1 h1 h2 hm6
      have ih6 := ih
      clear ih
      refine fk_iload_n 3 d_Mi_writeNet_6 rfl ?_
      refine fk_aload_n 0 d_Mi_writeNet_7 rfl ?_
      refine fk_get 0 4 rfl rfl fh_Mi (Nat.le_of_ble_eq_true rfl) fw_83 rfl d_Mi_writeNet_8 ?_
      refine fk_icmp_ge (a := k) (b := pr) (by omega) (by omega) d_Mi_writeNet_11 rfl (fun h11t => ?_) (fun h11f => ?_)
      · have e9 : pr = k := by omega
        subst e9
        have g1 : ∀ j, j < pr → in1 j < 128 ∧ ou1 j < 128 := fun j hj => by rw [(h2 j hj).1, (h2 j hj).2]; exact hq j hj
        have g2 := fs_set_lt (fg_be tr len ev) (show 7 ≤ 7 by decide)
        have g3 := fs_set_lt (fg_nd tr len ev) (show 7 ≤ 7 by decide)
        have g4 := fs_set_lt (fg_oc tr len ev) (show 7 ≤ 7 by decide)
        refine fk_aload_n 2 d_Mi_writeNet_37 rfl ?_
        refine fk_aload_n 1 d_Mi_writeNet_38 rfl ?_
        refine fk_callV (q0 := 3) (As := []) (rest := [.ref n0]) (is := [3, 4, 5]) (ir := [0, 1, 2, 6, 7, 8, 9, 10]) (ip := [0, 1, 2, 8, 9, 10, 3, 4, 5, 6, 7]) (wc := [(a0, .inr (1, [.ref a1, .ref a2, .ref a3, .int (nI tr)])), fk_ai E a1 20 len, fk_ai E a2 300 ev]) (wr := [(i0, .inr (3, [.ref i1, .ref i2, .ref i3, .ref i4, .int (nI pr)])), fk_ai E i3 14 pin, fk_ai E i4 14 pou, (n0, .inr (2, [.ref n1, .ref n2, .ref n3, .ref n4, .int (nI pr), .int (nI 0), .int (nI 0), .int (nI 0), .int (nI m1)])), fk_ai E n1 14 in1, fk_ai E n2 14 ou1, fk_al E n3 7 tk1, fk_al E n4 7 pu1]) (w2 := fun _ => [(i0, .inr (3, [.ref i1, .ref i2, .ref i3, .ref i4, .int (nI pr)])), fk_ai E i3 14 pin, fk_ai E i4 14 pou, (a0, .inr (1, [.ref a1, .ref a2, .ref a3, .int (nI tr)])), fk_ai E a1 20 len, fk_ai E a2 300 ev, (n0, .inr (2, [.ref n1, .ref n2, .ref n3, .ref n4, .int (nI pr), .int (nI 0), .int (nI 0), .int (nI 0), .int (nI m1)])), fk_ai E n1 14 in1, fk_ai E n2 14 ou1, fk_al E n3 7 tk1, fk_al E n4 7 pu1]) (cL_beginners E a0 a1 a2 a3 tr len ev (by first | omega | assumption) (by first | omega | assumption) (by first | omega | assumption)) d_Mi_writeNet_39 fz_Lg_beginners fw_285 rfl rfl fw_286 fw_287 ⟨Nat.le_of_ble_eq_true rfl, Nat.le_of_ble_eq_true rfl⟩ rfl (Nat.le_of_ble_eq_true rfl) ⟨Nat.zero_le _, Nat.zero_le _⟩ ⟨rfl, rfl, rfl, rfl, by decide, fun _ => rfl, rfl⟩ (fun u hu39 => ?_)
        show fk_V E _ K (0, 0) [(i0, .inr (3, [.ref i1, .ref i2, .ref i3, .ref i4, .int (nI pr)])), fk_ai E i3 14 pin, fk_ai E i4 14 pou, (a0, .inr (1, [.ref a1, .ref a2, .ref a3, .int (nI tr)])), fk_ai E a1 20 len, fk_ai E a2 300 ev, (n0, .inr (2, [.ref n1, .ref n2, .ref n3, .ref n4, .int (nI pr), .int (nI 0), .int (nI 0), .int (nI 0), .int (nI m1)])), fk_ai E n1 14 in1, fk_ai E n2 14 ou1, fk_al E n3 7 tk1, fk_al E n4 7 pu1] 42 [(0, .ref i0), (1, .ref a0), (2, .ref n0), (3, .int (nI pr))] [.int (nI (fs_set (fg_be tr len ev) 7)), .ref n0]
        refine fk_aload_n 1 d_Mi_writeNet_42 rfl ?_
        refine fk_callV (q0 := 3) (As := []) (rest := [.int (nI (fs_set (fg_be tr len ev) 7)), .ref n0]) (is := [3, 4, 5]) (ir := [0, 1, 2, 6, 7, 8, 9, 10]) (ip := [0, 1, 2, 8, 9, 10, 3, 4, 5, 6, 7]) (wc := [(a0, .inr (1, [.ref a1, .ref a2, .ref a3, .int (nI tr)])), fk_ai E a1 20 len, fk_ai E a2 300 ev]) (wr := [(i0, .inr (3, [.ref i1, .ref i2, .ref i3, .ref i4, .int (nI pr)])), fk_ai E i3 14 pin, fk_ai E i4 14 pou, (n0, .inr (2, [.ref n1, .ref n2, .ref n3, .ref n4, .int (nI pr), .int (nI 0), .int (nI 0), .int (nI 0), .int (nI m1)])), fk_ai E n1 14 in1, fk_ai E n2 14 ou1, fk_al E n3 7 tk1, fk_al E n4 7 pu1]) (w2 := fun _ => [(i0, .inr (3, [.ref i1, .ref i2, .ref i3, .ref i4, .int (nI pr)])), fk_ai E i3 14 pin, fk_ai E i4 14 pou, (a0, .inr (1, [.ref a1, .ref a2, .ref a3, .int (nI tr)])), fk_ai E a1 20 len, fk_ai E a2 300 ev, (n0, .inr (2, [.ref n1, .ref n2, .ref n3, .ref n4, .int (nI pr), .int (nI 0), .int (nI 0), .int (nI 0), .int (nI m1)])), fk_ai E n1 14 in1, fk_ai E n2 14 ou1, fk_al E n3 7 tk1, fk_al E n4 7 pu1]) (cL_enders E a0 a1 a2 a3 tr len ev (by first | omega | assumption) (by first | omega | assumption) (by first | omega | assumption)) d_Mi_writeNet_43 fz_Lg_enders fw_289 rfl rfl fw_290 fw_291 ⟨Nat.le_of_ble_eq_true rfl, Nat.le_of_ble_eq_true rfl⟩ rfl (Nat.le_of_ble_eq_true rfl) ⟨Nat.zero_le _, Nat.zero_le _⟩ ⟨rfl, rfl, rfl, rfl, by decide, fun _ => rfl, rfl⟩ (fun u hu43 => ?_)
        show fk_V E _ K (0, 0) [(i0, .inr (3, [.ref i1, .ref i2, .ref i3, .ref i4, .int (nI pr)])), fk_ai E i3 14 pin, fk_ai E i4 14 pou, (a0, .inr (1, [.ref a1, .ref a2, .ref a3, .int (nI tr)])), fk_ai E a1 20 len, fk_ai E a2 300 ev, (n0, .inr (2, [.ref n1, .ref n2, .ref n3, .ref n4, .int (nI pr), .int (nI 0), .int (nI 0), .int (nI 0), .int (nI m1)])), fk_ai E n1 14 in1, fk_ai E n2 14 ou1, fk_al E n3 7 tk1, fk_al E n4 7 pu1] 46 [(0, .ref i0), (1, .ref a0), (2, .ref n0), (3, .int (nI pr))] [.int (nI (fs_set (fg_nd tr len ev) 7)), .int (nI (fs_set (fg_be tr len ev) 7)), .ref n0]
        refine fk_callV (q0 := 6) (As := [.int (nI (fs_set (fg_be tr len ev) 7)), .int (nI (fs_set (fg_nd tr len ev) 7))]) (rest := []) (is := [6, 7, 8, 9, 10]) (ir := [0, 1, 2, 3, 4, 5]) (ip := [0, 1, 2, 3, 4, 5, 6, 7, 8, 9, 10]) (wc := [(n0, .inr (2, [.ref n1, .ref n2, .ref n3, .ref n4, .int (nI pr), .int (nI 0), .int (nI 0), .int (nI 0), .int (nI m1)])), fk_ai E n1 14 in1, fk_ai E n2 14 ou1, fk_al E n3 7 tk1, fk_al E n4 7 pu1]) (wr := [(i0, .inr (3, [.ref i1, .ref i2, .ref i3, .ref i4, .int (nI pr)])), fk_ai E i3 14 pin, fk_ai E i4 14 pou, (a0, .inr (1, [.ref a1, .ref a2, .ref a3, .int (nI tr)])), fk_ai E a1 20 len, fk_ai E a2 300 ev]) (w2 := fun u => [(i0, .inr (3, [.ref i1, .ref i2, .ref i3, .ref i4, .int (nI pr)])), fk_ai E i3 14 pin, fk_ai E i4 14 pou, (a0, .inr (1, [.ref a1, .ref a2, .ref a3, .int (nI tr)])), fk_ai E a1 20 len, fk_ai E a2 300 ev, (n0, .inr (2, [.ref n1, .ref n2, .ref n3, .ref n4, .int (nI pr), .int (nI (fs_set (fg_be tr len ev) 7)), .int (nI (fs_set (fg_nd tr len ev) 7)), .int (nI 0), .int (nI (fs_mem 0 (fs_set (fg_be tr len ev) 7) (fs_set (fg_nd tr len ev) 7) in1 ou1 pr))])), fk_ai E n1 14 in1, fk_ai E n2 14 ou1, fk_al E n3 7 u.1, fk_al E n4 7 u.2]) (cN_setEnds E n0 n1 n2 n3 n4 pr 0 0 0 m1 in1 ou1 tk1 pu1 (fs_set (fg_be tr len ev) 7) (fs_set (fg_nd tr len ev) 7) (by first | omega | assumption) g1 (by first | omega | assumption) (by first | omega | assumption) (by decide)) d_Mi_writeNet_46 fz_Nt_setEnds fw_293 rfl rfl fw_265 fw_266 ⟨Nat.le_of_ble_eq_true rfl, Nat.le_of_ble_eq_true rfl⟩ rfl (Nat.le_of_ble_eq_true rfl) ⟨Nat.zero_le _, Nat.zero_le _⟩ ⟨rfl, rfl, rfl, rfl, by decide, fun _ => rfl, rfl⟩ (fun u hu46 => ?_)
        obtain ⟨tk9_46, pu9_46⟩ := u
        have hq46 : ∀ a, a < 7 → tk9_46 a = fm_mk (fs_tak (fs_O pr ou1 (fs_set (fg_be tr len ev) 7)) a) ∧ pu9_46 a = fm_mk (fs_tak (fs_I pr in1 (fs_set (fg_nd tr len ev) 7)) a) := hu46
        show fk_V E _ K (0, 0) [(i0, .inr (3, [.ref i1, .ref i2, .ref i3, .ref i4, .int (nI pr)])), fk_ai E i3 14 pin, fk_ai E i4 14 pou, (a0, .inr (1, [.ref a1, .ref a2, .ref a3, .int (nI tr)])), fk_ai E a1 20 len, fk_ai E a2 300 ev, (n0, .inr (2, [.ref n1, .ref n2, .ref n3, .ref n4, .int (nI pr), .int (nI (fs_set (fg_be tr len ev) 7)), .int (nI (fs_set (fg_nd tr len ev) 7)), .int (nI 0), .int (nI (fs_mem 0 (fs_set (fg_be tr len ev) 7) (fs_set (fg_nd tr len ev) 7) in1 ou1 pr))])), fk_ai E n1 14 in1, fk_ai E n2 14 ou1, fk_al E n3 7 tk9_46, fk_al E n4 7 pu9_46] 49 [(0, .ref i0), (1, .ref a0), (2, .ref n0), (3, .int (nI pr))] []
        refine fk_aload_n 2 d_Mi_writeNet_49 rfl ?_
        refine fk_aload_n 1 d_Mi_writeNet_50 rfl ?_
        refine fk_callV (q0 := 3) (As := []) (rest := [.ref n0]) (is := [3, 4, 5]) (ir := [0, 1, 2, 6, 7, 8, 9, 10]) (ip := [0, 1, 2, 8, 9, 10, 3, 4, 5, 6, 7]) (wc := [(a0, .inr (1, [.ref a1, .ref a2, .ref a3, .int (nI tr)])), fk_ai E a1 20 len, fk_ai E a2 300 ev]) (wr := [(i0, .inr (3, [.ref i1, .ref i2, .ref i3, .ref i4, .int (nI pr)])), fk_ai E i3 14 pin, fk_ai E i4 14 pou, (n0, .inr (2, [.ref n1, .ref n2, .ref n3, .ref n4, .int (nI pr), .int (nI (fs_set (fg_be tr len ev) 7)), .int (nI (fs_set (fg_nd tr len ev) 7)), .int (nI 0), .int (nI (fs_mem 0 (fs_set (fg_be tr len ev) 7) (fs_set (fg_nd tr len ev) 7) in1 ou1 pr))])), fk_ai E n1 14 in1, fk_ai E n2 14 ou1, fk_al E n3 7 tk9_46, fk_al E n4 7 pu9_46]) (w2 := fun _ => [(i0, .inr (3, [.ref i1, .ref i2, .ref i3, .ref i4, .int (nI pr)])), fk_ai E i3 14 pin, fk_ai E i4 14 pou, (a0, .inr (1, [.ref a1, .ref a2, .ref a3, .int (nI tr)])), fk_ai E a1 20 len, fk_ai E a2 300 ev, (n0, .inr (2, [.ref n1, .ref n2, .ref n3, .ref n4, .int (nI pr), .int (nI (fs_set (fg_be tr len ev) 7)), .int (nI (fs_set (fg_nd tr len ev) 7)), .int (nI 0), .int (nI (fs_mem 0 (fs_set (fg_be tr len ev) 7) (fs_set (fg_nd tr len ev) 7) in1 ou1 pr))])), fk_ai E n1 14 in1, fk_ai E n2 14 ou1, fk_al E n3 7 tk9_46, fk_al E n4 7 pu9_46]) (cL_occurring E a0 a1 a2 a3 tr len ev (by first | omega | assumption) (by first | omega | assumption) (by first | omega | assumption)) d_Mi_writeNet_51 fz_Lg_occurring fw_294 rfl rfl fw_295 fw_296 ⟨Nat.le_of_ble_eq_true rfl, Nat.le_of_ble_eq_true rfl⟩ rfl (Nat.le_of_ble_eq_true rfl) ⟨Nat.zero_le _, Nat.zero_le _⟩ ⟨rfl, rfl, rfl, rfl, by decide, fun _ => rfl, rfl⟩ (fun u hu51 => ?_)
        show fk_V E _ K (0, 0) [(i0, .inr (3, [.ref i1, .ref i2, .ref i3, .ref i4, .int (nI pr)])), fk_ai E i3 14 pin, fk_ai E i4 14 pou, (a0, .inr (1, [.ref a1, .ref a2, .ref a3, .int (nI tr)])), fk_ai E a1 20 len, fk_ai E a2 300 ev, (n0, .inr (2, [.ref n1, .ref n2, .ref n3, .ref n4, .int (nI pr), .int (nI (fs_set (fg_be tr len ev) 7)), .int (nI (fs_set (fg_nd tr len ev) 7)), .int (nI 0), .int (nI (fs_mem 0 (fs_set (fg_be tr len ev) 7) (fs_set (fg_nd tr len ev) 7) in1 ou1 pr))])), fk_ai E n1 14 in1, fk_ai E n2 14 ou1, fk_al E n3 7 tk9_46, fk_al E n4 7 pu9_46] 54 [(0, .ref i0), (1, .ref a0), (2, .ref n0), (3, .int (nI pr))] [.int (nI (fs_set (fg_oc tr len ev) 7)), .ref n0]
        refine fk_callV (q0 := 6) (As := [.int (nI (fs_set (fg_oc tr len ev) 7))]) (rest := []) (is := [6, 7, 8, 9, 10]) (ir := [0, 1, 2, 3, 4, 5]) (ip := [0, 1, 2, 3, 4, 5, 6, 7, 8, 9, 10]) (wc := [(n0, .inr (2, [.ref n1, .ref n2, .ref n3, .ref n4, .int (nI pr), .int (nI (fs_set (fg_be tr len ev) 7)), .int (nI (fs_set (fg_nd tr len ev) 7)), .int (nI 0), .int (nI (fs_mem 0 (fs_set (fg_be tr len ev) 7) (fs_set (fg_nd tr len ev) 7) in1 ou1 pr))])), fk_ai E n1 14 in1, fk_ai E n2 14 ou1, fk_al E n3 7 tk9_46, fk_al E n4 7 pu9_46]) (wr := [(i0, .inr (3, [.ref i1, .ref i2, .ref i3, .ref i4, .int (nI pr)])), fk_ai E i3 14 pin, fk_ai E i4 14 pou, (a0, .inr (1, [.ref a1, .ref a2, .ref a3, .int (nI tr)])), fk_ai E a1 20 len, fk_ai E a2 300 ev]) (w2 := fun u => [(i0, .inr (3, [.ref i1, .ref i2, .ref i3, .ref i4, .int (nI pr)])), fk_ai E i3 14 pin, fk_ai E i4 14 pou, (a0, .inr (1, [.ref a1, .ref a2, .ref a3, .int (nI tr)])), fk_ai E a1 20 len, fk_ai E a2 300 ev, (n0, .inr (2, [.ref n1, .ref n2, .ref n3, .ref n4, .int (nI pr), .int (nI (fs_set (fg_be tr len ev) 7)), .int (nI (fs_set (fg_nd tr len ev) 7)), .int (nI (fs_set (fg_oc tr len ev) 7)), .int (nI (fs_mem (fs_set (fg_oc tr len ev) 7) (fs_set (fg_be tr len ev) 7) (fs_set (fg_nd tr len ev) 7) in1 ou1 pr))])), fk_ai E n1 14 in1, fk_ai E n2 14 ou1, fk_al E n3 7 u.1, fk_al E n4 7 u.2]) (cN_setLoose E n0 n1 n2 n3 n4 pr (fs_set (fg_be tr len ev) 7) (fs_set (fg_nd tr len ev) 7) 0 (fs_mem 0 (fs_set (fg_be tr len ev) 7) (fs_set (fg_nd tr len ev) 7) in1 ou1 pr) in1 ou1 tk9_46 pu9_46 (fs_set (fg_oc tr len ev) 7) (by first | omega | assumption) g1 (by first | omega | assumption) (by first | omega | assumption) (by first | omega | assumption)) d_Mi_writeNet_54 fz_Nt_setLoose fw_298 rfl rfl fw_299 fw_300 ⟨Nat.le_of_ble_eq_true rfl, Nat.le_of_ble_eq_true rfl⟩ rfl (Nat.le_of_ble_eq_true rfl) ⟨Nat.zero_le _, Nat.zero_le _⟩ ⟨rfl, rfl, rfl, rfl, by decide, fun _ => rfl, rfl⟩ (fun u hu54 => ?_)
        obtain ⟨tk9_54, pu9_54⟩ := u
        have hq54 : ∀ a, a < 7 → tk9_54 a = fm_mk (fs_tak (fs_O pr ou1 (fs_set (fg_be tr len ev) 7)) a) ∧ pu9_54 a = fm_mk (fs_tak (fs_I pr in1 (fs_set (fg_nd tr len ev) 7)) a) := hu54
        show fk_V E _ K (0, 0) [(i0, .inr (3, [.ref i1, .ref i2, .ref i3, .ref i4, .int (nI pr)])), fk_ai E i3 14 pin, fk_ai E i4 14 pou, (a0, .inr (1, [.ref a1, .ref a2, .ref a3, .int (nI tr)])), fk_ai E a1 20 len, fk_ai E a2 300 ev, (n0, .inr (2, [.ref n1, .ref n2, .ref n3, .ref n4, .int (nI pr), .int (nI (fs_set (fg_be tr len ev) 7)), .int (nI (fs_set (fg_nd tr len ev) 7)), .int (nI (fs_set (fg_oc tr len ev) 7)), .int (nI (fs_mem (fs_set (fg_oc tr len ev) 7) (fs_set (fg_be tr len ev) 7) (fs_set (fg_nd tr len ev) 7) in1 ou1 pr))])), fk_ai E n1 14 in1, fk_ai E n2 14 ou1, fk_al E n3 7 tk9_54, fk_al E n4 7 pu9_54] 57 [(0, .ref i0), (1, .ref a0), (2, .ref n0), (3, .int (nI pr))] []
        exact hret (0, 0) _ 57 _ (in1, ou1, tk9_54, pu9_54) d_Mi_writeNet_57 (⟨h2, hq54⟩) (rfl)
      · have g0 := hq k h11f
        refine fk_aload_n 2 d_Mi_writeNet_14 rfl ?_
        refine fk_aload_n 0 d_Mi_writeNet_15 rfl ?_
        refine fk_get 0 2 rfl rfl fh_Mi (Nat.le_of_ble_eq_true rfl) fw_81 rfl d_Mi_writeNet_16 ?_
        refine fk_iload_n 3 d_Mi_writeNet_19 rfl ?_
        refine fk_ld_ai (i := k) 1 rfl (by omega) (by decide) d_Mi_writeNet_20 ?_
        refine fk_aload_n 0 d_Mi_writeNet_21 rfl ?_
        refine fk_get 0 3 rfl rfl fh_Mi (Nat.le_of_ble_eq_true rfl) fw_82 rfl d_Mi_writeNet_22 ?_
        refine fk_iload_n 3 d_Mi_writeNet_25 rfl ?_
        refine fk_ld_ai (i := k) 2 rfl (by omega) (by decide) d_Mi_writeNet_26 ?_
        refine fk_callV (q0 := 6) (As := [.int (nI (pin k)), .int (nI (pou k))]) (rest := []) (is := [6, 7, 8, 9, 10]) (ir := [0, 1, 2, 3, 4, 5]) (ip := [0, 1, 2, 3, 4, 5, 6, 7, 8, 9, 10]) (wc := [(n0, .inr (2, [.ref n1, .ref n2, .ref n3, .ref n4, .int (nI k), .int (nI 0), .int (nI 0), .int (nI 0), .int (nI m1)])), fk_ai E n1 14 in1, fk_ai E n2 14 ou1, fk_al E n3 7 tk1, fk_al E n4 7 pu1]) (wr := [(i0, .inr (3, [.ref i1, .ref i2, .ref i3, .ref i4, .int (nI pr)])), fk_ai E i3 14 pin, fk_ai E i4 14 pou, (a0, .inr (1, [.ref a1, .ref a2, .ref a3, .int (nI tr)])), fk_ai E a1 20 len, fk_ai E a2 300 ev]) (w2 := fun u => [(i0, .inr (3, [.ref i1, .ref i2, .ref i3, .ref i4, .int (nI pr)])), fk_ai E i3 14 pin, fk_ai E i4 14 pou, (a0, .inr (1, [.ref a1, .ref a2, .ref a3, .int (nI tr)])), fk_ai E a1 20 len, fk_ai E a2 300 ev, (n0, .inr (2, [.ref n1, .ref n2, .ref n3, .ref n4, .int (nI (k + 1)), .int (nI 0), .int (nI 0), .int (nI 0), .int (nI (fs_mem 0 0 0 (va_up in1 k (pin k)) (va_up ou1 k (pou k)) (k + 1)))])), fk_ai E n1 14 (va_up in1 k (pin k)), fk_ai E n2 14 (va_up ou1 k (pou k)), fk_al E n3 7 u.1, fk_al E n4 7 u.2]) (cN_addPlace E n0 n1 n2 n3 n4 k 0 0 0 m1 in1 ou1 tk1 pu1 (pin k) (pou k) (by first | omega | assumption) (fun j hj => by rw [(h2 j hj).1, (h2 j hj).2]; exact hq j (by omega)) (by decide) (by decide) (by decide) (by first | omega | assumption) (by first | omega | assumption)) d_Mi_writeNet_27 fz_Nt_addPlace fw_281 rfl rfl fw_282 fw_283 ⟨Nat.le_of_ble_eq_true rfl, Nat.le_of_ble_eq_true rfl⟩ rfl (Nat.le_of_ble_eq_true rfl) ⟨Nat.zero_le _, Nat.zero_le _⟩ ⟨rfl, rfl, rfl, rfl, by decide, fun _ => rfl, rfl⟩ (fun u hu27 => ?_)
        obtain ⟨tk9_27, pu9_27⟩ := u
        have hq27 : ∀ a, a < 7 → tk9_27 a = fm_mk (fs_tak (fs_O (k + 1) (va_up ou1 k (pou k)) 0) a) ∧ pu9_27 a = fm_mk (fs_tak (fs_I (k + 1) (va_up in1 k (pin k)) 0) a) := hu27
        show fk_V E _ K (0, 0) [(i0, .inr (3, [.ref i1, .ref i2, .ref i3, .ref i4, .int (nI pr)])), fk_ai E i3 14 pin, fk_ai E i4 14 pou, (a0, .inr (1, [.ref a1, .ref a2, .ref a3, .int (nI tr)])), fk_ai E a1 20 len, fk_ai E a2 300 ev, (n0, .inr (2, [.ref n1, .ref n2, .ref n3, .ref n4, .int (nI (k + 1)), .int (nI 0), .int (nI 0), .int (nI 0), .int (nI (fs_mem 0 0 0 (va_up in1 k (pin k)) (va_up ou1 k (pou k)) (k + 1)))])), fk_ai E n1 14 (va_up in1 k (pin k)), fk_ai E n2 14 (va_up ou1 k (pou k)), fk_al E n3 7 tk9_27, fk_al E n4 7 pu9_27] 30 [(0, .ref i0), (1, .ref a0), (2, .ref n0), (3, .int (nI k))] [.int (nI (Bool.toNat true))]
        refine fk_pop d_Mi_writeNet_30 rfl ?_
        refine fk_iinc (j := 3) (lv' := [(0, .ref i0), (1, .ref a0), (2, .ref n0), (3, .int (nI (k + 1)))]) (k + 1) d_Mi_writeNet_31 rfl (nI_1 k) (Nat.le_of_ble_eq_true rfl) [1, 2, 3, 0] rfl ?_
        refine fk_goto d_Mi_writeNet_34 rfl ?_
        refine ih6 _ _ _ _ _ _ ?_ ?_ ?_
        · first | omega | assumption | exact Nat.zero_le _
        · intro z hz
          rcases Nat.lt_or_ge z k with q | q
          · rw [va_up_ne _ _ (by omega), va_up_ne _ _ (by omega)]
            exact h2 z q
          · rw [show z = k by omega, va_up_self, va_up_self]
            exact ⟨rfl, rfl⟩
        · omega
  refine L6 _ _ _ _ _ _ _ ?_ ?_ (Nat.lt_succ_self _)
  · first | omega | assumption | exact Nat.zero_le _
  · exact fun z hz => absurd hz (Nat.not_lt_zero z)
end
section
/-! the reachable markings, in the order in which they are found -/
def fe_find (seen : Nat → Nat) (y : Nat) : Nat → Nat
  | 0 => 0
  | n + 1 => if fe_find seen y n < n then fe_find seen y n else if seen n = y then n else n + 1
theorem fe_find_le (seen : Nat → Nat) (y : Nat) : ∀ n, fe_find seen y n ≤ n
  | 0 => Nat.le_refl _
  | n + 1 => by
    show (if fe_find seen y n < n then fe_find seen y n else if seen n = y then n else n + 1) ≤ n + 1
    split
    · omega
    · split <;> omega
theorem fe_find_in {seen : Nat → Nat} {y : Nat} : ∀ {n : Nat}, fe_find seen y n < n → seen (fe_find seen y n) = y
  | 0, h => absurd h (Nat.not_lt_zero _)
  | n + 1, h => by
    have e : fe_find seen y (n + 1) = if fe_find seen y n < n then fe_find seen y n else if seen n = y then n else n + 1 := rfl
    rw [e] at h ⊢
    by_cases h1 : fe_find seen y n < n
    · rw [if_pos h1]
      exact fe_find_in h1
    · rw [if_neg h1] at h ⊢
      by_cases h2 : seen n = y
      · rw [if_pos h2]; exact h2
      · rw [if_neg h2] at h
        exact absurd h (Nat.lt_irrefl _)
theorem fe_find_no {seen : Nat → Nat} {y : Nat} : ∀ {n : Nat}, ¬ fe_find seen y n < n → ∀ i, i < n → seen i ≠ y
  | 0, _, i, hi => absurd hi (Nat.not_lt_zero _)
  | n + 1, h, i, hi => by
    have e : fe_find seen y (n + 1) = if fe_find seen y n < n then fe_find seen y n else if seen n = y then n else n + 1 := rfl
    rw [e] at h
    by_cases h1 : fe_find seen y n < n
    · rw [if_pos h1] at h
      exact absurd (Nat.lt_succ_of_lt h1) h
    · rw [if_neg h1] at h
      by_cases h2 : seen n = y
      · rw [if_pos h2] at h
        exact absurd (Nat.lt_succ_self n) h
      · rcases Nat.lt_or_ge i n with q | q
        · exact fe_find_no h1 i q
        · rw [show i = n by omega]; exact h2
theorem fe_find_eq {seen : Nat → Nat} {y n i : Nat} (hinj : ∀ a, a < n → ∀ b, b < n → seen a = seen b → a = b) (hi : i < n) (h : seen i = y) : fe_find seen y n = i := by
  by_cases h1 : fe_find seen y n < n
  · exact hinj _ h1 _ hi ((fe_find_in h1).trans h.symm)
  · exact absurd h (fe_find_no h1 i hi)
theorem fe_find_none {seen : Nat → Nat} {y n : Nat} (h : ∀ i, i < n → seen i ≠ y) : fe_find seen y n = n := by
  by_cases h1 : fe_find seen y n < n
  · exact absurd (fe_find_in h1) (h _ h1)
  · have := fe_find_le seen y n
    omega
theorem fe_find_congr {s t : Nat → Nat} {y : Nat} : ∀ {n : Nat}, (∀ i, i < n → s i = t i) → fe_find s y n = fe_find t y n
  | 0, _ => rfl
  | n + 1, h => by
    show (if fe_find s y n < n then fe_find s y n else if s n = y then n else n + 1) = (if fe_find t y n < n then fe_find t y n else if t n = y then n else n + 1)
    rw [fe_find_congr (n := n) (fun i hi => h i (by omega)), h n (by omega)]
def fe_w8 (y : Nat) : Bool := fs_any (fun j => decide (8 ≤ fm_dg y j)) 16
theorem fe_w8_f {y : Nat} : fe_w8 y = false ↔ ∀ j, j < 16 → fm_dg y j < 8 := by
  unfold fe_w8
  rw [fs_any_f]
  constructor
  · intro h j hj
    have := of_decide_eq_false (h j hj)
    omega
  · intro h j hj
    exact decide_eq_false (by have := h j hj; omega)
abbrev fe_X : Type := Nat × (Nat → Nat) × (Nat → Nat) × Bool
def fe_next (O I : Nat → Nat) (me k : Nat) (c : Nat) (s nx : Nat → Nat) : fe_X :=
  if fs_en O me (s (k / 7)) (k % 7) = true then
    if fe_find s (fs_fire O I (s (k / 7)) (k % 7)) c < c then (c, s, va_up nx k (fe_find s (fs_fire O I (s (k / 7)) (k % 7)) c + 1), false)
    else if fe_w8 (fs_fire O I (s (k / 7)) (k % 7)) = true ∨ c = 200 then (c, s, nx, true)
    else (c + 1, va_up s c (fs_fire O I (s (k / 7)) (k % 7)), va_up nx k (c + 1), false)
  else (c, s, va_up nx k 0, false)
def fe_step (O I : Nat → Nat) (me k : Nat) (X : fe_X) : fe_X := if X.2.2.2 = true ∨ X.1 ≤ k / 7 then X else fe_next O I me k X.1 X.2.1 X.2.2.1
def fe_run (O I : Nat → Nat) (me : Nat) : Nat → fe_X
  | 0 => (1, fun _ => 1, fun _ => 0, false)
  | k + 1 => fe_step O I me k (fe_run O I me k)
theorem fe_wide_s {O I : Nat → Nat} {me k : Nat} (h : (fe_run O I me k).2.2.2 = true) : fe_run O I me (k + 1) = fe_run O I me k := by
  show fe_step O I me k (fe_run O I me k) = _
  unfold fe_step
  rw [if_pos (Or.inl h)]
theorem fe_wide_m {O I : Nat → Nat} {me k m : Nat} (h : (fe_run O I me k).2.2.2 = true) (hm : k ≤ m) : (fe_run O I me m).2.2.2 = true := by
  induction m with
  | zero => rw [show k = 0 by omega] at h; exact h
  | succ m ih =>
    rcases Nat.lt_or_ge k (m + 1) with q | q
    · rw [fe_wide_s (ih (by omega))]; exact ih (by omega)
    · rw [show m + 1 = k by omega]; exact h
theorem fe_done {O I : Nat → Nat} {me k m : Nat} (h : (fe_run O I me k).1 ≤ k / 7) (hm : k ≤ m) : fe_run O I me m = fe_run O I me k := by
  induction m with
  | zero => rw [show k = 0 by omega]
  | succ m ih =>
    rcases Nat.lt_or_ge k (m + 1) with q | q
    · have e := ih (by omega)
      show fe_step O I me m (fe_run O I me m) = _
      rw [e]
      unfold fe_step
      rw [if_pos (Or.inr (Nat.le_trans h (Nat.div_le_div_right (by omega))))]
    · rw [show m + 1 = k by omega]
theorem fe_go {O I : Nat → Nat} {me k : Nat} (h : (fe_run O I me k).2.2.2 = false) (h2 : k / 7 < (fe_run O I me k).1) : fe_run O I me (k + 1) = fe_next O I me k (fe_run O I me k).1 (fe_run O I me k).2.1 (fe_run O I me k).2.2.1 := by
  show fe_step O I me k (fe_run O I me k) = _
  unfold fe_step
  rw [if_neg]
  rintro (q | q)
  · rw [h] at q; exact absurd q (by decide)
  · omega
/-- what a fired marking's digits are -/
theorem fe_fire8 {O I : Nat → Nat} {x a : Nat} (hx : ∀ j, j < 16 → fm_dg x j < 8) : (∀ j, j < 16 → fm_dg (fs_fire O I x a) j = fm_dg x j - (fs_tak O a j).toNat + (fs_tak I a j).toNat) ∧ fs_fire O I x a < 2 ^ 64 := by
  have h : ∀ j, j < 16 → fm_dg x j - (fs_tak O a j).toNat + (fs_tak I a j).toNat < 16 := fun j hj => by
    have h1 := hx j hj
    have h2 : (fs_tak I a j).toNat ≤ 1 := by cases fs_tak I a j <;> decide
    omega
  exact ⟨fun j hj => fm_fire_dg _ _ h hj, fm_fire_lt _ _ h⟩
/-- the class's rows hold what was found before step k -/
def fe_R (O I : Nat → Nat) (me k c : Nat) (s nx : Nat → Nat) : Prop := (fe_run O I me k).2.2.2 = false ∧ c = (fe_run O I me k).1 ∧ (∀ i, i < c → s i = (fe_run O I me k).2.1 i) ∧ (∀ j, j < k → nx j = (fe_run O I me k).2.2.1 j)
/-- what is so of the found markings -/
def fe_V (c : Nat) (s : Nat → Nat) : Prop := c ≤ 200 ∧ (∀ i, i < c → s i < 2 ^ 64 ∧ ∀ j, j < 16 → fm_dg (s i) j < 8) ∧ ∀ a, a < c → ∀ b, b < c → s a = s b → a = b
theorem fe_up_eq {s t : Nat → Nat} {c y : Nat} (h : ∀ i, i < c → s i = t i) : ∀ i, i < c + 1 → va_up s c y i = va_up t c y i := fun i hi => by
  rcases Nat.lt_or_ge i c with q | q
  · rw [va_up_ne _ _ (by omega), va_up_ne _ _ (by omega)]; exact h i q
  · rw [show i = c by omega, va_up_self, va_up_self]
theorem fe_V_add {c y : Nat} {s : Nat → Nat} (h : fe_V c s) (hc : c < 200) (hy : y < 2 ^ 64) (h8 : fe_w8 y = false) (hn : ∀ i, i < c → s i ≠ y) : fe_V (c + 1) (va_up s c y) := by
  obtain ⟨h1, h2, h3⟩ := h
  refine ⟨by omega, fun i hi => ?_, fun a ha b hb e => ?_⟩
  · rcases Nat.lt_or_ge i c with q | q
    · rw [va_up_ne _ _ (by omega)]; exact h2 i q
    · rw [show i = c by omega, va_up_self]; exact ⟨hy, fe_w8_f.mp h8⟩
  · rcases Nat.lt_or_ge a c with qa | qa
    · rcases Nat.lt_or_ge b c with qb | qb
      · rw [va_up_ne _ _ (by omega), va_up_ne _ _ (by omega)] at e
        exact h3 a qa b qb e
      · rw [show b = c by omega, va_up_self, va_up_ne _ _ (by omega)] at e
        exact absurd e (hn a qa)
    · rcases Nat.lt_or_ge b c with qb | qb
      · rw [show a = c by omega, va_up_self, va_up_ne _ _ (by omega)] at e
        exact absurd e.symm (hn b qb)
      · omega
theorem fe_R_no {O I : Nat → Nat} {me i a c : Nat} {s nx : Nat → Nat} (hR : fe_R O I me (7 * i + a) c s nx) (ha : a < 7) (hi : i < c) (he : fs_en O me (s i) a = false) : fe_R O I me (7 * i + a + 1) c s (va_up nx (7 * i + a) 0) := by
  obtain ⟨h1, h2, h3, h4⟩ := hR
  have e1 : (7 * i + a) / 7 = i := by omega
  have e2 : (7 * i + a) % 7 = a := by omega
  have hg := fe_go h1 (by rw [e1, ← h2]; exact hi)
  unfold fe_next at hg
  rw [e1, e2, ← h3 i hi, he, if_neg (by decide)] at hg
  unfold fe_R
  rw [hg]
  refine ⟨rfl, h2, h3, fun j hj => ?_⟩
  rcases Nat.lt_or_ge j (7 * i + a) with q | q
  · show va_up nx _ _ j = va_up _ _ _ j
    rw [va_up_ne _ _ (by omega), va_up_ne _ _ (by omega)]; exact h4 j q
  · show va_up nx _ _ j = va_up _ _ _ j
    rw [show j = 7 * i + a by omega, va_up_self, va_up_self]
theorem fe_R_old {O I : Nat → Nat} {me i a c : Nat} {s nx : Nat → Nat} (hR : fe_R O I me (7 * i + a) c s nx) (ha : a < 7) (hi : i < c) (he : fs_en O me (s i) a = true) (hf : fe_find s (fs_fire O I (s i) a) c < c) : fe_R O I me (7 * i + a + 1) c s (va_up nx (7 * i + a) (fe_find s (fs_fire O I (s i) a) c + 1)) := by
  obtain ⟨h1, h2, h3, h4⟩ := hR
  have e1 : (7 * i + a) / 7 = i := by omega
  have e2 : (7 * i + a) % 7 = a := by omega
  have hg := fe_go h1 (by rw [e1, ← h2]; exact hi)
  unfold fe_next at hg
  rw [e1, e2, ← h3 i hi, he, if_pos rfl, ← h2, ← fe_find_congr h3, if_pos hf] at hg
  unfold fe_R
  rw [hg]
  refine ⟨rfl, rfl, h3, fun j hj => ?_⟩
  rcases Nat.lt_or_ge j (7 * i + a) with q | q
  · show va_up nx _ _ j = va_up _ _ _ j
    rw [va_up_ne _ _ (by omega), va_up_ne _ _ (by omega)]; exact h4 j q
  · show va_up nx _ _ j = va_up _ _ _ j
    rw [show j = 7 * i + a by omega, va_up_self, va_up_self]
theorem fe_R_new {O I : Nat → Nat} {me i a c : Nat} {s nx : Nat → Nat} (hR : fe_R O I me (7 * i + a) c s nx) (ha : a < 7) (hi : i < c) (he : fs_en O me (s i) a = true) (hf : ¬ fe_find s (fs_fire O I (s i) a) c < c) (hc : c < 200) (h8 : fe_w8 (fs_fire O I (s i) a) = false) : fe_R O I me (7 * i + a + 1) (c + 1) (va_up s c (fs_fire O I (s i) a)) (va_up nx (7 * i + a) (c + 1)) := by
  obtain ⟨h1, h2, h3, h4⟩ := hR
  have e1 : (7 * i + a) / 7 = i := by omega
  have e2 : (7 * i + a) % 7 = a := by omega
  have hg := fe_go h1 (by rw [e1, ← h2]; exact hi)
  unfold fe_next at hg
  rw [e1, e2, ← h3 i hi, he, if_pos rfl, ← h2, ← fe_find_congr h3, if_neg hf, if_neg (by rw [h8]; simp; omega)] at hg
  unfold fe_R
  rw [hg]
  refine ⟨rfl, rfl, fe_up_eq h3, fun j hj => ?_⟩
  rcases Nat.lt_or_ge j (7 * i + a) with q | q
  · show va_up nx _ _ j = va_up _ _ _ j
    rw [va_up_ne _ _ (by omega), va_up_ne _ _ (by omega)]; exact h4 j q
  · show va_up nx _ _ j = va_up _ _ _ j
    rw [show j = 7 * i + a by omega, va_up_self, va_up_self]
theorem fe_R_wide {O I : Nat → Nat} {me i a c : Nat} {s nx : Nat → Nat} (hR : fe_R O I me (7 * i + a) c s nx) (ha : a < 7) (hi : i < c) (he : fs_en O me (s i) a = true) (hf : ¬ fe_find s (fs_fire O I (s i) a) c < c) (hw : fe_w8 (fs_fire O I (s i) a) = true ∨ c = 200) {m : Nat} (hm : 7 * i + a < m) : (fe_run O I me m).2.2.2 = true := by
  obtain ⟨h1, h2, h3, h4⟩ := hR
  have e1 : (7 * i + a) / 7 = i := by omega
  have e2 : (7 * i + a) % 7 = a := by omega
  have hg := fe_go h1 (by rw [e1, ← h2]; exact hi)
  unfold fe_next at hg
  rw [e1, e2, ← h3 i hi, he, if_pos rfl, ← h2, ← fe_find_congr h3, if_neg hf, if_pos hw] at hg
  exact fe_wide_m (k := 7 * i + a + 1) (by rw [hg]) (by omega)
/-- open hashing -/
def fe_h (y : Nat) : Nat := y * 11400714819323198485 % 2 ^ 64 / 2 ^ 55
theorem fe_h_lt (y : Nat) : fe_h y < 512 := by
  unfold fe_h
  have := Nat.mod_lt (y * 11400714819323198485) (show 0 < 2 ^ 64 by decide)
  omega
theorem fn_lmod (n : Nat) : lN n = lN (n % 2 ^ 64) := fn_linj (by rw [fn_tb, fn_tb]; apply BitVec.eq_of_toNat_eq; rw [BitVec.toNat_ofNat, BitVec.toNat_ofNat, Nat.mod_mod])
theorem fn_jn {a : Nat} (h : 0 < a) : nI a - 1 = nI (a - 1) := by
  obtain ⟨k, rfl⟩ : ∃ k, a = k + 1 := ⟨a - 1, by omega⟩
  rw [nI_pred, Nat.add_sub_cancel]
def fe_cn (sl : Nat → Nat) : Nat → Nat
  | 0 => 0
  | n + 1 => fe_cn sl n + (if sl n = 0 then 0 else 1)
theorem fe_cn_up (sl : Nat → Nat) (p v : Nat) : ∀ n, fe_cn (va_up sl p v) n ≤ fe_cn sl n + (if p < n then 1 else 0)
  | 0 => Nat.zero_le _
  | n + 1 => by
    have ih := fe_cn_up sl p v n
    show fe_cn (va_up sl p v) n + (if va_up sl p v n = 0 then 0 else 1) ≤ fe_cn sl n + (if sl n = 0 then 0 else 1) + (if p < n + 1 then 1 else 0)
    by_cases e : n = p
    · subst e
      rw [if_neg (Nat.lt_irrefl _)] at ih
      rw [if_pos (Nat.lt_succ_self _)]
      split <;> split <;> omega
    · rw [va_up_ne _ _ e]
      by_cases q : p < n
      · rw [if_pos q] at ih
        rw [if_pos (show p < n + 1 by omega)]
        omega
      · rw [if_neg q] at ih
        rw [if_neg (show ¬ p < n + 1 by omega)]
        omega
theorem fe_cn_full {sl : Nat → Nat} : ∀ {n : Nat}, (∀ p, p < n → sl p ≠ 0) → fe_cn sl n = n
  | 0, _ => rfl
  | n + 1, h => by
    show fe_cn sl n + (if sl n = 0 then 0 else 1) = n + 1
    rw [fe_cn_full (fun p hp => h p (by omega)), if_neg (h n (by omega))]
theorem fe_cn_none {sl : Nat → Nat} : ∀ {n : Nat}, (∀ p, p < n → sl p = 0) → fe_cn sl n = 0
  | 0, _ => rfl
  | n + 1, h => by
    show fe_cn sl n + (if sl n = 0 then 0 else 1) = 0
    rw [fe_cn_none (fun p hp => h p (by omega)), if_pos (h n (by omega))]
def fe_H (c : Nat) (s sl : Nat → Nat) : Prop := (∀ p, p < 512 → sl p ≤ c) ∧ (∀ i, i < c → ∃ d, d < 512 ∧ sl ((fe_h (s i) + d) % 512) = i + 1 ∧ ∀ e, e < d → sl ((fe_h (s i) + e) % 512) ≠ 0) ∧ fe_cn sl 512 ≤ c
theorem fe_H_0 {s sl : Nat → Nat} (h : ∀ p, p < 512 → sl p = 0) : fe_H 0 s sl := ⟨fun p hp => by rw [h p hp]; exact Nat.le_refl _, fun i hi => absurd hi (Nat.not_lt_zero i), by rw [fe_cn_none h]; exact Nat.le_refl _⟩
theorem fe_H_none {c y d : Nat} {s sl : Nat → Nat} (h : fe_H c s sl) (hd : ∀ e, e < d → sl ((fe_h y + e) % 512) ≠ 0 ∧ s (sl ((fe_h y + e) % 512) - 1) ≠ y) (h0 : sl ((fe_h y + d) % 512) = 0) : ∀ i, i < c → s i ≠ y := by
  intro i hi e
  obtain ⟨d', hd', h1, h2⟩ := h.2.1 i hi
  rw [e] at h1 h2
  rcases Nat.lt_trichotomy d' d with q | q | q
  · have h3 := (hd d' q).2
    rw [h1, Nat.add_sub_cancel] at h3
    exact h3 e
  · subst q
    rw [h0] at h1
    omega
  · exact h2 d q h0
theorem fe_H_add {c y d : Nat} {s sl : Nat → Nat} (h : fe_H c s sl) (hd : ∀ e, e < d → sl ((fe_h y + e) % 512) ≠ 0 ∧ s (sl ((fe_h y + e) % 512) - 1) ≠ y) (hd5 : d < 512) (h0 : sl ((fe_h y + d) % 512) = 0) : fe_H (c + 1) (va_up s c y) (va_up sl ((fe_h y + d) % 512) (c + 1)) := by
  obtain ⟨h1, h2, h3⟩ := h
  refine ⟨fun p hp => ?_, fun i hi => ?_, ?_⟩
  · by_cases e : p = (fe_h y + d) % 512
    · rw [e, va_up_self]; exact Nat.le_refl _
    · rw [va_up_ne _ _ e]
      have := h1 p hp
      omega
  · rcases Nat.lt_or_ge i c with q | q
    · obtain ⟨d', hd', g1, g2⟩ := h2 i q
      rw [va_up_ne _ _ (show i ≠ c by omega)]
      refine ⟨d', hd', ?_, fun e he => ?_⟩
      · rw [va_up_ne]
        · exact g1
        · intro z
          rw [z, h0] at g1
          omega
      · by_cases z : (fe_h (s i) + e) % 512 = (fe_h y + d) % 512
        · rw [z, va_up_self]; omega
        · rw [va_up_ne _ _ z]; exact g2 e he
    · rw [show i = c by omega, va_up_self]
      refine ⟨d, hd5, va_up_self _ _ _, fun e he => ?_⟩
      by_cases z : (fe_h y + e) % 512 = (fe_h y + d) % 512
      · rw [z, va_up_self]; omega
      · rw [va_up_ne _ _ z]; exact (hd e he).1
  · have := fe_cn_up sl ((fe_h y + d) % 512) (c + 1) 512
    split at this <;> omega
theorem fe_H_end {c y : Nat} {s sl : Nat → Nat} (h : fe_H c s sl) (hc : c ≤ 200) (hd : ∀ e, e < 512 → sl ((fe_h y + e) % 512) ≠ 0) : False := by
  have h1 : fe_cn sl 512 = 512 := fe_cn_full (fun p hp => by
    have h2 := hd ((p + 512 - fe_h y) % 512) (Nat.mod_lt _ (by decide))
    have h3 := fe_h_lt y
    rw [show (fe_h y + (p + 512 - fe_h y) % 512) % 512 = p by omega] at h2
    exact h2)
  have := h.2.2
  omega
/-! what indexOf gives, used -/
def fe_ix (c : Nat) (sn sl : Nat → Nat) (y rr c9 : Nat) (sn9 sl9 : Nat → Nat) : Prop := (fe_find sn y c < c → rr = fe_find sn y c + 1 ∧ c9 = c ∧ sn9 = sn ∧ sl9 = sl) ∧ (¬ fe_find sn y c < c → (c = 200 → rr = 0) ∧ (c < 200 → rr = c + 1 ∧ c9 = c + 1 ∧ sn9 = va_up sn c y ∧ fe_H (c + 1) (va_up sn c y) sl9))
theorem fe_w8_and {y : Nat} (hy : y < 2 ^ 64) : y &&& 9838263505978427528 = 0 ↔ fe_w8 y = false := (fm_wide hy).trans fe_w8_f.symm
theorem fe_w8_ne {y : Nat} (hy : y < 2 ^ 64) (h : y &&& 9838263505978427528 ≠ 0) : fe_w8 y = true := by
  cases q : fe_w8 y with
  | true => rfl
  | false => exact absurd ((fe_w8_and hy).mpr q) h
theorem fe_w8_new {c y : Nat} {s : Nat → Nat} (hV : fe_V c s) (h : fe_w8 y = true) : ¬ fe_find s y c < c := fun hf => by
  have h1 := fe_w8_f.mpr (hV.2.1 _ hf).2
  rw [fe_find_in hf, h] at h1
  exact absurd h1 (by decide)
/-- the state of the class's rows between two steps -/
def fe_Z (O I : Nat → Nat) (me k c : Nat) (s sl nx : Nat → Nat) : Prop := fe_R O I me k c s nx ∧ fe_V c s ∧ fe_H c s sl
theorem fe_ix_use {O I : Nat → Nat} {me i a c rr c9 : Nat} {s sl nx sn9 sl9 : Nat → Nat} (hZ : fe_Z O I me (7 * i + a) c s sl nx) (ha : a < 7) (hi : i < c) (he : fs_en O me (s i) a = true) (h8 : fe_w8 (fs_fire O I (s i) a) = false) (hx : fe_ix c s sl (fs_fire O I (s i) a) rr c9 sn9 sl9) (hr : rr ≠ 0) :
    fe_Z O I me (7 * i + a + 1) c9 sn9 sl9 (va_up nx (7 * i + a) rr) ∧ c ≤ c9 ∧ ∀ z, z < c → sn9 z = s z := by
  obtain ⟨hR, hV, hH⟩ := hZ
  by_cases hf : fe_find s (fs_fire O I (s i) a) c < c
  · obtain ⟨e1, e2, e3, e4⟩ := hx.1 hf
    subst e1 e2 e3 e4
    exact ⟨⟨fe_R_old hR ha hi he hf, hV, hH⟩, Nat.le_refl _, fun _ _ => rfl⟩
  · have h1 := hx.2 hf
    have hc : c < 200 := by
      rcases Nat.lt_or_ge c 200 with q | q
      · exact q
      · exact absurd (h1.1 (by have := hV.1; omega)) hr
    obtain ⟨e1, e2, e3, e4⟩ := h1.2 hc
    subst e1 e2 e3
    exact ⟨⟨fe_R_new hR ha hi he hf hc h8, fe_V_add hV hc (fe_fire8 (hV.2.1 i hi).2).2 h8 (fe_find_no hf), e4⟩, by omega, fun z hz => va_up_ne _ _ (by omega)⟩
theorem fe_ix_0 {O I : Nat → Nat} {me i a c rr c9 : Nat} {s sl nx sn9 sl9 : Nat → Nat} (hZ : fe_Z O I me (7 * i + a) c s sl nx) (ha : a < 7) (hi : i < c) (he : fs_en O me (s i) a = true) (hx : fe_ix c s sl (fs_fire O I (s i) a) rr c9 sn9 sl9) (hr : rr = 0) : (fe_run O I me (7 * (i + 1))).2.2.2 = true := by
  obtain ⟨hR, hV, hH⟩ := hZ
  by_cases hf : fe_find s (fs_fire O I (s i) a) c < c
  · have := (hx.1 hf).1
    omega
  · refine fe_R_wide hR ha hi he hf (Or.inr ?_) (by omega)
    rcases Nat.lt_or_ge c 200 with q | q
    · have := ((hx.2 hf).2 q).1
      omega
    · have := hV.1
      omega
theorem fe_en_bit {O : Nat → Nat} {me x a : Nat} (ha : a < 7) : (fs_ens O me x).testBit a = fs_en O me x a := by
  unfold fs_ens
  rw [fs_set_bit, decide_eq_true ha, Bool.true_and]
theorem fs_en_can {O : Nat → Nat} {me x a : Nat} (h : fs_en O me x a = true) : fs_can O x a = true := by
  unfold fs_en at h
  rw [Bool.and_eq_true] at h
  exact h.2
theorem fs_ens_lt (O : Nat → Nat) (me x : Nat) : fs_ens O me x < 128 := fs_set_lt _ (by decide)
/-- all that was found, and what was ever enabled -/
def fe_F (O I : Nat → Nat) (me c : Nat) (s nx : Nat → Nat) (ev : Nat) : Prop := (fe_run O I me 1400).2.2.2 = false ∧ c = (fe_run O I me 1400).1 ∧ (∀ i, i < c → s i = (fe_run O I me 1400).2.1 i) ∧ (∀ j, j < 7 * c → nx j = (fe_run O I me 1400).2.2.1 j) ∧ ev < 128 ∧ ∀ a, ev.testBit a = fs_any (fun m => (fs_ens O me (s m)).testBit a) c
theorem fe_F_of {O I : Nat → Nat} {me c ev : Nat} {s nx : Nat → Nat} (hR : fe_R O I me (7 * c) c s nx) (hc : c ≤ 200) (h1 : ev < 128) (h2 : ∀ a, ev.testBit a = fs_any (fun m => (fs_ens O me (s m)).testBit a) c) : fe_F O I me c s nx ev := by
  obtain ⟨g1, g2, g3, g4⟩ := hR
  have e := fe_done (O := O) (I := I) (me := me) (k := 7 * c) (m := 1400) (by rw [← g2]; omega) (by omega)
  unfold fe_F
  rw [e]
  exact ⟨g1, g2, g3, g4, h1, h2⟩
theorem fe_F_at {O I : Nat → Nat} {me c i ev : Nat} {s sl nx : Nat → Nat} (hZ : fe_Z O I me (7 * i) c s sl nx) (e : c = i) (h1 : ev < 128) (h2 : ∀ a, ev.testBit a = fs_any (fun m => (fs_ens O me (s m)).testBit a) i) : fe_F O I me c s nx ev ∧ fe_V c s := by
  subst e
  exact ⟨fe_F_of hZ.1 hZ.2.1.1 h1 h2, hZ.2.1⟩
end
section
theorem fk_iincV {E : fk_E} {M : fk_M} {K : fk_K} {n : Nat × Nat} {w : va_W} {pc : Nat} {lv : List (Nat × Value)} {st : List Value} {i j : Nat} {k : Int} {x v : Int32} {lv' : List (Nat × Value)} (d : decode M.1 pc = .ok (.iinc i k, 3)) (hk : lv[j]? = some (i, .int x)) (hv : x + Int32.ofInt k = v) (hn : i < M.2.2.1) (ks : List Nat) (h : lv_pick ((i, Value.int v) :: lv.filter (fun q => !(q.1 == i) && !(q.1 + 1 == i && q.2.category == 2))) ks = lv') (kk : fk_V E M K n w (pc + 3) lv' st) : fk_V E M K n w pc lv st := by
  obtain ⟨p, l, e, s, m, args, below, meth, c, Q, A⟩ := K
  intro F h1 h2 H locs ls hl hP hD hS
  exact lv_iinc F.1 F.2.1 d hl hk hv hn rfl (fun ls' hl' => kk F h1 h2 H locs ls' (lv_sub hl' ks h) hP hD hS)
theorem fn_decJ {a : Nat} (h : 0 < a) : nI a - 1 + Int32.ofInt (-1) = nI (a - 1) - 1 := by
  rw [fn_jn h, show Int32.ofInt (-1) = -1 from by decide +kernel]
  exact (Int32.sub_eq_add_neg _ _).symm
set_option maxRecDepth 20000 in
set_option maxHeartbeats 4000000 in
theorem cA_fillM (E : fk_E) (a : Nat) (N : Nat) (v : Nat) (g : Nat → Nat) (hN : N < 2 ^ 31) : fk_C E fy_Ar_fillI prog_10_method_103_code 4 none 0 0 0 [.ref a, .int (nI v - 1)] [fk_aj E a N g] (S := (Nat → Nat)) (fun (u : (Nat → Nat)) => none) (fun (u : (Nat → Nat)) => ∀ k, k < N → u k = v) (fun (u : (Nat → Nat)) => [fk_aj E a N u]) := by
  refine fk_enterV (by decide) (Nat.le_of_ble_eq_true rfl) (lv0 := [(0, .ref a), (1, .int (nI v - 1))]) rfl ?_
  intro K hini hret
  refine fk_iconst (v := nI 0) d_Ar_fillI_0 (by decide +kernel) ?_
  refine fk_istore_n (lv' := [(0, .ref a), (1, .int (nI v - 1)), (2, .int (nI 0))]) d_Ar_fillI_1 rfl (Nat.le_of_ble_eq_true rfl) [1, 2, 0] rfl ?_
  refine fk_aload_n 0 d_Ar_fillI_2 rfl ?_
  refine fk_alen (t0 := 0) 0 rfl rfl d_Ar_fillI_3 ?_
  refine fk_istore_n (lv' := [(0, .ref a), (1, .int (nI v - 1)), (2, .int (nI 0)), (3, .int (nI N))]) d_Ar_fillI_4 rfl (Nat.le_of_ble_eq_true rfl) [1, 2, 3, 0] rfl ?_
  have L5 : ∀ (fuel : Nat) (i : Nat) (g1 : Nat → Nat), (i ≤ N) → (∀ k, k < i → g1 k = v) → N - i < fuel → fk_V E (prog_10_method_103_code, fy_Ar_fillI.cls, 4, fk_rm 0 0 0) K (0, 0) [fk_aj E a N g1] 5 [(0, .ref a), (1, .int (nI v - 1)), (2, .int (nI i)), (3, .int (nI N))] [] := by
    intro fuel
    induction fuel with
    | zero => intro i g1 _ _ hm; exact absurd hm (Nat.not_lt_zero _)
    | succ fuel ih =>
      intro i g1 hi hg hm5
      have ih5 := ih
      clear ih
      refine fk_iload_n 2 d_Ar_fillI_5 rfl ?_
      refine fk_iload_n 3 d_Ar_fillI_6 rfl ?_
      refine fk_icmp_ge (a := i) (b := N) (by omega) (by omega) d_Ar_fillI_7 rfl (fun h7t => ?_) (fun h7f => ?_)
      · exact hret (0, 0) _ 20 _ g1 d_Ar_fillI_20 (fun k hk => hg k (by omega)) (rfl)
      · refine fk_aload_n 0 d_Ar_fillI_10 rfl ?_
        refine fk_iload_n 2 d_Ar_fillI_11 rfl ?_
        refine fk_iload_n 1 d_Ar_fillI_12 rfl ?_
        refine fk_st_aj (i := i) (x := v) (w' := [fk_aj E a N (va_up g1 i v)]) 0 rfl (by omega) (by omega) d_Ar_fillI_13 rfl ?_
        refine fk_iinc (j := 2) (lv' := [(0, .ref a), (1, .int (nI v - 1)), (2, .int (nI (i + 1))), (3, .int (nI N))]) (i + 1) d_Ar_fillI_14 rfl (nI_1 i) (Nat.le_of_ble_eq_true rfl) [1, 2, 0, 3] rfl ?_
        refine fk_goto d_Ar_fillI_17 rfl ?_
        refine ih5 _ _ ?_ ?_ ?_
        · first | omega | assumption | exact Nat.zero_le _
        · intro k hk
          by_cases e : k = i
          · subst e
            exact va_up_self _ _ _
          · rw [va_up_ne _ _ e]
            exact hg k (by omega)
        · omega
  refine L5 _ _ _ ?_ ?_ (Nat.lt_succ_self _)
  · first | omega | assumption | exact Nat.zero_le _
  · exact fun k hk => absurd hk (Nat.not_lt_zero k)
theorem d_Re_markingCount_0 : decode prog_6_method_2_code 0 = .ok (.aload_n 0, 1) := by decide +kernel
theorem d_Re_markingCount_1 : decode prog_6_method_2_code 1 = .ok (.getfield 26, 3) := by decide +kernel
theorem d_Re_markingCount_4 : decode prog_6_method_2_code 4 = .ok (.ireturn, 1) := by decide +kernel
set_option maxRecDepth 20000 in
set_option maxHeartbeats 4000000 in
theorem cR_markingCount (E : fk_E) (r0 : Nat) (r1 : Nat) (r2 : Nat) (r3 : Nat) (r4 : Nat) (c : Nat) (ev : Nat)  : fk_C E fy_Re_markingCount prog_6_method_2_code 1 (some .int) 0 0 0 [.ref r0] [(r0, .inr (4, [.ref r1, .ref r2, .ref r3, .ref r4, .int (nI c), .int (nI ev)]))] (S := Unit) (fun _ => some (.int (nI c))) (fun _ => True) (fun _ => [(r0, .inr (4, [.ref r1, .ref r2, .ref r3, .ref r4, .int (nI c), .int (nI ev)]))]) := by
  refine fk_enterI (v := fun _ => (nI c)) (by decide) (Nat.le_of_ble_eq_true rfl) (lv0 := [(0, .ref r0)]) rfl ?_
  intro K hini hret
  refine fk_aload_n 0 d_Re_markingCount_0 rfl ?_
  refine fk_get 0 4 rfl rfl fh_Re (Nat.le_of_ble_eq_true rfl) fw_106 rfl d_Re_markingCount_1 ?_
  exact hret (0, 0) _ 4 _ () d_Re_markingCount_4 (trivial) (rfl)
theorem d_Re_addAt_0 : decode prog_6_method_6_code 0 = .ok (.aload_n 0, 1) := by decide +kernel
theorem d_Re_addAt_1 : decode prog_6_method_6_code 1 = .ok (.getfield 26, 3) := by decide +kernel
theorem d_Re_addAt_4 : decode prog_6_method_6_code 4 = .ok (.sipush 200, 3) := by decide +kernel
theorem d_Re_addAt_7 : decode prog_6_method_6_code 7 = .ok (.if_icmp .ne 5, 3) := by decide +kernel
theorem d_Re_addAt_10 : decode prog_6_method_6_code 10 = .ok (.iconst (-1), 1) := by decide +kernel
theorem d_Re_addAt_11 : decode prog_6_method_6_code 11 = .ok (.ireturn, 1) := by decide +kernel
theorem d_Re_addAt_12 : decode prog_6_method_6_code 12 = .ok (.aload_n 0, 1) := by decide +kernel
theorem d_Re_addAt_13 : decode prog_6_method_6_code 13 = .ok (.getfield 9, 3) := by decide +kernel
theorem d_Re_addAt_16 : decode prog_6_method_6_code 16 = .ok (.aload_n 0, 1) := by decide +kernel
theorem d_Re_addAt_17 : decode prog_6_method_6_code 17 = .ok (.getfield 26, 3) := by decide +kernel
theorem d_Re_addAt_20 : decode prog_6_method_6_code 20 = .ok (.lload_n 2, 1) := by decide +kernel
theorem d_Re_addAt_21 : decode prog_6_method_6_code 21 = .ok (.lastore, 1) := by decide +kernel
theorem d_Re_addAt_22 : decode prog_6_method_6_code 22 = .ok (.aload_n 0, 1) := by decide +kernel
theorem d_Re_addAt_23 : decode prog_6_method_6_code 23 = .ok (.getfield 15, 3) := by decide +kernel
theorem d_Re_addAt_26 : decode prog_6_method_6_code 26 = .ok (.iload_n 1, 1) := by decide +kernel
theorem d_Re_addAt_27 : decode prog_6_method_6_code 27 = .ok (.aload_n 0, 1) := by decide +kernel
theorem d_Re_addAt_28 : decode prog_6_method_6_code 28 = .ok (.getfield 26, 3) := by decide +kernel
theorem d_Re_addAt_31 : decode prog_6_method_6_code 31 = .ok (.iastore, 1) := by decide +kernel
theorem d_Re_addAt_32 : decode prog_6_method_6_code 32 = .ok (.aload_n 0, 1) := by decide +kernel
theorem d_Re_addAt_33 : decode prog_6_method_6_code 33 = .ok (.dup, 1) := by decide +kernel
theorem d_Re_addAt_34 : decode prog_6_method_6_code 34 = .ok (.getfield 26, 3) := by decide +kernel
theorem d_Re_addAt_37 : decode prog_6_method_6_code 37 = .ok (.iconst 1, 1) := by decide +kernel
theorem d_Re_addAt_38 : decode prog_6_method_6_code 38 = .ok (.iadd, 1) := by decide +kernel
theorem d_Re_addAt_39 : decode prog_6_method_6_code 39 = .ok (.putfield 26, 3) := by decide +kernel
theorem d_Re_addAt_42 : decode prog_6_method_6_code 42 = .ok (.aload_n 0, 1) := by decide +kernel
theorem d_Re_addAt_43 : decode prog_6_method_6_code 43 = .ok (.getfield 26, 3) := by decide +kernel
theorem d_Re_addAt_46 : decode prog_6_method_6_code 46 = .ok (.iconst 1, 1) := by decide +kernel
theorem d_Re_addAt_47 : decode prog_6_method_6_code 47 = .ok (.isub, 1) := by decide +kernel
theorem d_Re_addAt_48 : decode prog_6_method_6_code 48 = .ok (.ireturn, 1) := by decide +kernel
set_option maxRecDepth 20000 in
set_option maxHeartbeats 4000000 in
theorem cR_addAtF (E : fk_E) (r0 : Nat) (r1 : Nat) (r2 : Nat) (r3 : Nat) (r4 : Nat) (c : Nat) (ev : Nat) (sn : Nat → Nat) (sl : Nat → Nat) (q : Nat) (y : Nat) (hc : c = 200) : fk_C E fy_Re_addAt prog_6_method_6_code 4 (some .int) 0 0 0 [.ref r0, .int (nI q), .long (lN y)] [(r0, .inr (4, [.ref r1, .ref r2, .ref r3, .ref r4, .int (nI c), .int (nI ev)])), fk_al E r1 200 sn, fk_aj E r2 512 sl] (S := Unit) (fun _ => some (.int (nI 0 - 1))) (fun _ => True) (fun _ => [(r0, .inr (4, [.ref r1, .ref r2, .ref r3, .ref r4, .int (nI c), .int (nI ev)])), fk_al E r1 200 sn, fk_aj E r2 512 sl]) := by
  refine fk_enterI (v := fun _ => (nI 0 - 1)) (by decide) (Nat.le_of_ble_eq_true rfl) (lv0 := [(0, .ref r0), (1, .int (nI q)), (2, .long (lN y))]) rfl ?_
  intro K hini hret
  refine fk_aload_n 0 d_Re_addAt_0 rfl ?_
  refine fk_get 0 4 rfl rfl fh_Re (Nat.le_of_ble_eq_true rfl) fw_106 rfl d_Re_addAt_1 ?_
  refine fk_sipush (v := nI 200) d_Re_addAt_4 (by decide +kernel) ?_
  refine fk_icmp_ne (a := c) (b := 200) (by omega) (by omega) d_Re_addAt_7 rfl (fun h7t => ?_) (fun h7f => ?_)
  · exact absurd hc h7t
  · refine fk_iconst (v := nI 0 - 1) d_Re_addAt_10 (by decide +kernel) ?_
    exact hret (0, 0) _ 11 _ () d_Re_addAt_11 (trivial) (rfl)
set_option maxRecDepth 20000 in
set_option maxHeartbeats 4000000 in
theorem cR_addAt (E : fk_E) (r0 : Nat) (r1 : Nat) (r2 : Nat) (r3 : Nat) (r4 : Nat) (c : Nat) (ev : Nat) (sn : Nat → Nat) (sl : Nat → Nat) (q : Nat) (y : Nat) (hc : c < 200) (hq : q < 512) : fk_C E fy_Re_addAt prog_6_method_6_code 4 (some .int) 0 0 0 [.ref r0, .int (nI q), .long (lN y)] [(r0, .inr (4, [.ref r1, .ref r2, .ref r3, .ref r4, .int (nI c), .int (nI ev)])), fk_al E r1 200 sn, fk_aj E r2 512 sl] (S := Unit) (fun _ => some (.int (nI (c + 1) - 1))) (fun _ => True) (fun _ => [(r0, .inr (4, [.ref r1, .ref r2, .ref r3, .ref r4, .int (nI (c + 1)), .int (nI ev)])), fk_al E r1 200 (va_up sn c y), fk_aj E r2 512 (va_up sl q (c + 1))]) := by
  refine fk_enterI (v := fun _ => (nI (c + 1) - 1)) (by decide) (Nat.le_of_ble_eq_true rfl) (lv0 := [(0, .ref r0), (1, .int (nI q)), (2, .long (lN y))]) rfl ?_
  intro K hini hret
  refine fk_aload_n 0 d_Re_addAt_0 rfl ?_
  refine fk_get 0 4 rfl rfl fh_Re (Nat.le_of_ble_eq_true rfl) fw_106 rfl d_Re_addAt_1 ?_
  refine fk_sipush (v := nI 200) d_Re_addAt_4 (by decide +kernel) ?_
  refine fk_icmp_ne (a := c) (b := 200) (by omega) (by omega) d_Re_addAt_7 rfl (fun h7t => ?_) (fun h7f => ?_)
  · refine fk_aload_n 0 d_Re_addAt_12 rfl ?_
    refine fk_get 0 0 rfl rfl fh_Re (Nat.le_of_ble_eq_true rfl) fw_102 rfl d_Re_addAt_13 ?_
    refine fk_aload_n 0 d_Re_addAt_16 rfl ?_
    refine fk_get 0 4 rfl rfl fh_Re (Nat.le_of_ble_eq_true rfl) fw_106 rfl d_Re_addAt_17 ?_
    refine fk_lload_n 2 d_Re_addAt_20 rfl ?_
    refine fk_st_al (i := c) (x := y) (w' := [(r0, .inr (4, [.ref r1, .ref r2, .ref r3, .ref r4, .int (nI c), .int (nI ev)])), fk_al E r1 200 (va_up sn c y), fk_aj E r2 512 sl]) 1 rfl (by omega) (by decide) d_Re_addAt_21 rfl ?_
    refine fk_aload_n 0 d_Re_addAt_22 rfl ?_
    refine fk_get 0 1 rfl rfl fh_Re (Nat.le_of_ble_eq_true rfl) fw_103 rfl d_Re_addAt_23 ?_
    refine fk_iload_n 1 d_Re_addAt_26 rfl ?_
    refine fk_aload_n 0 d_Re_addAt_27 rfl ?_
    refine fk_get 0 4 rfl rfl fh_Re (Nat.le_of_ble_eq_true rfl) fw_106 rfl d_Re_addAt_28 ?_
    refine fk_top (show nI c = nI (c + 1) - 1 from (nI_pred _).symm) ?_
    refine fk_st_aj (i := q) (x := (c + 1)) (w' := [(r0, .inr (4, [.ref r1, .ref r2, .ref r3, .ref r4, .int (nI c), .int (nI ev)])), fk_al E r1 200 (va_up sn c y), fk_aj E r2 512 (va_up sl q (c + 1))]) 2 rfl (by omega) (by decide) d_Re_addAt_31 rfl ?_
    refine fk_aload_n 0 d_Re_addAt_32 rfl ?_
    refine fk_dup d_Re_addAt_33 rfl ?_
    refine fk_get 0 4 rfl rfl fh_Re (Nat.le_of_ble_eq_true rfl) fw_106 rfl d_Re_addAt_34 ?_
    refine fk_iconst (v := nI 1) d_Re_addAt_37 (by decide +kernel) ?_
    refine fk_iadd (a := c) (b := 1) d_Re_addAt_38 ?_
    refine fk_put (w' := [(r0, .inr (4, [.ref r1, .ref r2, .ref r3, .ref r4, .int (nI (c + 1)), .int (nI ev)])), fk_al E r1 200 (va_up sn c y), fk_aj E r2 512 (va_up sl q (c + 1))]) 0 4 fT_Re fT_Re_ok fT_Re_nm rfl rfl fh_Re (Nat.le_of_ble_eq_true rfl) fw_106 rfl (fT_Re_ok 4 (Nat.le_of_ble_eq_true rfl)) rfl rfl (Nat.le_of_ble_eq_true rfl) d_Re_addAt_39 rfl ?_
    refine fk_aload_n 0 d_Re_addAt_42 rfl ?_
    refine fk_get 0 4 rfl rfl fh_Re (Nat.le_of_ble_eq_true rfl) fw_106 rfl d_Re_addAt_43 ?_
    refine fk_iconst (v := nI 1) d_Re_addAt_46 (by decide +kernel) ?_
    refine fk_isub (a := (c + 1)) (b := 1) d_Re_addAt_47 (by omega) ?_
    refine fk_top (show (nI ((c + 1) - 1)) = (nI (c + 1) - 1) from by rw [Nat.add_sub_cancel]; exact (nI_pred c).symm) ?_
    exact hret (0, 0) _ 48 _ () d_Re_addAt_48 (trivial) (rfl)
  · omega
theorem d_Re_indexOf_0 : decode prog_6_method_5_code 0 = .ok (.lload_n 1, 1) := by decide +kernel
theorem d_Re_indexOf_1 : decode prog_6_method_5_code 1 = .ok (.ldc2_w 62, 3) := by decide +kernel
theorem d_Re_indexOf_4 : decode prog_6_method_5_code 4 = .ok (.lmul, 1) := by decide +kernel
theorem d_Re_indexOf_5 : decode prog_6_method_5_code 5 = .ok (.bipush 55, 2) := by decide +kernel
theorem d_Re_indexOf_7 : decode prog_6_method_5_code 7 = .ok (.lushr, 1) := by decide +kernel
theorem d_Re_indexOf_8 : decode prog_6_method_5_code 8 = .ok (.l2i, 1) := by decide +kernel
theorem d_Re_indexOf_9 : decode prog_6_method_5_code 9 = .ok (.istore_n 3, 1) := by decide +kernel
theorem d_Re_indexOf_10 : decode prog_6_method_5_code 10 = .ok (.iconst 0, 1) := by decide +kernel
theorem d_Re_indexOf_11 : decode prog_6_method_5_code 11 = .ok (.istore 4, 2) := by decide +kernel
theorem d_Re_indexOf_13 : decode prog_6_method_5_code 13 = .ok (.iload 4, 2) := by decide +kernel
theorem d_Re_indexOf_15 : decode prog_6_method_5_code 15 = .ok (.sipush 512, 3) := by decide +kernel
theorem d_Re_indexOf_18 : decode prog_6_method_5_code 18 = .ok (.if_icmp .ge 53, 3) := by decide +kernel
theorem d_Re_indexOf_21 : decode prog_6_method_5_code 21 = .ok (.aload_n 0, 1) := by decide +kernel
theorem d_Re_indexOf_22 : decode prog_6_method_5_code 22 = .ok (.getfield 15, 3) := by decide +kernel
theorem d_Re_indexOf_25 : decode prog_6_method_5_code 25 = .ok (.iload_n 3, 1) := by decide +kernel
theorem d_Re_indexOf_26 : decode prog_6_method_5_code 26 = .ok (.iaload, 1) := by decide +kernel
theorem d_Re_indexOf_27 : decode prog_6_method_5_code 27 = .ok (.istore 5, 2) := by decide +kernel
theorem d_Re_indexOf_29 : decode prog_6_method_5_code 29 = .ok (.iload 5, 2) := by decide +kernel
theorem d_Re_indexOf_31 : decode prog_6_method_5_code 31 = .ok (.iconst (-1), 1) := by decide +kernel
theorem d_Re_indexOf_32 : decode prog_6_method_5_code 32 = .ok (.if_icmp .ne 10, 3) := by decide +kernel
theorem d_Re_indexOf_35 : decode prog_6_method_5_code 35 = .ok (.aload_n 0, 1) := by decide +kernel
theorem d_Re_indexOf_36 : decode prog_6_method_5_code 36 = .ok (.iload_n 3, 1) := by decide +kernel
theorem d_Re_indexOf_37 : decode prog_6_method_5_code 37 = .ok (.lload_n 1, 1) := by decide +kernel
theorem d_Re_indexOf_38 : decode prog_6_method_5_code 38 = .ok (.invokevirtual 64, 3) := by decide +kernel
theorem d_Re_indexOf_41 : decode prog_6_method_5_code 41 = .ok (.ireturn, 1) := by decide +kernel
theorem d_Re_indexOf_42 : decode prog_6_method_5_code 42 = .ok (.aload_n 0, 1) := by decide +kernel
theorem d_Re_indexOf_43 : decode prog_6_method_5_code 43 = .ok (.getfield 9, 3) := by decide +kernel
theorem d_Re_indexOf_46 : decode prog_6_method_5_code 46 = .ok (.iload 5, 2) := by decide +kernel
theorem d_Re_indexOf_48 : decode prog_6_method_5_code 48 = .ok (.laload, 1) := by decide +kernel
theorem d_Re_indexOf_49 : decode prog_6_method_5_code 49 = .ok (.lload_n 1, 1) := by decide +kernel
theorem d_Re_indexOf_50 : decode prog_6_method_5_code 50 = .ok (.lcmp, 1) := by decide +kernel
theorem d_Re_indexOf_51 : decode prog_6_method_5_code 51 = .ok (.ifCond .ne 6, 3) := by decide +kernel
theorem d_Re_indexOf_54 : decode prog_6_method_5_code 54 = .ok (.iload 5, 2) := by decide +kernel
theorem d_Re_indexOf_56 : decode prog_6_method_5_code 56 = .ok (.ireturn, 1) := by decide +kernel
theorem d_Re_indexOf_57 : decode prog_6_method_5_code 57 = .ok (.iload_n 3, 1) := by decide +kernel
theorem d_Re_indexOf_58 : decode prog_6_method_5_code 58 = .ok (.iconst 1, 1) := by decide +kernel
theorem d_Re_indexOf_59 : decode prog_6_method_5_code 59 = .ok (.iadd, 1) := by decide +kernel
theorem d_Re_indexOf_60 : decode prog_6_method_5_code 60 = .ok (.sipush 512, 3) := by decide +kernel
theorem d_Re_indexOf_63 : decode prog_6_method_5_code 63 = .ok (.irem, 1) := by decide +kernel
theorem d_Re_indexOf_64 : decode prog_6_method_5_code 64 = .ok (.istore_n 3, 1) := by decide +kernel
theorem d_Re_indexOf_65 : decode prog_6_method_5_code 65 = .ok (.iinc 4 1, 3) := by decide +kernel
theorem d_Re_indexOf_68 : decode prog_6_method_5_code 68 = .ok (.goto (-55), 3) := by decide +kernel
theorem d_Re_indexOf_71 : decode prog_6_method_5_code 71 = .ok (.iconst (-1), 1) := by decide +kernel
theorem d_Re_indexOf_72 : decode prog_6_method_5_code 72 = .ok (.ireturn, 1) := by decide +kernel
set_option maxRecDepth 20000 in
set_option maxHeartbeats 4000000 in
theorem cR_indexOf (E : fk_E) (r0 : Nat) (r1 : Nat) (r2 : Nat) (r3 : Nat) (r4 : Nat) (c : Nat) (ev : Nat) (sn : Nat → Nat) (sl : Nat → Nat) (y : Nat) (hy : y < 2 ^ 64) (hV : fe_V c sn) (hH : fe_H c sn sl) : fk_C E fy_Re_indexOf prog_6_method_5_code 6 (some .int) 1 0 0 [.ref r0, .long (lN y)] [(r0, .inr (4, [.ref r1, .ref r2, .ref r3, .ref r4, .int (nI c), .int (nI ev)])), fk_al E r1 200 sn, fk_aj E r2 512 sl] (S := Nat × Nat × (Nat → Nat) × (Nat → Nat)) (fun (u : Nat × Nat × (Nat → Nat) × (Nat → Nat)) => some (.int (nI u.1 - 1))) (fun (u : Nat × Nat × (Nat → Nat) × (Nat → Nat)) => (fe_find sn y c < c → u.1 = fe_find sn y c + 1 ∧ u.2.1 = c ∧ u.2.2.1 = sn ∧ u.2.2.2 = sl) ∧ (¬ fe_find sn y c < c → (c = 200 → u.1 = 0) ∧ (c < 200 → u.1 = c + 1 ∧ u.2.1 = c + 1 ∧ u.2.2.1 = va_up sn c y ∧ fe_H (c + 1) (va_up sn c y) u.2.2.2))) (fun (u : Nat × Nat × (Nat → Nat) × (Nat → Nat)) => [(r0, .inr (4, [.ref r1, .ref r2, .ref r3, .ref r4, .int (nI u.2.1), .int (nI ev)])), fk_al E r1 200 u.2.2.1, fk_aj E r2 512 u.2.2.2]) := by
  refine fk_enterI (v := fun (u : Nat × Nat × (Nat → Nat) × (Nat → Nat)) => (nI u.1 - 1)) (by decide) (Nat.le_of_ble_eq_true rfl) (lv0 := [(0, .ref r0), (1, .long (lN y))]) rfl ?_
  intro K hini hret
  have hc := hV.1
  have hh := fe_h_lt y
  refine fk_lload_n 1 d_Re_indexOf_0 rfl ?_
  refine fk_ldc2 (v := (-7046029254386353131 : Int64)) d_Re_indexOf_1 fw_393 ?_
  refine fk_topl (show (-7046029254386353131 : Int64) = lN 11400714819323198485 by decide +kernel) ?_
  refine fk_lmulR d_Re_indexOf_4 ?_
  refine fk_topl (show ((lN y) * (lN 11400714819323198485)) = (lN (y * 11400714819323198485 % 2 ^ 64)) from (lN_mul _ _).trans (fn_lmod _)) ?_
  refine fk_bipush (v := nI 55) d_Re_indexOf_5 (by decide +kernel) ?_
  refine fk_lushr d_Re_indexOf_7 (fn_lushr (a := (y * 11400714819323198485 % 2 ^ 64)) (k := 55) (Nat.mod_lt _ (by decide)) (by decide)) ?_
  refine fk_l2i d_Re_indexOf_8 (lN_i ((y * 11400714819323198485 % 2 ^ 64) / 2 ^ 55)) ?_
  refine fk_top (show (nI ((y * 11400714819323198485 % 2 ^ 64) / 2 ^ 55)) = (nI (fe_h y)) from rfl) ?_
  refine fk_istore_n (lv' := [(0, .ref r0), (1, .long (lN y)), (3, .int (nI (fe_h y)))]) d_Re_indexOf_9 rfl (Nat.le_of_ble_eq_true rfl) [1, 2, 0] rfl ?_
  refine fk_iconst (v := nI 0) d_Re_indexOf_10 (by decide +kernel) ?_
  refine fk_istore (lv' := [(0, .ref r0), (1, .long (lN y)), (3, .int (nI (fe_h y))), (4, .int (nI 0))]) d_Re_indexOf_11 (Nat.le_of_ble_eq_true rfl) [1, 2, 3, 0] rfl ?_
  have L13 : ∀ (fuel : Nat) (d : Nat) (q : Nat), (d ≤ 512) → (q = (fe_h y + d) % 512) → (∀ e, e < d → sl ((fe_h y + e) % 512) ≠ 0 ∧ sn (sl ((fe_h y + e) % 512) - 1) ≠ y) → 512 - d < fuel → fk_V E (prog_6_method_5_code, fy_Re_indexOf.cls, 6, fk_rm 1 0 0) K (0, 0) [(r0, .inr (4, [.ref r1, .ref r2, .ref r3, .ref r4, .int (nI c), .int (nI ev)])), fk_al E r1 200 sn, fk_aj E r2 512 sl] 13 [(0, .ref r0), (1, .long (lN y)), (3, .int (nI q)), (4, .int (nI d))] [] := by
    intro fuel
    induction fuel with
    | zero => intro d q _ _ _ hm; exact absurd hm (Nat.not_lt_zero _)
    | succ fuel ih =>
      intro d q h1 h2 h3 hm13
      have ih13 := ih
      clear ih
      refine fk_iload 3 d_Re_indexOf_13 rfl ?_
      refine fk_sipush (v := nI 512) d_Re_indexOf_15 (by decide +kernel) ?_
      refine fk_icmp_ge (a := d) (b := 512) (by omega) (by omega) d_Re_indexOf_18 rfl (fun h18t => ?_) (fun h18f => ?_)
      · exfalso
        exact fe_H_end hH hc (fun e he => (h3 e (by omega)).1)
      · have g1 := hH.1 q (by omega)
        refine fk_aload_n 0 d_Re_indexOf_21 rfl ?_
        refine fk_get 0 1 rfl rfl fh_Re (Nat.le_of_ble_eq_true rfl) fw_103 rfl d_Re_indexOf_22 ?_
        refine fk_iload_n 2 d_Re_indexOf_25 rfl ?_
        refine fk_ld_aj (i := q) 2 rfl (by omega) (by decide) d_Re_indexOf_26 ?_
        refine fk_istore (lv' := [(0, .ref r0), (1, .long (lN y)), (3, .int (nI q)), (4, .int (nI d)), (5, .int (nI (sl q) - 1))]) d_Re_indexOf_27 (Nat.le_of_ble_eq_true rfl) [1, 2, 3, 4, 0] rfl ?_
        refine fk_iload 4 d_Re_indexOf_29 rfl ?_
        refine fk_iconst (v := nI 0 - 1) d_Re_indexOf_31 (by decide +kernel) ?_
        refine fk_icmp_neJ (a := (sl q)) (b := 0) (by omega) (by omega) d_Re_indexOf_32 rfl (fun h32t => ?_) (fun h32f => ?_)
        · refine fk_aload_n 0 d_Re_indexOf_42 rfl ?_
          refine fk_get 0 0 rfl rfl fh_Re (Nat.le_of_ble_eq_true rfl) fw_102 rfl d_Re_indexOf_43 ?_
          refine fk_iload 4 d_Re_indexOf_46 rfl ?_
          refine fk_top (show (nI (sl q) - 1) = (nI (sl q - 1)) from fn_jn (by omega)) ?_
          refine fk_ld_al (i := (sl q - 1)) 1 rfl (by omega) (by decide) d_Re_indexOf_48 ?_
          refine fk_lload_n 1 d_Re_indexOf_49 rfl ?_
          refine fk_lcmpR d_Re_indexOf_50 ?_
          refine fk_cmp_ne (a := (sn (sl q - 1))) (b := y) ((hV.2.1 _ (by omega)).1) (hy) d_Re_indexOf_51 rfl (fun h51t => ?_) (fun h51f => ?_)
          · refine fk_iload_n 2 d_Re_indexOf_57 rfl ?_
            refine fk_iconst (v := nI 1) d_Re_indexOf_58 (by decide +kernel) ?_
            refine fk_iadd (a := q) (b := 1) d_Re_indexOf_59 ?_
            refine fk_sipush (v := nI 512) d_Re_indexOf_60 (by decide +kernel) ?_
            refine fk_irem (a := (q + 1)) (b := 512) d_Re_indexOf_63 (by omega) (by omega) (by omega) ?_
            refine fk_istore_n (lv' := [(0, .ref r0), (1, .long (lN y)), (3, .int (nI ((q + 1) % 512))), (4, .int (nI d)), (5, .int (nI (sl q) - 1))]) d_Re_indexOf_64 rfl (Nat.le_of_ble_eq_true rfl) [1, 2, 0, 3, 4] rfl ?_
            refine fk_iinc (j := 3) (lv' := [(0, .ref r0), (1, .long (lN y)), (3, .int (nI ((q + 1) % 512))), (4, .int (nI (d + 1))), (5, .int (nI (sl q) - 1))]) (d + 1) d_Re_indexOf_65 rfl (nI_1 d) (Nat.le_of_ble_eq_true rfl) [1, 2, 3, 0, 4] rfl ?_
            refine fk_goto d_Re_indexOf_68 rfl ?_
            refine fk_lv (lv' := [(0, .ref r0), (1, .long (lN y)), (3, .int (nI ((q + 1) % 512))), (4, .int (nI (d + 1)))]) [0, 1, 2, 3] rfl ?_
            refine ih13 _ _ ?_ ?_ ?_ ?_
            · first | omega | assumption | exact Nat.zero_le _
            · first | omega | assumption | exact Nat.zero_le _
            · intro e he
              rcases Nat.lt_or_ge e d with z | z
              · exact h3 e z
              · rw [show e = d by omega, ← h2]
                exact ⟨h32t, h51t⟩
            · omega
          · refine fk_iload 4 d_Re_indexOf_54 rfl ?_
            refine fk_top (show (nI (sl q) - 1) = (nI (sl q) - 1) from by first | rfl | simp_all) ?_
            exact hret (0, 0) _ 56 _ (sl q, c, sn, sl) d_Re_indexOf_56 (by have g5 : fe_find sn y c = sl q - 1 := fe_find_eq hV.2.2 (by omega) h51f; exact ⟨fun _ => ⟨show sl q = _ by omega, rfl, rfl, rfl⟩, fun z => absurd (show fe_find sn y c < c by omega) z⟩) (rfl)
        · have g2 : ∀ i, i < c → sn i ≠ y := fe_H_none (d := d) hH h3 (by rw [← h2]; exact h32f)
          have g3 := fe_find_none g2
          rcases Nat.lt_or_ge c 200 with g4 | g4
          · refine fk_aload_n 0 d_Re_indexOf_35 rfl ?_
            refine fk_iload_n 2 d_Re_indexOf_36 rfl ?_
            refine fk_lload_n 1 d_Re_indexOf_37 rfl ?_
            refine fk_callV (q0 := 0) (As := [.int (nI q), .long (lN y)]) (rest := []) (is := [0, 1, 2]) (ir := []) (ip := [0, 1, 2]) (wc := [(r0, .inr (4, [.ref r1, .ref r2, .ref r3, .ref r4, .int (nI c), .int (nI ev)])), fk_al E r1 200 sn, fk_aj E r2 512 sl]) (wr := []) (w2 := fun _ => [(r0, .inr (4, [.ref r1, .ref r2, .ref r3, .ref r4, .int (nI (c + 1)), .int (nI ev)])), fk_al E r1 200 (va_up sn c y), fk_aj E r2 512 (va_up sl q (c + 1))]) (cR_addAt E r0 r1 r2 r3 r4 c ev sn sl q y (by first | omega | assumption) (by first | omega | assumption)) d_Re_indexOf_38 fz_Re_addAt fw_394 rfl rfl fw_396 fw_p9 ⟨Nat.le_of_ble_eq_true rfl, Nat.le_of_ble_eq_true rfl⟩ rfl (Nat.le_of_ble_eq_true rfl) ⟨Nat.zero_le _, Nat.zero_le _⟩ ⟨rfl, rfl, rfl, rfl, by decide, fun _ => rfl, rfl⟩ (fun u hu38 => ?_)
            show fk_V E _ K (0, 0) [(r0, .inr (4, [.ref r1, .ref r2, .ref r3, .ref r4, .int (nI (c + 1)), .int (nI ev)])), fk_al E r1 200 (va_up sn c y), fk_aj E r2 512 (va_up sl q (c + 1))] 41 [(0, .ref r0), (1, .long (lN y)), (3, .int (nI q)), (4, .int (nI d)), (5, .int (nI (sl q) - 1))] [.int (nI (c + 1) - 1)]
            refine fk_top (show (nI (c + 1) - 1) = (nI (c + 1) - 1) from by first | rfl | simp_all) ?_
            exact hret (0, 0) _ 41 _ (c + 1, c + 1, va_up sn c y, va_up sl q (c + 1)) d_Re_indexOf_41 (⟨fun z => absurd z (by omega), fun _ => ⟨fun z => absurd z (by omega), fun _ => ⟨rfl, rfl, rfl, by rw [h2]; exact fe_H_add hH h3 h18f (by rw [← h2]; exact h32f)⟩⟩⟩) (rfl)
          · refine fk_aload_n 0 d_Re_indexOf_35 rfl ?_
            refine fk_iload_n 2 d_Re_indexOf_36 rfl ?_
            refine fk_lload_n 1 d_Re_indexOf_37 rfl ?_
            refine fk_callV (q0 := 0) (As := [.int (nI q), .long (lN y)]) (rest := []) (is := [0, 1, 2]) (ir := []) (ip := [0, 1, 2]) (wc := [(r0, .inr (4, [.ref r1, .ref r2, .ref r3, .ref r4, .int (nI c), .int (nI ev)])), fk_al E r1 200 sn, fk_aj E r2 512 sl]) (wr := []) (w2 := fun _ => [(r0, .inr (4, [.ref r1, .ref r2, .ref r3, .ref r4, .int (nI c), .int (nI ev)])), fk_al E r1 200 sn, fk_aj E r2 512 sl]) (cR_addAtF E r0 r1 r2 r3 r4 c ev sn sl q y (by first | omega | assumption)) d_Re_indexOf_38 fz_Re_addAt fw_394 rfl rfl fw_396 fw_p9 ⟨Nat.le_of_ble_eq_true rfl, Nat.le_of_ble_eq_true rfl⟩ rfl (Nat.le_of_ble_eq_true rfl) ⟨Nat.zero_le _, Nat.zero_le _⟩ ⟨rfl, rfl, rfl, rfl, by decide, fun _ => rfl, rfl⟩ (fun u hu38 => ?_)
            show fk_V E _ K (0, 0) [(r0, .inr (4, [.ref r1, .ref r2, .ref r3, .ref r4, .int (nI c), .int (nI ev)])), fk_al E r1 200 sn, fk_aj E r2 512 sl] 41 [(0, .ref r0), (1, .long (lN y)), (3, .int (nI q)), (4, .int (nI d)), (5, .int (nI (sl q) - 1))] [.int (nI 0 - 1)]
            exact hret (0, 0) _ 41 _ (0, c, sn, sl) d_Re_indexOf_41 (⟨fun z => absurd z (by omega), fun _ => ⟨fun _ => rfl, fun z => absurd z (by omega)⟩⟩) (rfl)
  refine L13 _ _ _ ?_ ?_ ?_ (Nat.lt_succ_self _)
  · first | omega | assumption | exact Nat.zero_le _
  · first | omega | assumption | exact Nat.zero_le _
  · exact fun e he => absurd he (Nat.not_lt_zero e)
theorem d_Re_addNextOf_0 : decode prog_6_method_4_code 0 = .ok (.aload_n 1, 1) := by decide +kernel
theorem d_Re_addNextOf_1 : decode prog_6_method_4_code 1 = .ok (.aload_n 0, 1) := by decide +kernel
theorem d_Re_addNextOf_2 : decode prog_6_method_4_code 2 = .ok (.getfield 9, 3) := by decide +kernel
theorem d_Re_addNextOf_5 : decode prog_6_method_4_code 5 = .ok (.iload_n 2, 1) := by decide +kernel
theorem d_Re_addNextOf_6 : decode prog_6_method_4_code 6 = .ok (.laload, 1) := by decide +kernel
theorem d_Re_addNextOf_7 : decode prog_6_method_4_code 7 = .ok (.invokevirtual 47, 3) := by decide +kernel
theorem d_Re_addNextOf_10 : decode prog_6_method_4_code 10 = .ok (.istore_n 3, 1) := by decide +kernel
theorem d_Re_addNextOf_11 : decode prog_6_method_4_code 11 = .ok (.aload_n 0, 1) := by decide +kernel
theorem d_Re_addNextOf_12 : decode prog_6_method_4_code 12 = .ok (.dup, 1) := by decide +kernel
theorem d_Re_addNextOf_13 : decode prog_6_method_4_code 13 = .ok (.getfield 30, 3) := by decide +kernel
theorem d_Re_addNextOf_16 : decode prog_6_method_4_code 16 = .ok (.iload_n 3, 1) := by decide +kernel
theorem d_Re_addNextOf_17 : decode prog_6_method_4_code 17 = .ok (.ior, 1) := by decide +kernel
theorem d_Re_addNextOf_18 : decode prog_6_method_4_code 18 = .ok (.putfield 30, 3) := by decide +kernel
theorem d_Re_addNextOf_21 : decode prog_6_method_4_code 21 = .ok (.iconst 0, 1) := by decide +kernel
theorem d_Re_addNextOf_22 : decode prog_6_method_4_code 22 = .ok (.istore 4, 2) := by decide +kernel
theorem d_Re_addNextOf_24 : decode prog_6_method_4_code 24 = .ok (.iload 4, 2) := by decide +kernel
theorem d_Re_addNextOf_26 : decode prog_6_method_4_code 26 = .ok (.bipush 7, 2) := by decide +kernel
theorem d_Re_addNextOf_28 : decode prog_6_method_4_code 28 = .ok (.if_icmp .ge 78, 3) := by decide +kernel
theorem d_Re_addNextOf_31 : decode prog_6_method_4_code 31 = .ok (.iconst (-1), 1) := by decide +kernel
theorem d_Re_addNextOf_32 : decode prog_6_method_4_code 32 = .ok (.istore 5, 2) := by decide +kernel
theorem d_Re_addNextOf_34 : decode prog_6_method_4_code 34 = .ok (.iload 4, 2) := by decide +kernel
theorem d_Re_addNextOf_36 : decode prog_6_method_4_code 36 = .ok (.iload_n 3, 1) := by decide +kernel
theorem d_Re_addNextOf_37 : decode prog_6_method_4_code 37 = .ok (.invokestatic 52, 3) := by decide +kernel
theorem d_Re_addNextOf_40 : decode prog_6_method_4_code 40 = .ok (.ifCond .eq 46, 3) := by decide +kernel
theorem d_Re_addNextOf_43 : decode prog_6_method_4_code 43 = .ok (.aload_n 1, 1) := by decide +kernel
theorem d_Re_addNextOf_44 : decode prog_6_method_4_code 44 = .ok (.aload_n 0, 1) := by decide +kernel
theorem d_Re_addNextOf_45 : decode prog_6_method_4_code 45 = .ok (.getfield 9, 3) := by decide +kernel
theorem d_Re_addNextOf_48 : decode prog_6_method_4_code 48 = .ok (.iload_n 2, 1) := by decide +kernel
theorem d_Re_addNextOf_49 : decode prog_6_method_4_code 49 = .ok (.laload, 1) := by decide +kernel
theorem d_Re_addNextOf_50 : decode prog_6_method_4_code 50 = .ok (.iload 4, 2) := by decide +kernel
theorem d_Re_addNextOf_52 : decode prog_6_method_4_code 52 = .ok (.invokevirtual 56, 3) := by decide +kernel
theorem d_Re_addNextOf_55 : decode prog_6_method_4_code 55 = .ok (.lstore 6, 2) := by decide +kernel
theorem d_Re_addNextOf_57 : decode prog_6_method_4_code 57 = .ok (.lload 6, 2) := by decide +kernel
theorem d_Re_addNextOf_59 : decode prog_6_method_4_code 59 = .ok (.ldc2_w 60, 3) := by decide +kernel
theorem d_Re_addNextOf_62 : decode prog_6_method_4_code 62 = .ok (.land, 1) := by decide +kernel
theorem d_Re_addNextOf_63 : decode prog_6_method_4_code 63 = .ok (.lconst 0, 1) := by decide +kernel
theorem d_Re_addNextOf_64 : decode prog_6_method_4_code 64 = .ok (.lcmp, 1) := by decide +kernel
theorem d_Re_addNextOf_65 : decode prog_6_method_4_code 65 = .ok (.ifCond .eq 5, 3) := by decide +kernel
theorem d_Re_addNextOf_68 : decode prog_6_method_4_code 68 = .ok (.iconst 0, 1) := by decide +kernel
theorem d_Re_addNextOf_69 : decode prog_6_method_4_code 69 = .ok (.ireturn, 1) := by decide +kernel
theorem d_Re_addNextOf_70 : decode prog_6_method_4_code 70 = .ok (.aload_n 0, 1) := by decide +kernel
theorem d_Re_addNextOf_71 : decode prog_6_method_4_code 71 = .ok (.lload 6, 2) := by decide +kernel
theorem d_Re_addNextOf_73 : decode prog_6_method_4_code 73 = .ok (.invokevirtual 39, 3) := by decide +kernel
theorem d_Re_addNextOf_76 : decode prog_6_method_4_code 76 = .ok (.istore 5, 2) := by decide +kernel
theorem d_Re_addNextOf_78 : decode prog_6_method_4_code 78 = .ok (.iload 5, 2) := by decide +kernel
theorem d_Re_addNextOf_80 : decode prog_6_method_4_code 80 = .ok (.iconst (-1), 1) := by decide +kernel
theorem d_Re_addNextOf_81 : decode prog_6_method_4_code 81 = .ok (.if_icmp .ne 5, 3) := by decide +kernel
theorem d_Re_addNextOf_84 : decode prog_6_method_4_code 84 = .ok (.iconst 0, 1) := by decide +kernel
theorem d_Re_addNextOf_85 : decode prog_6_method_4_code 85 = .ok (.ireturn, 1) := by decide +kernel
theorem d_Re_addNextOf_86 : decode prog_6_method_4_code 86 = .ok (.aload_n 0, 1) := by decide +kernel
theorem d_Re_addNextOf_87 : decode prog_6_method_4_code 87 = .ok (.getfield 19, 3) := by decide +kernel
theorem d_Re_addNextOf_90 : decode prog_6_method_4_code 90 = .ok (.iload_n 2, 1) := by decide +kernel
theorem d_Re_addNextOf_91 : decode prog_6_method_4_code 91 = .ok (.bipush 7, 2) := by decide +kernel
theorem d_Re_addNextOf_93 : decode prog_6_method_4_code 93 = .ok (.imul, 1) := by decide +kernel
theorem d_Re_addNextOf_94 : decode prog_6_method_4_code 94 = .ok (.iload 4, 2) := by decide +kernel
theorem d_Re_addNextOf_96 : decode prog_6_method_4_code 96 = .ok (.iadd, 1) := by decide +kernel
theorem d_Re_addNextOf_97 : decode prog_6_method_4_code 97 = .ok (.iload 5, 2) := by decide +kernel
theorem d_Re_addNextOf_99 : decode prog_6_method_4_code 99 = .ok (.iastore, 1) := by decide +kernel
theorem d_Re_addNextOf_100 : decode prog_6_method_4_code 100 = .ok (.iinc 4 1, 3) := by decide +kernel
theorem d_Re_addNextOf_103 : decode prog_6_method_4_code 103 = .ok (.goto (-79), 3) := by decide +kernel
theorem d_Re_addNextOf_106 : decode prog_6_method_4_code 106 = .ok (.iconst 1, 1) := by decide +kernel
theorem d_Re_addNextOf_107 : decode prog_6_method_4_code 107 = .ok (.ireturn, 1) := by decide +kernel
set_option maxRecDepth 20000 in
set_option maxHeartbeats 4000000 in
theorem cR_addNextOf (E : fk_E) (r0 : Nat) (r1 : Nat) (r2 : Nat) (r3 : Nat) (r4 : Nat) (c : Nat) (ev : Nat) (n0 : Nat) (n1 : Nat) (n2 : Nat) (n3 : Nat) (n4 : Nat) (cnt : Nat) (fi : Nat) (la : Nat) (lo : Nat) (me : Nat) (sn : Nat → Nat) (sl : Nat → Nat) (nx : Nat → Nat) (tk : Nat → Nat) (pu : Nat → Nat) (O : Nat → Nat) (I : Nat → Nat) (i : Nat) (hm : me < 128) (hk : ∀ a, a < 7 → tk a = fm_mk (fs_tak O a)) (hu : ∀ a, a < 7 → pu a = fm_mk (fs_tak I a)) (hZ : fe_Z O I me (7 * i) c sn sl nx) (hi : i < c) (he : ev < 128) : fk_C E fy_Re_addNextOf prog_6_method_4_code 8 (some .boolean) 2 0 0 [.ref r0, .ref n0, .int (nI i)] [(r0, .inr (4, [.ref r1, .ref r2, .ref r3, .ref r4, .int (nI c), .int (nI ev)])), fk_al E r1 200 sn, fk_aj E r2 512 sl, fk_aj E r3 1400 nx, (n0, .inr (2, [.ref n1, .ref n2, .ref n3, .ref n4, .int (nI cnt), .int (nI fi), .int (nI la), .int (nI lo), .int (nI me)])), fk_al E n3 7 tk, fk_al E n4 7 pu] (S := Bool × Nat × (Nat → Nat) × (Nat → Nat) × (Nat → Nat)) (fun (u : Bool × Nat × (Nat → Nat) × (Nat → Nat) × (Nat → Nat)) => some (.int (nI (Bool.toNat u.1)))) (fun (u : Bool × Nat × (Nat → Nat) × (Nat → Nat) × (Nat → Nat)) => (u.1 = true → fe_Z O I me (7 * (i + 1)) u.2.1 u.2.2.1 u.2.2.2.1 u.2.2.2.2 ∧ c ≤ u.2.1 ∧ ∀ z, z < c → u.2.2.1 z = sn z) ∧ (u.1 = false → (fe_run O I me (7 * (i + 1))).2.2.2 = true)) (fun (u : Bool × Nat × (Nat → Nat) × (Nat → Nat) × (Nat → Nat)) => [(r0, .inr (4, [.ref r1, .ref r2, .ref r3, .ref r4, .int (nI u.2.1), .int (nI (ev ||| fs_ens O me (sn i)))])), fk_al E r1 200 u.2.2.1, fk_aj E r2 512 u.2.2.2.1, fk_aj E r3 1400 u.2.2.2.2, (n0, .inr (2, [.ref n1, .ref n2, .ref n3, .ref n4, .int (nI cnt), .int (nI fi), .int (nI la), .int (nI lo), .int (nI me)])), fk_al E n3 7 tk, fk_al E n4 7 pu]) := by
  refine fk_enterZ (v := fun (u : Bool × Nat × (Nat → Nat) × (Nat → Nat) × (Nat → Nat)) => u.1) (by decide) (Nat.le_of_ble_eq_true rfl) (lv0 := [(0, .ref r0), (1, .ref n0), (2, .int (nI i))]) rfl ?_
  intro K hini hret
  have hc2 := hZ.2.1.1
  have hx0 := (hZ.2.1.2.1 i hi).1
  have hE := fs_ens_lt O me (sn i)
  refine fk_aload_n 1 d_Re_addNextOf_0 rfl ?_
  refine fk_aload_n 0 d_Re_addNextOf_1 rfl ?_
  refine fk_get 0 0 rfl rfl fh_Re (Nat.le_of_ble_eq_true rfl) fw_102 rfl d_Re_addNextOf_2 ?_
  refine fk_iload_n 2 d_Re_addNextOf_5 rfl ?_
  refine fk_ld_al (i := i) 1 rfl (by omega) (by decide) d_Re_addNextOf_6 ?_
  refine fk_callV (q0 := 4) (As := [.long (lN (sn i))]) (rest := []) (is := [4, 5]) (ir := [0, 1, 2, 3, 6]) (ip := [0, 1, 2, 3, 5, 6, 4]) (wc := [(n0, .inr (2, [.ref n1, .ref n2, .ref n3, .ref n4, .int (nI cnt), .int (nI fi), .int (nI la), .int (nI lo), .int (nI me)])), fk_al E n3 7 tk]) (wr := [(r0, .inr (4, [.ref r1, .ref r2, .ref r3, .ref r4, .int (nI c), .int (nI ev)])), fk_al E r1 200 sn, fk_aj E r2 512 sl, fk_aj E r3 1400 nx, fk_al E n4 7 pu]) (w2 := fun _ => [(r0, .inr (4, [.ref r1, .ref r2, .ref r3, .ref r4, .int (nI c), .int (nI ev)])), fk_al E r1 200 sn, fk_aj E r2 512 sl, fk_aj E r3 1400 nx, (n0, .inr (2, [.ref n1, .ref n2, .ref n3, .ref n4, .int (nI cnt), .int (nI fi), .int (nI la), .int (nI lo), .int (nI me)])), fk_al E n3 7 tk, fk_al E n4 7 pu]) (cN_enabledIn E n0 n1 n2 n3 n4 cnt fi la lo me tk O (sn i) (by first | omega | assumption) (by first | omega | assumption) (by first | omega | assumption)) d_Re_addNextOf_7 fz_Nt_enabledIn fw_402 rfl rfl fw_369 fw_370 ⟨Nat.le_of_ble_eq_true rfl, Nat.le_of_ble_eq_true rfl⟩ rfl (Nat.le_of_ble_eq_true rfl) ⟨Nat.zero_le _, Nat.zero_le _⟩ ⟨rfl, rfl, rfl, rfl, by decide, fun _ => rfl, rfl⟩ (fun u hu7 => ?_)
  show fk_V E _ K (0, 0) [(r0, .inr (4, [.ref r1, .ref r2, .ref r3, .ref r4, .int (nI c), .int (nI ev)])), fk_al E r1 200 sn, fk_aj E r2 512 sl, fk_aj E r3 1400 nx, (n0, .inr (2, [.ref n1, .ref n2, .ref n3, .ref n4, .int (nI cnt), .int (nI fi), .int (nI la), .int (nI lo), .int (nI me)])), fk_al E n3 7 tk, fk_al E n4 7 pu] 10 [(0, .ref r0), (1, .ref n0), (2, .int (nI i))] [.int (nI (fs_ens O me (sn i)))]
  refine fk_istore_n (lv' := [(0, .ref r0), (1, .ref n0), (2, .int (nI i)), (3, .int (nI (fs_ens O me (sn i))))]) d_Re_addNextOf_10 rfl (Nat.le_of_ble_eq_true rfl) [1, 2, 3, 0] rfl ?_
  refine fk_aload_n 0 d_Re_addNextOf_11 rfl ?_
  refine fk_dup d_Re_addNextOf_12 rfl ?_
  refine fk_get 0 5 rfl rfl fh_Re (Nat.le_of_ble_eq_true rfl) fw_107 rfl d_Re_addNextOf_13 ?_
  refine fk_iload_n 3 d_Re_addNextOf_16 rfl ?_
  refine fk_ior (a := ev) (b := (fs_ens O me (sn i))) d_Re_addNextOf_17 ?_
  refine fk_put (w' := [(r0, .inr (4, [.ref r1, .ref r2, .ref r3, .ref r4, .int (nI c), .int (nI (ev ||| (fs_ens O me (sn i))))])), fk_al E r1 200 sn, fk_aj E r2 512 sl, fk_aj E r3 1400 nx, (n0, .inr (2, [.ref n1, .ref n2, .ref n3, .ref n4, .int (nI cnt), .int (nI fi), .int (nI la), .int (nI lo), .int (nI me)])), fk_al E n3 7 tk, fk_al E n4 7 pu]) 0 5 fT_Re fT_Re_ok fT_Re_nm rfl rfl fh_Re (Nat.le_of_ble_eq_true rfl) fw_107 rfl (fT_Re_ok 5 (Nat.le_of_ble_eq_true rfl)) rfl rfl (Nat.le_of_ble_eq_true rfl) d_Re_addNextOf_18 rfl ?_
  refine fk_iconst (v := nI 0) d_Re_addNextOf_21 (by decide +kernel) ?_
  refine fk_istore (lv' := [(0, .ref r0), (1, .ref n0), (2, .int (nI i)), (3, .int (nI (fs_ens O me (sn i)))), (4, .int (nI 0))]) d_Re_addNextOf_22 (Nat.le_of_ble_eq_true rfl) [1, 2, 3, 4, 0] rfl ?_
  have L24 : ∀ (fuel : Nat) (a : Nat) (c1 : Nat) (sn1 : Nat → Nat) (sl1 : Nat → Nat) (nx1 : Nat → Nat), (a ≤ 7) → (fe_Z O I me (7 * i + a) c1 sn1 sl1 nx1) → (c ≤ c1) → (∀ z, z < c → sn1 z = sn z) → 7 - a < fuel → fk_V E (prog_6_method_4_code, fy_Re_addNextOf.cls, 8, fk_rm 2 0 0) K (0, 0) [(r0, .inr (4, [.ref r1, .ref r2, .ref r3, .ref r4, .int (nI c1), .int (nI (ev ||| fs_ens O me (sn i)))])), fk_al E r1 200 sn1, fk_aj E r2 512 sl1, fk_aj E r3 1400 nx1, (n0, .inr (2, [.ref n1, .ref n2, .ref n3, .ref n4, .int (nI cnt), .int (nI fi), .int (nI la), .int (nI lo), .int (nI me)])), fk_al E n3 7 tk, fk_al E n4 7 pu] 24 [(0, .ref r0), (1, .ref n0), (2, .int (nI i)), (3, .int (nI (fs_ens O me (sn i)))), (4, .int (nI a))] [] := by
    intro fuel
    induction fuel with
    | zero => intro a c1 sn1 sl1 nx1 _ _ _ _ hm; exact absurd hm (Nat.not_lt_zero _)
    | succ fuel ih =>
      intro a c1 sn1 sl1 nx1 h0 h1 h2 h3 hm24
      have ih24 := ih
      clear ih
      refine fk_iload 4 d_Re_addNextOf_24 rfl ?_
      refine fk_bipush (v := nI 7) d_Re_addNextOf_26 (by decide +kernel) ?_
      refine fk_icmp_ge (a := a) (b := 7) (by omega) (by omega) d_Re_addNextOf_28 rfl (fun h28t => ?_) (fun h28f => ?_)
      · refine fk_iconst (v := nI 1) d_Re_addNextOf_106 (by decide +kernel) ?_
        refine fk_top (fn_rt (b := true) (by first | assumption | (simp; omega) | simp_all | (simp_all; omega))) ?_
        exact hret (0, 0) _ 107 _ (true, c1, sn1, sl1, nx1) d_Re_addNextOf_107 (⟨fun _ => ⟨by rw [show 7 * (i + 1) = 7 * i + a by omega]; exact h1, h2, h3⟩, fun q => absurd (show true = false from q) (by decide)⟩) (rfl)
      · have g1 : (fs_ens O me (sn i)).testBit a = fs_en O me (sn1 i) a := by rw [h3 i hi]; exact fe_en_bit h28f
        have g4 := h1.2.1.1
        refine fk_iconst (v := nI 0 - 1) d_Re_addNextOf_31 (by decide +kernel) ?_
        refine fk_istore (lv' := [(0, .ref r0), (1, .ref n0), (2, .int (nI i)), (3, .int (nI (fs_ens O me (sn i)))), (4, .int (nI a)), (5, .int (nI 0 - 1))]) d_Re_addNextOf_32 (Nat.le_of_ble_eq_true rfl) [1, 2, 3, 4, 5, 0] rfl ?_
        refine fk_iload 4 d_Re_addNextOf_34 rfl ?_
        refine fk_iload_n 3 d_Re_addNextOf_36 rfl ?_
        refine fk_callSN (As := [.int (nI a), .int (nI (fs_ens O me (sn i)))]) (rest := []) (is := []) (ir := [0, 1, 2, 3, 4, 5, 6]) (ip := [0, 1, 2, 3, 4, 5, 6]) (wc := []) (wr := [(r0, .inr (4, [.ref r1, .ref r2, .ref r3, .ref r4, .int (nI c1), .int (nI (ev ||| fs_ens O me (sn i)))])), fk_al E r1 200 sn1, fk_aj E r2 512 sl1, fk_aj E r3 1400 nx1, (n0, .inr (2, [.ref n1, .ref n2, .ref n3, .ref n4, .int (nI cnt), .int (nI fi), .int (nI la), .int (nI lo), .int (nI me)])), fk_al E n3 7 tk, fk_al E n4 7 pu]) (w2 := fun _ => [(r0, .inr (4, [.ref r1, .ref r2, .ref r3, .ref r4, .int (nI c1), .int (nI (ev ||| fs_ens O me (sn i)))])), fk_al E r1 200 sn1, fk_aj E r2 512 sl1, fk_aj E r3 1400 nx1, (n0, .inr (2, [.ref n1, .ref n2, .ref n3, .ref n4, .int (nI cnt), .int (nI fi), .int (nI la), .int (nI lo), .int (nI me)])), fk_al E n3 7 tk, fk_al E n4 7 pu]) (cF_isIn E a (fs_ens O me (sn i)) (by first | omega | assumption) (by first | omega | assumption)) d_Re_addNextOf_37 fz_F_isIn fw_403 fw_223 ⟨Nat.le_of_ble_eq_true rfl, Nat.le_of_ble_eq_true rfl⟩ rfl (Nat.le_of_ble_eq_true rfl) ⟨Nat.zero_le _, Nat.zero_le _⟩ ⟨rfl, rfl, rfl, rfl, by decide, fun _ => rfl, rfl⟩ (fun u hu37 => ?_)
        show fk_V E _ K (0, 0) [(r0, .inr (4, [.ref r1, .ref r2, .ref r3, .ref r4, .int (nI c1), .int (nI (ev ||| fs_ens O me (sn i)))])), fk_al E r1 200 sn1, fk_aj E r2 512 sl1, fk_aj E r3 1400 nx1, (n0, .inr (2, [.ref n1, .ref n2, .ref n3, .ref n4, .int (nI cnt), .int (nI fi), .int (nI la), .int (nI lo), .int (nI me)])), fk_al E n3 7 tk, fk_al E n4 7 pu] 40 [(0, .ref r0), (1, .ref n0), (2, .int (nI i)), (3, .int (nI (fs_ens O me (sn i)))), (4, .int (nI a)), (5, .int (nI 0 - 1))] [.int (nI (Bool.toNat (Nat.testBit (fs_ens O me (sn i)) a)))]
        refine fk_if_eqB (b := (Nat.testBit (fs_ens O me (sn i)) a)) d_Re_addNextOf_40 rfl (fun h40t => ?_) (fun h40f => ?_)
        · have g2 := g1.symm.trans h40t
          refine fk_aload_n 0 d_Re_addNextOf_86 rfl ?_
          refine fk_get 0 2 rfl rfl fh_Re (Nat.le_of_ble_eq_true rfl) fw_104 rfl d_Re_addNextOf_87 ?_
          refine fk_iload_n 2 d_Re_addNextOf_90 rfl ?_
          refine fk_bipush (v := nI 7) d_Re_addNextOf_91 (by decide +kernel) ?_
          refine fk_imul (a := i) (b := 7) d_Re_addNextOf_93 ?_
          refine fk_iload 4 d_Re_addNextOf_94 rfl ?_
          refine fk_iadd (a := (i * 7)) (b := a) d_Re_addNextOf_96 ?_
          refine fk_top (show (nI ((i * 7) + a)) = (nI (7 * i + a)) from congrArg nI (by omega)) ?_
          refine fk_iload 5 d_Re_addNextOf_97 rfl ?_
          refine fk_st_aj (i := (7 * i + a)) (x := 0) (w' := [(r0, .inr (4, [.ref r1, .ref r2, .ref r3, .ref r4, .int (nI c1), .int (nI (ev ||| fs_ens O me (sn i)))])), fk_al E r1 200 sn1, fk_aj E r2 512 sl1, fk_aj E r3 1400 (va_up nx1 (7 * i + a) 0), (n0, .inr (2, [.ref n1, .ref n2, .ref n3, .ref n4, .int (nI cnt), .int (nI fi), .int (nI la), .int (nI lo), .int (nI me)])), fk_al E n3 7 tk, fk_al E n4 7 pu]) 3 rfl (by omega) (by decide) d_Re_addNextOf_99 rfl ?_
          refine fk_iinc (j := 4) (lv' := [(0, .ref r0), (1, .ref n0), (2, .int (nI i)), (3, .int (nI (fs_ens O me (sn i)))), (4, .int (nI (a + 1))), (5, .int (nI 0 - 1))]) (a + 1) d_Re_addNextOf_100 rfl (nI_1 a) (Nat.le_of_ble_eq_true rfl) [1, 2, 3, 4, 0, 5] rfl ?_
          refine fk_goto d_Re_addNextOf_103 rfl ?_
          refine fk_lv (lv' := [(0, .ref r0), (1, .ref n0), (2, .int (nI i)), (3, .int (nI (fs_ens O me (sn i)))), (4, .int (nI (a + 1)))]) [0, 1, 2, 3, 4] rfl ?_
          refine ih24 _ _ _ _ _ ?_ ?_ ?_ ?_ ?_
          · first | omega | assumption | exact Nat.zero_le _
          · rw [← Nat.add_assoc]
            first | exact g9.1 | exact ⟨fe_R_no h1.1 h28f (by omega) g2, h1.2⟩
          · first | exact h2 | exact Nat.le_trans h2 g9.2.1
          · first | exact h3 | exact fun z hz => (g9.2.2 z (by omega)).trans (h3 z hz)
          · omega
        · have g2 := g1.symm.trans h40f
          have g5 := (h1.2.1.2.1 i (by omega)).1
          have g6 := (fe_fire8 (O := O) (I := I) (a := a) (h1.2.1.2.1 i (by omega)).2).2
          refine fk_aload_n 1 d_Re_addNextOf_43 rfl ?_
          refine fk_aload_n 0 d_Re_addNextOf_44 rfl ?_
          refine fk_get 0 0 rfl rfl fh_Re (Nat.le_of_ble_eq_true rfl) fw_102 rfl d_Re_addNextOf_45 ?_
          refine fk_iload_n 2 d_Re_addNextOf_48 rfl ?_
          refine fk_ld_al (i := i) 1 rfl (by omega) (by decide) d_Re_addNextOf_49 ?_
          refine fk_iload 4 d_Re_addNextOf_50 rfl ?_
          refine fk_callV (q0 := 4) (As := [.long (lN (sn1 i)), .int (nI a)]) (rest := []) (is := [4, 5, 6]) (ir := [0, 1, 2, 3]) (ip := [0, 1, 2, 3, 4, 5, 6]) (wc := [(n0, .inr (2, [.ref n1, .ref n2, .ref n3, .ref n4, .int (nI cnt), .int (nI fi), .int (nI la), .int (nI lo), .int (nI me)])), fk_al E n3 7 tk, fk_al E n4 7 pu]) (wr := [(r0, .inr (4, [.ref r1, .ref r2, .ref r3, .ref r4, .int (nI c1), .int (nI (ev ||| fs_ens O me (sn i)))])), fk_al E r1 200 sn1, fk_aj E r2 512 sl1, fk_aj E r3 1400 nx1]) (w2 := fun _ => [(r0, .inr (4, [.ref r1, .ref r2, .ref r3, .ref r4, .int (nI c1), .int (nI (ev ||| fs_ens O me (sn i)))])), fk_al E r1 200 sn1, fk_aj E r2 512 sl1, fk_aj E r3 1400 nx1, (n0, .inr (2, [.ref n1, .ref n2, .ref n3, .ref n4, .int (nI cnt), .int (nI fi), .int (nI la), .int (nI lo), .int (nI me)])), fk_al E n3 7 tk, fk_al E n4 7 pu]) (cN_afterFiring E n0 n1 n2 n3 n4 cnt fi la lo me tk pu O I (sn1 i) a g5 (by first | omega | assumption) hk hu (fs_en_can g2)) d_Re_addNextOf_52 fz_Nt_afterFiring fw_404 rfl rfl fw_376 fw_377 ⟨Nat.le_of_ble_eq_true rfl, Nat.le_of_ble_eq_true rfl⟩ rfl (Nat.le_of_ble_eq_true rfl) ⟨Nat.zero_le _, Nat.zero_le _⟩ ⟨rfl, rfl, rfl, rfl, by decide, fun _ => rfl, rfl⟩ (fun u hu52 => ?_)
          show fk_V E _ K (0, 0) [(r0, .inr (4, [.ref r1, .ref r2, .ref r3, .ref r4, .int (nI c1), .int (nI (ev ||| fs_ens O me (sn i)))])), fk_al E r1 200 sn1, fk_aj E r2 512 sl1, fk_aj E r3 1400 nx1, (n0, .inr (2, [.ref n1, .ref n2, .ref n3, .ref n4, .int (nI cnt), .int (nI fi), .int (nI la), .int (nI lo), .int (nI me)])), fk_al E n3 7 tk, fk_al E n4 7 pu] 55 [(0, .ref r0), (1, .ref n0), (2, .int (nI i)), (3, .int (nI (fs_ens O me (sn i)))), (4, .int (nI a)), (5, .int (nI 0 - 1))] [.long (lN (fs_fire O I (sn1 i) a))]
          refine fk_lstore (lv' := [(0, .ref r0), (1, .ref n0), (2, .int (nI i)), (3, .int (nI (fs_ens O me (sn i)))), (4, .int (nI a)), (5, .int (nI 0 - 1)), (6, .long (lN (fs_fire O I (sn1 i) a)))]) d_Re_addNextOf_55 (Nat.le_of_ble_eq_true rfl) [1, 2, 3, 4, 5, 6, 0] rfl ?_
          refine fk_lload 6 d_Re_addNextOf_57 rfl ?_
          refine fk_ldc2 (v := (-8608480567731124088 : Int64)) d_Re_addNextOf_59 fw_405 ?_
          refine fk_topl (show (-8608480567731124088 : Int64) = lN 9838263505978427528 by decide +kernel) ?_
          refine fk_landR d_Re_addNextOf_62 ?_
          refine fk_topl (show lN (fs_fire O I (sn1 i) a) &&& lN 9838263505978427528 = lN ((fs_fire O I (sn1 i) a) &&& 9838263505978427528) from fn_land (g6) (by decide)) ?_
          refine fk_lconst (v := lN 0) d_Re_addNextOf_63 rfl ?_
          refine fk_lcmpR d_Re_addNextOf_64 ?_
          refine fk_cmp_eq (a := ((fs_fire O I (sn1 i) a) &&& 9838263505978427528)) (b := 0) (Nat.lt_of_le_of_lt Nat.and_le_left g6) (by decide) d_Re_addNextOf_65 rfl (fun h65t => ?_) (fun h65f => ?_)
          · have g7 := (fe_w8_and g6).mp h65t
            refine fk_aload_n 0 d_Re_addNextOf_70 rfl ?_
            refine fk_lload 6 d_Re_addNextOf_71 rfl ?_
            refine fk_callV (q0 := 0) (As := [.long (lN (fs_fire O I (sn1 i) a))]) (rest := []) (is := [0, 1, 2]) (ir := [3, 4, 5, 6]) (ip := [4, 5, 6, 0, 1, 2, 3]) (wc := [(r0, .inr (4, [.ref r1, .ref r2, .ref r3, .ref r4, .int (nI c1), .int (nI (ev ||| fs_ens O me (sn i)))])), fk_al E r1 200 sn1, fk_aj E r2 512 sl1]) (wr := [fk_aj E r3 1400 nx1, (n0, .inr (2, [.ref n1, .ref n2, .ref n3, .ref n4, .int (nI cnt), .int (nI fi), .int (nI la), .int (nI lo), .int (nI me)])), fk_al E n3 7 tk, fk_al E n4 7 pu]) (w2 := fun u => [(r0, .inr (4, [.ref r1, .ref r2, .ref r3, .ref r4, .int (nI u.2.1), .int (nI (ev ||| fs_ens O me (sn i)))])), fk_al E r1 200 u.2.2.1, fk_aj E r2 512 u.2.2.2, fk_aj E r3 1400 nx1, (n0, .inr (2, [.ref n1, .ref n2, .ref n3, .ref n4, .int (nI cnt), .int (nI fi), .int (nI la), .int (nI lo), .int (nI me)])), fk_al E n3 7 tk, fk_al E n4 7 pu]) (cR_indexOf E r0 r1 r2 r3 r4 c1 (ev ||| fs_ens O me (sn i)) sn1 sl1 (fs_fire O I (sn1 i) a) g6 h1.2.1 h1.2.2) d_Re_addNextOf_73 fz_Re_indexOf fw_389 rfl rfl fw_391 fw_p8 ⟨Nat.le_of_ble_eq_true rfl, Nat.le_of_ble_eq_true rfl⟩ rfl (Nat.le_of_ble_eq_true rfl) ⟨Nat.zero_le _, Nat.zero_le _⟩ ⟨rfl, rfl, rfl, rfl, by decide, fun _ => rfl, rfl⟩ (fun u hu73 => ?_)
            obtain ⟨rr_73, c9_73, sn9_73, sl9_73⟩ := u
            have hq73 : (fe_find sn1 (fs_fire O I (sn1 i) a) c1 < c1 → rr_73 = fe_find sn1 (fs_fire O I (sn1 i) a) c1 + 1 ∧ c9_73 = c1 ∧ sn9_73 = sn1 ∧ sl9_73 = sl1) ∧ (¬ fe_find sn1 (fs_fire O I (sn1 i) a) c1 < c1 → (c1 = 200 → rr_73 = 0) ∧ (c1 < 200 → rr_73 = c1 + 1 ∧ c9_73 = c1 + 1 ∧ sn9_73 = va_up sn1 c1 (fs_fire O I (sn1 i) a) ∧ fe_H (c1 + 1) (va_up sn1 c1 (fs_fire O I (sn1 i) a)) sl9_73)) := hu73
            show fk_V E _ K (0, 0) [(r0, .inr (4, [.ref r1, .ref r2, .ref r3, .ref r4, .int (nI c9_73), .int (nI (ev ||| fs_ens O me (sn i)))])), fk_al E r1 200 sn9_73, fk_aj E r2 512 sl9_73, fk_aj E r3 1400 nx1, (n0, .inr (2, [.ref n1, .ref n2, .ref n3, .ref n4, .int (nI cnt), .int (nI fi), .int (nI la), .int (nI lo), .int (nI me)])), fk_al E n3 7 tk, fk_al E n4 7 pu] 76 [(0, .ref r0), (1, .ref n0), (2, .int (nI i)), (3, .int (nI (fs_ens O me (sn i)))), (4, .int (nI a)), (5, .int (nI 0 - 1)), (6, .long (lN (fs_fire O I (sn1 i) a)))] [.int (nI rr_73 - 1)]
            have g8 : rr_73 < 2 ^ 31 := by
              by_cases q : fe_find sn1 (fs_fire O I (sn1 i) a) c1 < c1
              · have := (hq73.1 q).1
                omega
              · rcases Nat.lt_or_ge c1 200 with z | z
                · have := ((hq73.2 q).2 z).1
                  omega
                · have := (hq73.2 q).1 (by omega)
                  omega
            refine fk_istore (lv' := [(0, .ref r0), (1, .ref n0), (2, .int (nI i)), (3, .int (nI (fs_ens O me (sn i)))), (4, .int (nI a)), (5, .int (nI rr_73 - 1)), (6, .long (lN (fs_fire O I (sn1 i) a)))]) d_Re_addNextOf_76 (Nat.le_of_ble_eq_true rfl) [1, 2, 3, 4, 5, 0, 6] rfl ?_
            refine fk_iload 5 d_Re_addNextOf_78 rfl ?_
            refine fk_iconst (v := nI 0 - 1) d_Re_addNextOf_80 (by decide +kernel) ?_
            refine fk_icmp_neJ (a := rr_73) (b := 0) (by omega) (by omega) d_Re_addNextOf_81 rfl (fun h81t => ?_) (fun h81f => ?_)
            · have g9 := fe_ix_use h1 h28f (by omega) g2 g7 hq73 h81t
              refine fk_aload_n 0 d_Re_addNextOf_86 rfl ?_
              refine fk_get 0 2 rfl rfl fh_Re (Nat.le_of_ble_eq_true rfl) fw_104 rfl d_Re_addNextOf_87 ?_
              refine fk_iload_n 2 d_Re_addNextOf_90 rfl ?_
              refine fk_bipush (v := nI 7) d_Re_addNextOf_91 (by decide +kernel) ?_
              refine fk_imul (a := i) (b := 7) d_Re_addNextOf_93 ?_
              refine fk_iload 4 d_Re_addNextOf_94 rfl ?_
              refine fk_iadd (a := (i * 7)) (b := a) d_Re_addNextOf_96 ?_
              refine fk_top (show (nI ((i * 7) + a)) = (nI (7 * i + a)) from congrArg nI (by omega)) ?_
              refine fk_iload 5 d_Re_addNextOf_97 rfl ?_
              refine fk_st_aj (i := (7 * i + a)) (x := rr_73) (w' := [(r0, .inr (4, [.ref r1, .ref r2, .ref r3, .ref r4, .int (nI c9_73), .int (nI (ev ||| fs_ens O me (sn i)))])), fk_al E r1 200 sn9_73, fk_aj E r2 512 sl9_73, fk_aj E r3 1400 (va_up nx1 (7 * i + a) rr_73), (n0, .inr (2, [.ref n1, .ref n2, .ref n3, .ref n4, .int (nI cnt), .int (nI fi), .int (nI la), .int (nI lo), .int (nI me)])), fk_al E n3 7 tk, fk_al E n4 7 pu]) 3 rfl (by omega) (by decide) d_Re_addNextOf_99 rfl ?_
              refine fk_iinc (j := 4) (lv' := [(0, .ref r0), (1, .ref n0), (2, .int (nI i)), (3, .int (nI (fs_ens O me (sn i)))), (4, .int (nI (a + 1))), (5, .int (nI rr_73 - 1)), (6, .long (lN (fs_fire O I (sn1 i) a)))]) (a + 1) d_Re_addNextOf_100 rfl (nI_1 a) (Nat.le_of_ble_eq_true rfl) [1, 2, 3, 4, 0, 5, 6] rfl ?_
              refine fk_goto d_Re_addNextOf_103 rfl ?_
              refine fk_lv (lv' := [(0, .ref r0), (1, .ref n0), (2, .int (nI i)), (3, .int (nI (fs_ens O me (sn i)))), (4, .int (nI (a + 1)))]) [0, 1, 2, 3, 4] rfl ?_
              refine ih24 _ _ _ _ _ ?_ ?_ ?_ ?_ ?_
              · first | omega | assumption | exact Nat.zero_le _
              · rw [← Nat.add_assoc]
                first | exact g9.1 | exact ⟨fe_R_no h1.1 h28f (by omega) g2, h1.2⟩
              · first | exact h2 | exact Nat.le_trans h2 g9.2.1
              · first | exact h3 | exact fun z hz => (g9.2.2 z (by omega)).trans (h3 z hz)
              · omega
            · refine fk_iconst (v := nI 0) d_Re_addNextOf_84 (by decide +kernel) ?_
              refine fk_top (fn_rf (b := false) (by first | assumption | (simp; omega) | simp_all | (simp_all; omega))) ?_
              exact hret (0, 0) _ 85 _ (false, c9_73, sn9_73, sl9_73, nx1) d_Re_addNextOf_85 (⟨fun q => absurd (show false = true from q) (by decide), fun _ => fe_ix_0 h1 h28f (by omega) g2 hq73 h81f⟩) (rfl)
          · have g7 := fe_w8_ne g6 h65f
            refine fk_iconst (v := nI 0) d_Re_addNextOf_68 (by decide +kernel) ?_
            refine fk_top (fn_rf (b := false) (by first | assumption | (simp; omega) | simp_all | (simp_all; omega))) ?_
            exact hret (0, 0) _ 69 _ (false, c1, sn1, sl1, nx1) d_Re_addNextOf_69 (⟨fun q => absurd (show false = true from q) (by decide), fun _ => fe_R_wide h1.1 h28f (by omega) g2 (fe_w8_new h1.2.1 g7) (Or.inl g7) (by omega)⟩) (rfl)
  refine L24 _ _ _ _ _ _ ?_ ?_ ?_ ?_ (Nat.lt_succ_self _)
  · first | omega | assumption | exact Nat.zero_le _
  · exact hZ
  · first | omega | assumption | exact Nat.zero_le _
  · exact fun _ _ => rfl
theorem d_Re_explore_0 : decode prog_6_method_3_code 0 = .ok (.aload_n 0, 1) := by decide +kernel
theorem d_Re_explore_1 : decode prog_6_method_3_code 1 = .ok (.iconst 0, 1) := by decide +kernel
theorem d_Re_explore_2 : decode prog_6_method_3_code 2 = .ok (.putfield 26, 3) := by decide +kernel
theorem d_Re_explore_5 : decode prog_6_method_3_code 5 = .ok (.aload_n 0, 1) := by decide +kernel
theorem d_Re_explore_6 : decode prog_6_method_3_code 6 = .ok (.iconst 0, 1) := by decide +kernel
theorem d_Re_explore_7 : decode prog_6_method_3_code 7 = .ok (.putfield 30, 3) := by decide +kernel
theorem d_Re_explore_10 : decode prog_6_method_3_code 10 = .ok (.aload_n 0, 1) := by decide +kernel
theorem d_Re_explore_11 : decode prog_6_method_3_code 11 = .ok (.getfield 15, 3) := by decide +kernel
theorem d_Re_explore_14 : decode prog_6_method_3_code 14 = .ok (.iconst (-1), 1) := by decide +kernel
theorem d_Re_explore_15 : decode prog_6_method_3_code 15 = .ok (.invokestatic 33, 3) := by decide +kernel
theorem d_Re_explore_18 : decode prog_6_method_3_code 18 = .ok (.aload_n 0, 1) := by decide +kernel
theorem d_Re_explore_19 : decode prog_6_method_3_code 19 = .ok (.lconst 1, 1) := by decide +kernel
theorem d_Re_explore_20 : decode prog_6_method_3_code 20 = .ok (.invokevirtual 39, 3) := by decide +kernel
theorem d_Re_explore_23 : decode prog_6_method_3_code 23 = .ok (.pop, 1) := by decide +kernel
theorem d_Re_explore_24 : decode prog_6_method_3_code 24 = .ok (.iconst 0, 1) := by decide +kernel
theorem d_Re_explore_25 : decode prog_6_method_3_code 25 = .ok (.istore_n 2, 1) := by decide +kernel
theorem d_Re_explore_26 : decode prog_6_method_3_code 26 = .ok (.iload_n 2, 1) := by decide +kernel
theorem d_Re_explore_27 : decode prog_6_method_3_code 27 = .ok (.sipush 200, 3) := by decide +kernel
theorem d_Re_explore_30 : decode prog_6_method_3_code 30 = .ok (.if_icmp .ge 28, 3) := by decide +kernel
theorem d_Re_explore_33 : decode prog_6_method_3_code 33 = .ok (.iload_n 2, 1) := by decide +kernel
theorem d_Re_explore_34 : decode prog_6_method_3_code 34 = .ok (.aload_n 0, 1) := by decide +kernel
theorem d_Re_explore_35 : decode prog_6_method_3_code 35 = .ok (.getfield 26, 3) := by decide +kernel
theorem d_Re_explore_38 : decode prog_6_method_3_code 38 = .ok (.if_icmp .ge 20, 3) := by decide +kernel
theorem d_Re_explore_41 : decode prog_6_method_3_code 41 = .ok (.aload_n 0, 1) := by decide +kernel
theorem d_Re_explore_42 : decode prog_6_method_3_code 42 = .ok (.aload_n 1, 1) := by decide +kernel
theorem d_Re_explore_43 : decode prog_6_method_3_code 43 = .ok (.iload_n 2, 1) := by decide +kernel
theorem d_Re_explore_44 : decode prog_6_method_3_code 44 = .ok (.invokevirtual 43, 3) := by decide +kernel
theorem d_Re_explore_47 : decode prog_6_method_3_code 47 = .ok (.ifCond .ne 5, 3) := by decide +kernel
theorem d_Re_explore_50 : decode prog_6_method_3_code 50 = .ok (.iconst 0, 1) := by decide +kernel
theorem d_Re_explore_51 : decode prog_6_method_3_code 51 = .ok (.ireturn, 1) := by decide +kernel
theorem d_Re_explore_52 : decode prog_6_method_3_code 52 = .ok (.iinc 2 1, 3) := by decide +kernel
theorem d_Re_explore_55 : decode prog_6_method_3_code 55 = .ok (.goto (-29), 3) := by decide +kernel
theorem d_Re_explore_58 : decode prog_6_method_3_code 58 = .ok (.iconst 1, 1) := by decide +kernel
theorem d_Re_explore_59 : decode prog_6_method_3_code 59 = .ok (.ireturn, 1) := by decide +kernel
set_option maxRecDepth 20000 in
set_option maxHeartbeats 4000000 in
theorem cR_explore (E : fk_E) (r0 : Nat) (r1 : Nat) (r2 : Nat) (r3 : Nat) (r4 : Nat) (c : Nat) (ev : Nat) (n0 : Nat) (n1 : Nat) (n2 : Nat) (n3 : Nat) (n4 : Nat) (cnt : Nat) (fi : Nat) (la : Nat) (lo : Nat) (me : Nat) (sn : Nat → Nat) (sl : Nat → Nat) (nx : Nat → Nat) (tk : Nat → Nat) (pu : Nat → Nat) (O : Nat → Nat) (I : Nat → Nat) (hm : me < 128) (hk : ∀ a, a < 7 → tk a = fm_mk (fs_tak O a)) (hu : ∀ a, a < 7 → pu a = fm_mk (fs_tak I a)) : fk_C E fy_Re_explore prog_6_method_3_code 3 (some .boolean) 3 0 0 [.ref r0, .ref n0] [(r0, .inr (4, [.ref r1, .ref r2, .ref r3, .ref r4, .int (nI c), .int (nI ev)])), fk_al E r1 200 sn, fk_aj E r2 512 sl, fk_aj E r3 1400 nx, (n0, .inr (2, [.ref n1, .ref n2, .ref n3, .ref n4, .int (nI cnt), .int (nI fi), .int (nI la), .int (nI lo), .int (nI me)])), fk_al E n3 7 tk, fk_al E n4 7 pu] (S := Bool × Nat × Nat × (Nat → Nat) × (Nat → Nat) × (Nat → Nat)) (fun (u : Bool × Nat × Nat × (Nat → Nat) × (Nat → Nat) × (Nat → Nat)) => some (.int (nI (Bool.toNat u.1)))) (fun (u : Bool × Nat × Nat × (Nat → Nat) × (Nat → Nat) × (Nat → Nat)) => (u.1 = true → fe_F O I me u.2.1 u.2.2.2.1 u.2.2.2.2.2 u.2.2.1 ∧ fe_V u.2.1 u.2.2.2.1) ∧ (u.1 = false → (fe_run O I me 1400).2.2.2 = true)) (fun (u : Bool × Nat × Nat × (Nat → Nat) × (Nat → Nat) × (Nat → Nat)) => [(r0, .inr (4, [.ref r1, .ref r2, .ref r3, .ref r4, .int (nI u.2.1), .int (nI u.2.2.1)])), fk_al E r1 200 u.2.2.2.1, fk_aj E r2 512 u.2.2.2.2.1, fk_aj E r3 1400 u.2.2.2.2.2, (n0, .inr (2, [.ref n1, .ref n2, .ref n3, .ref n4, .int (nI cnt), .int (nI fi), .int (nI la), .int (nI lo), .int (nI me)])), fk_al E n3 7 tk, fk_al E n4 7 pu]) := by
  refine fk_enterZ (v := fun (u : Bool × Nat × Nat × (Nat → Nat) × (Nat → Nat) × (Nat → Nat)) => u.1) (by decide) (Nat.le_of_ble_eq_true rfl) (lv0 := [(0, .ref r0), (1, .ref n0)]) rfl ?_
  intro K hini hret
  refine fk_aload_n 0 d_Re_explore_0 rfl ?_
  refine fk_iconst (v := nI 0) d_Re_explore_1 (by decide +kernel) ?_
  refine fk_put (w' := [(r0, .inr (4, [.ref r1, .ref r2, .ref r3, .ref r4, .int (nI 0), .int (nI ev)])), fk_al E r1 200 sn, fk_aj E r2 512 sl, fk_aj E r3 1400 nx, (n0, .inr (2, [.ref n1, .ref n2, .ref n3, .ref n4, .int (nI cnt), .int (nI fi), .int (nI la), .int (nI lo), .int (nI me)])), fk_al E n3 7 tk, fk_al E n4 7 pu]) 0 4 fT_Re fT_Re_ok fT_Re_nm rfl rfl fh_Re (Nat.le_of_ble_eq_true rfl) fw_106 rfl (fT_Re_ok 4 (Nat.le_of_ble_eq_true rfl)) rfl rfl (Nat.le_of_ble_eq_true rfl) d_Re_explore_2 rfl ?_
  refine fk_aload_n 0 d_Re_explore_5 rfl ?_
  refine fk_iconst (v := nI 0) d_Re_explore_6 (by decide +kernel) ?_
  refine fk_put (w' := [(r0, .inr (4, [.ref r1, .ref r2, .ref r3, .ref r4, .int (nI 0), .int (nI 0)])), fk_al E r1 200 sn, fk_aj E r2 512 sl, fk_aj E r3 1400 nx, (n0, .inr (2, [.ref n1, .ref n2, .ref n3, .ref n4, .int (nI cnt), .int (nI fi), .int (nI la), .int (nI lo), .int (nI me)])), fk_al E n3 7 tk, fk_al E n4 7 pu]) 0 5 fT_Re fT_Re_ok fT_Re_nm rfl rfl fh_Re (Nat.le_of_ble_eq_true rfl) fw_107 rfl (fT_Re_ok 5 (Nat.le_of_ble_eq_true rfl)) rfl rfl (Nat.le_of_ble_eq_true rfl) d_Re_explore_7 rfl ?_
  refine fk_aload_n 0 d_Re_explore_10 rfl ?_
  refine fk_get 0 1 rfl rfl fh_Re (Nat.le_of_ble_eq_true rfl) fw_103 rfl d_Re_explore_11 ?_
  refine fk_iconst (v := nI 0 - 1) d_Re_explore_14 (by decide +kernel) ?_
  refine fk_callS (As := [.ref r2, .int (nI 0 - 1)]) (rest := []) (is := [2]) (ir := [0, 1, 3, 4, 5, 6]) (ip := [0, 1, 6, 2, 3, 4, 5]) (wc := [fk_aj E r2 512 sl]) (wr := [(r0, .inr (4, [.ref r1, .ref r2, .ref r3, .ref r4, .int (nI 0), .int (nI 0)])), fk_al E r1 200 sn, fk_aj E r3 1400 nx, (n0, .inr (2, [.ref n1, .ref n2, .ref n3, .ref n4, .int (nI cnt), .int (nI fi), .int (nI la), .int (nI lo), .int (nI me)])), fk_al E n3 7 tk, fk_al E n4 7 pu]) (w2 := fun u => [(r0, .inr (4, [.ref r1, .ref r2, .ref r3, .ref r4, .int (nI 0), .int (nI 0)])), fk_al E r1 200 sn, fk_aj E r2 512 u, fk_aj E r3 1400 nx, (n0, .inr (2, [.ref n1, .ref n2, .ref n3, .ref n4, .int (nI cnt), .int (nI fi), .int (nI la), .int (nI lo), .int (nI me)])), fk_al E n3 7 tk, fk_al E n4 7 pu]) (cA_fillM E r2 512 0 sl (by first | omega | assumption)) d_Re_explore_15 fz_Ar_fillI fw_388 fw_189 ⟨Nat.le_of_ble_eq_true rfl, Nat.le_of_ble_eq_true rfl⟩ rfl (Nat.le_of_ble_eq_true rfl) ⟨Nat.zero_le _, Nat.zero_le _⟩ ⟨rfl, rfl, rfl, rfl, by decide, fun _ => rfl, rfl⟩ (fun u hu15 => ?_)
  obtain ⟨g9_15, rfl⟩ : ∃ z, z = u := ⟨_, rfl⟩
  have hq15 : ∀ k, k < 512 → g9_15 k = 0 := hu15
  show fk_V E _ K (0, 0) [(r0, .inr (4, [.ref r1, .ref r2, .ref r3, .ref r4, .int (nI 0), .int (nI 0)])), fk_al E r1 200 sn, fk_aj E r2 512 g9_15, fk_aj E r3 1400 nx, (n0, .inr (2, [.ref n1, .ref n2, .ref n3, .ref n4, .int (nI cnt), .int (nI fi), .int (nI la), .int (nI lo), .int (nI me)])), fk_al E n3 7 tk, fk_al E n4 7 pu] 18 [(0, .ref r0), (1, .ref n0)] []
  refine fk_aload_n 0 d_Re_explore_18 rfl ?_
  refine fk_lconst (v := lN 1) d_Re_explore_19 rfl ?_
  refine fk_callV (q0 := 0) (As := [.long (lN 1)]) (rest := []) (is := [0, 1, 2]) (ir := [3, 4, 5, 6]) (ip := [4, 5, 6, 0, 1, 2, 3]) (wc := [(r0, .inr (4, [.ref r1, .ref r2, .ref r3, .ref r4, .int (nI 0), .int (nI 0)])), fk_al E r1 200 sn, fk_aj E r2 512 g9_15]) (wr := [fk_aj E r3 1400 nx, (n0, .inr (2, [.ref n1, .ref n2, .ref n3, .ref n4, .int (nI cnt), .int (nI fi), .int (nI la), .int (nI lo), .int (nI me)])), fk_al E n3 7 tk, fk_al E n4 7 pu]) (w2 := fun u => [(r0, .inr (4, [.ref r1, .ref r2, .ref r3, .ref r4, .int (nI u.2.1), .int (nI 0)])), fk_al E r1 200 u.2.2.1, fk_aj E r2 512 u.2.2.2, fk_aj E r3 1400 nx, (n0, .inr (2, [.ref n1, .ref n2, .ref n3, .ref n4, .int (nI cnt), .int (nI fi), .int (nI la), .int (nI lo), .int (nI me)])), fk_al E n3 7 tk, fk_al E n4 7 pu]) (cR_indexOf E r0 r1 r2 r3 r4 0 0 sn g9_15 1 (by decide) (⟨by decide, fun i hi => absurd hi (Nat.not_lt_zero i), fun a ha => absurd ha (Nat.not_lt_zero a)⟩) (fe_H_0 hq15)) d_Re_explore_20 fz_Re_indexOf fw_389 rfl rfl fw_391 fw_p8 ⟨Nat.le_of_ble_eq_true rfl, Nat.le_of_ble_eq_true rfl⟩ rfl (Nat.le_of_ble_eq_true rfl) ⟨Nat.zero_le _, Nat.zero_le _⟩ ⟨rfl, rfl, rfl, rfl, by decide, fun _ => rfl, rfl⟩ (fun u hu20 => ?_)
  obtain ⟨rr_20, c9_20, sn9_20, sl9_20⟩ := u
  have hq20 : (fe_find sn 1 0 < 0 → rr_20 = fe_find sn 1 0 + 1 ∧ c9_20 = 0 ∧ sn9_20 = sn ∧ sl9_20 = g9_15) ∧ (¬ fe_find sn 1 0 < 0 → (0 = 200 → rr_20 = 0) ∧ (0 < 200 → rr_20 = 0 + 1 ∧ c9_20 = 0 + 1 ∧ sn9_20 = va_up sn 0 1 ∧ fe_H (0 + 1) (va_up sn 0 1) sl9_20)) := hu20
  show fk_V E _ K (0, 0) [(r0, .inr (4, [.ref r1, .ref r2, .ref r3, .ref r4, .int (nI c9_20), .int (nI 0)])), fk_al E r1 200 sn9_20, fk_aj E r2 512 sl9_20, fk_aj E r3 1400 nx, (n0, .inr (2, [.ref n1, .ref n2, .ref n3, .ref n4, .int (nI cnt), .int (nI fi), .int (nI la), .int (nI lo), .int (nI me)])), fk_al E n3 7 tk, fk_al E n4 7 pu] 23 [(0, .ref r0), (1, .ref n0)] [.int (nI rr_20 - 1)]
  have g1 := (hq20.2 (Nat.not_lt_zero _)).2 (by decide)
  obtain ⟨e1, e2, e3, e4⟩ := g1
  have g2 : fe_Z O I me (7 * 0) c9_20 sn9_20 sl9_20 nx := by
    rw [e2, e3]
    refine ⟨⟨rfl, rfl, fun i hi => ?_, fun j hj => absurd hj (Nat.not_lt_zero j)⟩, ⟨by decide, fun i hi => ?_, fun a ha b hb _ => by omega⟩, e4⟩
    · rw [show i = 0 by omega, va_up_self]; rfl
    · rw [show i = 0 by omega, va_up_self]; exact ⟨by decide, (by decide +kernel : ∀ j, j < 16 → fm_dg 1 j < 8)⟩
  refine fk_pop d_Re_explore_23 rfl ?_
  refine fk_iconst (v := nI 0) d_Re_explore_24 (by decide +kernel) ?_
  refine fk_istore_n (lv' := [(0, .ref r0), (1, .ref n0), (2, .int (nI 0))]) d_Re_explore_25 rfl (Nat.le_of_ble_eq_true rfl) [1, 2, 0] rfl ?_
  have L26 : ∀ (fuel : Nat) (i : Nat) (c1 : Nat) (ev1 : Nat) (sn1 : Nat → Nat) (sl1 : Nat → Nat) (nx1 : Nat → Nat), (i ≤ c1) → (fe_Z O I me (7 * i) c1 sn1 sl1 nx1) → (ev1 < 128) → (∀ a, ev1.testBit a = fs_any (fun m => (fs_ens O me (sn1 m)).testBit a) i) → 200 - i < fuel → fk_V E (prog_6_method_3_code, fy_Re_explore.cls, 3, fk_rm 3 0 0) K (0, 0) [(r0, .inr (4, [.ref r1, .ref r2, .ref r3, .ref r4, .int (nI c1), .int (nI ev1)])), fk_al E r1 200 sn1, fk_aj E r2 512 sl1, fk_aj E r3 1400 nx1, (n0, .inr (2, [.ref n1, .ref n2, .ref n3, .ref n4, .int (nI cnt), .int (nI fi), .int (nI la), .int (nI lo), .int (nI me)])), fk_al E n3 7 tk, fk_al E n4 7 pu] 26 [(0, .ref r0), (1, .ref n0), (2, .int (nI i))] [] := by
    intro fuel
    induction fuel with
    | zero => intro i c1 ev1 sn1 sl1 nx1 _ _ _ _ hm; exact absurd hm (Nat.not_lt_zero _)
    | succ fuel ih =>
      intro i c1 ev1 sn1 sl1 nx1 h0 h1 h2 h3 hm26
      have ih26 := ih
      clear ih
      have h9 := h1.2.1.1
      refine fk_iload_n 2 d_Re_explore_26 rfl ?_
      refine fk_sipush (v := nI 200) d_Re_explore_27 (by decide +kernel) ?_
      refine fk_icmp_ge (a := i) (b := 200) (by omega) (by omega) d_Re_explore_30 rfl (fun h30t => ?_) (fun h30f => ?_)
      · refine fk_iconst (v := nI 1) d_Re_explore_58 (by decide +kernel) ?_
        refine fk_top (fn_rt (b := true) (by first | assumption | (simp; omega) | simp_all | (simp_all; omega))) ?_
        exact hret (0, 0) _ 59 _ (true, c1, ev1, sn1, sl1, nx1) d_Re_explore_59 (⟨fun _ => fe_F_at h1 (show c1 = i by omega) h2 h3, fun q => absurd (show true = false from q) (by decide)⟩) (rfl)
      · refine fk_iload_n 2 d_Re_explore_33 rfl ?_
        refine fk_aload_n 0 d_Re_explore_34 rfl ?_
        refine fk_get 0 4 rfl rfl fh_Re (Nat.le_of_ble_eq_true rfl) fw_106 rfl d_Re_explore_35 ?_
        refine fk_icmp_ge (a := i) (b := c1) (by omega) (by omega) d_Re_explore_38 rfl (fun h38t => ?_) (fun h38f => ?_)
        · refine fk_iconst (v := nI 1) d_Re_explore_58 (by decide +kernel) ?_
          refine fk_top (fn_rt (b := true) (by first | assumption | (simp; omega) | simp_all | (simp_all; omega))) ?_
          exact hret (0, 0) _ 59 _ (true, c1, ev1, sn1, sl1, nx1) d_Re_explore_59 (⟨fun _ => fe_F_at h1 (show c1 = i by omega) h2 h3, fun q => absurd (show true = false from q) (by decide)⟩) (rfl)
        · refine fk_aload_n 0 d_Re_explore_41 rfl ?_
          refine fk_aload_n 1 d_Re_explore_42 rfl ?_
          refine fk_iload_n 2 d_Re_explore_43 rfl ?_
          refine fk_callV (q0 := 0) (As := [.ref n0, .int (nI i)]) (rest := []) (is := [0, 1, 2, 3, 4, 5, 6]) (ir := []) (ip := [0, 1, 2, 3, 4, 5, 6]) (wc := [(r0, .inr (4, [.ref r1, .ref r2, .ref r3, .ref r4, .int (nI c1), .int (nI ev1)])), fk_al E r1 200 sn1, fk_aj E r2 512 sl1, fk_aj E r3 1400 nx1, (n0, .inr (2, [.ref n1, .ref n2, .ref n3, .ref n4, .int (nI cnt), .int (nI fi), .int (nI la), .int (nI lo), .int (nI me)])), fk_al E n3 7 tk, fk_al E n4 7 pu]) (wr := []) (w2 := fun u => [(r0, .inr (4, [.ref r1, .ref r2, .ref r3, .ref r4, .int (nI u.2.1), .int (nI (ev1 ||| fs_ens O me (sn1 i)))])), fk_al E r1 200 u.2.2.1, fk_aj E r2 512 u.2.2.2.1, fk_aj E r3 1400 u.2.2.2.2, (n0, .inr (2, [.ref n1, .ref n2, .ref n3, .ref n4, .int (nI cnt), .int (nI fi), .int (nI la), .int (nI lo), .int (nI me)])), fk_al E n3 7 tk, fk_al E n4 7 pu]) (cR_addNextOf E r0 r1 r2 r3 r4 c1 ev1 n0 n1 n2 n3 n4 cnt fi la lo me sn1 sl1 nx1 tk pu O I i (by first | omega | assumption) (by first | omega | assumption) (by first | omega | assumption) h1 (by first | omega | assumption) (by first | omega | assumption)) d_Re_explore_44 fz_Re_addNextOf fw_398 rfl rfl fw_400 fw_p10 ⟨Nat.le_of_ble_eq_true rfl, Nat.le_of_ble_eq_true rfl⟩ rfl (Nat.le_of_ble_eq_true rfl) ⟨Nat.zero_le _, Nat.zero_le _⟩ ⟨rfl, rfl, rfl, rfl, by decide, fun _ => rfl, rfl⟩ (fun u hu44 => ?_)
          obtain ⟨bb_44, c9_44, sn9_44, sl9_44, nx9_44⟩ := u
          have hq44 : (bb_44 = true → fe_Z O I me (7 * (i + 1)) c9_44 sn9_44 sl9_44 nx9_44 ∧ c1 ≤ c9_44 ∧ ∀ z, z < c1 → sn9_44 z = sn1 z) ∧ (bb_44 = false → (fe_run O I me (7 * (i + 1))).2.2.2 = true) := hu44
          show fk_V E _ K (0, 0) [(r0, .inr (4, [.ref r1, .ref r2, .ref r3, .ref r4, .int (nI c9_44), .int (nI (ev1 ||| fs_ens O me (sn1 i)))])), fk_al E r1 200 sn9_44, fk_aj E r2 512 sl9_44, fk_aj E r3 1400 nx9_44, (n0, .inr (2, [.ref n1, .ref n2, .ref n3, .ref n4, .int (nI cnt), .int (nI fi), .int (nI la), .int (nI lo), .int (nI me)])), fk_al E n3 7 tk, fk_al E n4 7 pu] 47 [(0, .ref r0), (1, .ref n0), (2, .int (nI i))] [.int (nI (Bool.toNat bb_44))]
          refine fk_if_neB (b := bb_44) d_Re_explore_47 rfl (fun h47t => ?_) (fun h47f => ?_)
          · have g4 := hq44.1 h47t
            refine fk_iinc (j := 2) (lv' := [(0, .ref r0), (1, .ref n0), (2, .int (nI (i + 1)))]) (i + 1) d_Re_explore_52 rfl (nI_1 i) (Nat.le_of_ble_eq_true rfl) [1, 2, 0] rfl ?_
            refine fk_goto d_Re_explore_55 rfl ?_
            refine ih26 _ _ _ _ _ _ ?_ ?_ ?_ ?_ ?_
            · have := g4.2.1
              omega
            · exact g4.1
            · exact fb_or_lt h2 (fs_ens_lt _ _ _)
            · intro a
              rw [Nat.testBit_or, h3 a, fs_any_s, g4.2.2 i h38f]
              congr 1
              exact fs_any_congr (fun j hj => by rw [g4.2.2 j (by omega)])
            · omega
          · refine fk_iconst (v := nI 0) d_Re_explore_50 (by decide +kernel) ?_
            refine fk_top (fn_rf (b := false) (by first | assumption | (simp; omega) | simp_all | (simp_all; omega))) ?_
            exact hret (0, 0) _ 51 _ (false, c9_44, ev1 ||| fs_ens O me (sn1 i), sn9_44, sl9_44, nx9_44) d_Re_explore_51 (⟨fun q => absurd (show false = true from q) (by decide), fun _ => fe_wide_m (hq44.2 h47f) (by omega)⟩) (rfl)
  refine L26 _ _ _ _ _ _ _ ?_ ?_ ?_ ?_ (Nat.lt_succ_self _)
  · first | omega | assumption | exact Nat.zero_le _
  · exact g2
  · decide
  · exact fun a => Nat.zero_testBit a
end
section
/-! which markings can end -/
def fe_ld (nx : Nat → Nat) (en : Nat → Bool) (m : Nat) : Bool := fs_any (fun a => decide (0 < nx (7 * m + a)) && en (nx (7 * m + a) - 1)) 7
def fe_g (s nx : Nat → Nat) : Nat → Nat → Prop
  | 0, m => s m = 16
  | r + 1, m => fe_g s nx r m ∨ ∃ a, a < 7 ∧ 0 < nx (7 * m + a) ∧ fe_g s nx r (nx (7 * m + a) - 1)
def fe_good (s nx : Nat → Nat) (m : Nat) : Prop := ∃ r, fe_g s nx r m
theorem fe_good_0 {s nx : Nat → Nat} {m : Nat} (h : s m = 16) : fe_good s nx m := ⟨0, h⟩
theorem fe_good_s {s nx : Nat → Nat} {m a : Nat} (ha : a < 7) (h0 : 0 < nx (7 * m + a)) (h : fe_good s nx (nx (7 * m + a) - 1)) : fe_good s nx m := by
  obtain ⟨r, hr⟩ := h
  exact ⟨r + 1, Or.inr ⟨a, ha, h0, hr⟩⟩
noncomputable def fe_all (s nx : Nat → Nat) (c : Nat) : Bool := @decide (∀ m, m < c → fe_good s nx m) (Classical.propDecidable _)
theorem fe_all_t {s nx : Nat → Nat} {c : Nat} (h : ∀ m, m < c → fe_good s nx m) : fe_all s nx c = true := @decide_eq_true _ (Classical.propDecidable _) h
theorem fe_all_f {s nx : Nat → Nat} {c m : Nat} (hm : m < c) (h : ¬ fe_good s nx m) : fe_all s nx c = false := @decide_eq_false _ (Classical.propDecidable _) (fun q => h (q m hm))
def fe_ct (en : Nat → Bool) : Nat → Nat
  | 0 => 0
  | n + 1 => fe_ct en n + (en n).toNat
theorem fe_ct_le (en : Nat → Bool) : ∀ n, fe_ct en n ≤ n
  | 0 => Nat.le_refl _
  | n + 1 => by
    have h1 := fe_ct_le en n
    have h2 : (en n).toNat ≤ 1 := by cases en n <;> decide
    show fe_ct en n + (en n).toNat ≤ n + 1
    omega
theorem fe_ct_all {en : Nat → Bool} : ∀ {n : Nat}, fe_ct en n = n ↔ ∀ m, m < n → en m = true
  | 0 => ⟨fun _ m h => absurd h (Nat.not_lt_zero m), fun _ => rfl⟩
  | n + 1 => by
    have h1 := fe_ct_le en n
    show fe_ct en n + (en n).toNat = n + 1 ↔ _
    constructor
    · intro h m hm
      have h2 : (en n).toNat ≤ 1 := by cases en n <;> decide
      rcases Nat.lt_or_ge m n with q | q
      · exact fe_ct_all.mp (by omega) m q
      · rw [show m = n by omega]
        cases z : en n with
        | true => rfl
        | false => rw [z] at h; simp at h; omega
    · intro h
      rw [fe_ct_all.mpr (fun m hm => h m (by omega)), h n (by omega)]
      rfl
theorem fe_ct_0 {en : Nat → Bool} {n : Nat} (h : fe_ct en n = 0) : ∀ m, m < n → en m = false := by
  induction n with
  | zero => exact fun m hm => absurd hm (Nat.not_lt_zero m)
  | succ n ih =>
    have e : fe_ct en (n + 1) = fe_ct en n + (en n).toNat := rfl
    rw [e] at h
    intro m hm
    rcases Nat.lt_or_ge m n with q | q
    · exact ih (by omega) m q
    · rw [show m = n by omega]
      cases z : en n with
      | false => rfl
      | true => rw [z] at h; simp at h
theorem fe_ct_congr {f g : Nat → Bool} : ∀ {n : Nat}, (∀ m, m < n → f m = g m) → fe_ct f n = fe_ct g n
  | 0, _ => rfl
  | n + 1, h => by
    show fe_ct f n + (f n).toNat = fe_ct g n + (g n).toNat
    rw [fe_ct_congr (fun m hm => h m (by omega)), h n (by omega)]
theorem fe_ct_up {en : Nat → Bool} {m : Nat} (h : en m = false) : ∀ {n : Nat}, m < n → fe_ct (va_up en m true) n = fe_ct en n + 1
  | 0, hm => absurd hm (Nat.not_lt_zero m)
  | n + 1, hm => by
    show fe_ct (va_up en m true) n + (va_up en m true n).toNat = fe_ct en n + (en n).toNat + 1
    rcases Nat.lt_or_ge m n with q | q
    · rw [fe_ct_up h q, va_up_ne _ _ (by omega)]
      omega
    · have e : m = n := by omega
      subst e
      rw [va_up_self, h, fe_ct_congr (fun k hk => va_up_ne en true (show k ≠ m by omega))]
      rfl
theorem fe_ct_upn {en : Nat → Bool} {i : Nat} {b : Bool} : fe_ct (va_up en i b) (i + 1) = fe_ct en i + b.toNat := by
  show fe_ct (va_up en i b) i + (va_up en i b i).toNat = _
  rw [va_up_self, fe_ct_congr (fun k hk => va_up_ne en b (show k ≠ i by omega))]
theorem fe_ld_congr {nx : Nat → Nat} {f g : Nat → Bool} {c m : Nat} (hm : m < c) (hn : ∀ j, j < 7 * c → nx j ≤ c) (h : ∀ k, k < c → f k = g k) : fe_ld nx f m = fe_ld nx g m := by
  unfold fe_ld
  refine fs_any_congr (fun a ha => ?_)
  by_cases q : 0 < nx (7 * m + a)
  · have := hn (7 * m + a) (by omega)
    rw [h _ (by omega)]
  · rw [decide_eq_false q, Bool.false_and, Bool.false_and]
/-- one round of spreading -/
def fe_sp (c : Nat) (nx : Nat → Nat) (en : Nat → Bool) (t nw : Nat) (en9 : Nat → Bool) : Prop :=
  (∀ m, m < c → en m = true → en9 m = true) ∧ (∀ P : Nat → Prop, (∀ m, m < c → en m = true → P m) → (∀ m, m < c → ∀ a, a < 7 → 0 < nx (7 * m + a) → P (nx (7 * m + a) - 1) → P m) → ∀ m, m < c → en9 m = true → P m) ∧ fe_ct en9 c = fe_ct en c + nw ∧ (nw = 0 → (∀ m, m < c → en9 m = en m) ∧ ∀ m, t ≤ m → m < c → en m = false → fe_ld nx en m = false)
theorem fe_sp_0 (c : Nat) (nx : Nat → Nat) (en : Nat → Bool) : fe_sp c nx en c 0 en := ⟨fun _ _ h => h, fun _ h _ => h, rfl, fun _ => ⟨fun _ _ => rfl, fun _ _ _ => by omega⟩⟩
theorem fe_sp_no {c t nw : Nat} {nx : Nat → Nat} {en e1 : Nat → Bool} (h : fe_sp c nx en t nw e1) (ht : 0 < t) (htc : t ≤ c) (hn : ∀ j, j < 7 * c → nx j ≤ c) (hx : e1 (t - 1) = true ∨ fe_ld nx e1 (t - 1) = false) : fe_sp c nx en (t - 1) nw e1 := by
  refine ⟨h.1, h.2.1, h.2.2.1, fun z => ⟨(h.2.2.2 z).1, fun m h1 h2 h3 => ?_⟩⟩
  rcases Nat.lt_or_ge m t with q | q
  · have e : m = t - 1 := by omega
    subst e
    rcases hx with hx | hx
    · rw [(h.2.2.2 z).1 _ h2] at hx
      rw [hx] at h3
      exact absurd h3 (by decide)
    · rw [← hx]
      exact fe_ld_congr h2 hn (fun k hk => ((h.2.2.2 z).1 k hk).symm)
  · exact (h.2.2.2 z).2 m q h2 h3
theorem fe_sp_up {c t nw : Nat} {nx : Nat → Nat} {en e1 : Nat → Bool} (h : fe_sp c nx en t nw e1) (ht : 0 < t) (htc : t ≤ c) (hf : e1 (t - 1) = false) (hn : ∀ j, j < 7 * c → nx j ≤ c) (hl : fe_ld nx e1 (t - 1) = true) : fe_sp c nx en (t - 1) (nw + 1) (va_up e1 (t - 1) true) := by
  refine ⟨fun m hm q => ?_, fun P p1 p2 m hm q => ?_, ?_, fun z => by omega⟩
  · by_cases e : m = t - 1
    · rw [e, va_up_self]
    · rw [va_up_ne _ _ e]; exact h.1 m hm q
  · by_cases e : m = t - 1
    · obtain ⟨a, ha, h1⟩ := fs_any_iff.mp hl
      rw [Bool.and_eq_true, decide_eq_true_iff] at h1
      rw [e]
      have := hn (7 * (t - 1) + a) (by omega)
      exact p2 _ (by omega) a ha h1.1 (h.2.1 P p1 p2 _ (by omega) h1.2)
    · rw [va_up_ne _ _ e] at q
      exact h.2.1 P p1 p2 m hm q
  · rw [fe_ct_up hf (by omega), h.2.2.1]
    omega
/-- between two rounds -/
def fe_rd (c : Nat) (s nx : Nat → Nat) (rd nw ab : Nat) (en : Nat → Bool) : Prop := ab = fe_ct en c ∧ (∀ m, m < c → s m = 16 → en m = true) ∧ (∀ m, m < c → en m = true → fe_good s nx m) ∧ (0 < nw → rd + 1 ≤ ab) ∧ (nw = 0 → ∀ m, m < c → en m = false → fe_ld nx en m = false)
theorem fe_rd_0 {c ab : Nat} {s nx : Nat → Nat} {en : Nat → Bool} (h1 : ab = fe_ct en c) (h2 : ∀ m, m < c → en m = decide (s m = 16)) (hn : ∀ j, j < 7 * c → nx j ≤ c) : fe_rd c s nx 0 ab ab en := by
  refine ⟨h1, fun m hm e => by rw [h2 m hm, decide_eq_true e], fun m hm e => fe_good_0 (of_decide_eq_true ((h2 m hm).symm.trans e)), fun z => by omega, fun z m hm _ => ?_⟩
  have h3 := fe_ct_0 (by rw [← h1]; exact z)
  unfold fe_ld
  refine fs_any_f.mpr (fun a ha => ?_)
  by_cases q : 0 < nx (7 * m + a)
  · have := hn (7 * m + a) (by omega)
    rw [h3 _ (by omega), Bool.and_false]
  · rw [decide_eq_false q, Bool.false_and]
theorem fe_rd_s {c rd nw ab n2 : Nat} {s nx : Nat → Nat} {en e2 : Nat → Bool} (h : fe_rd c s nx rd nw ab en) (h0 : 0 < nw) (hs : fe_sp c nx en 0 n2 e2) (hn : ∀ j, j < 7 * c → nx j ≤ c) : fe_rd c s nx (rd + 1) n2 (ab + n2) e2 := by
  obtain ⟨g1, g2, g3, g4, g5⟩ := h
  refine ⟨by rw [hs.2.2.1, g1], fun m hm e => hs.1 m hm (g2 m hm e), hs.2.1 _ g3 (fun m hm a ha q1 q2 => fe_good_s ha q1 q2), fun z => by have := g4 h0; omega, fun z m hm q => ?_⟩
  have h1 := hs.2.2.2 z
  rw [h1.1 m hm] at q
  rw [← h1.2 m (Nat.zero_le _) hm q]
  exact fe_ld_congr hm hn h1.1
theorem fe_rd_end {c rd nw ab : Nat} {s nx : Nat → Nat} {en : Nat → Bool} (h : fe_rd c s nx rd nw ab en) (hn : ∀ j, j < 7 * c → nx j ≤ c) (hc : c ≤ 200) (hx : 200 ≤ rd ∨ nw = 0) : (ab = c → fe_all s nx c = true) ∧ (ab ≠ c → fe_all s nx c = false) := by
  obtain ⟨g1, g2, g3, g4, g5⟩ := h
  have h0 : nw = 0 := by
    rcases hx with hx | hx
    · rcases Nat.eq_zero_or_pos nw with z | z
      · exact z
      · have := g4 z
        have := fe_ct_le en c
        omega
    · exact hx
  have key : ∀ r m, m < c → fe_g s nx r m → en m = true := by
    intro r
    induction r with
    | zero => exact fun m hm e => g2 m hm e
    | succ r ih =>
      intro m hm e
      rcases e with e | ⟨a, ha, q1, q2⟩
      · exact ih m hm e
      · cases z : en m with
        | true => rfl
        | false =>
          have h1 := g5 h0 m hm z
          have h2 := hn (7 * m + a) (by omega)
          have h3 := fs_any_f.mp h1 a ha
          rw [decide_eq_true q1, ih _ (by omega) q2] at h3
          exact absurd h3 (by decide)
  constructor
  · intro e
    exact fe_all_t (fun m hm => g3 m hm (fe_ct_all.mp (by omega) m hm))
  · intro e
    rcases Classical.em (∀ m, m < c → fe_good s nx m) with q | q
    · exact absurd (g1.trans (fe_ct_all.mpr (fun m hm => by obtain ⟨r, hr⟩ := q m hm; exact key r m hm hr))) e
    · exact @decide_eq_false _ (Classical.propDecidable _) q
def fe_cl (s : Nat → Nat) (c : Nat) : Bool := fs_all (fun m => decide (s m &&& 240 = 0) || decide (s m = 16)) c
end
section
theorem d_Re_leadsToEnding_0 : decode prog_6_method_11_code 0 = .ok (.iconst 0, 1) := by decide +kernel
theorem d_Re_leadsToEnding_1 : decode prog_6_method_11_code 1 = .ok (.istore_n 2, 1) := by decide +kernel
theorem d_Re_leadsToEnding_2 : decode prog_6_method_11_code 2 = .ok (.iload_n 2, 1) := by decide +kernel
theorem d_Re_leadsToEnding_3 : decode prog_6_method_11_code 3 = .ok (.bipush 7, 2) := by decide +kernel
theorem d_Re_leadsToEnding_5 : decode prog_6_method_11_code 5 = .ok (.if_icmp .ge 37, 3) := by decide +kernel
theorem d_Re_leadsToEnding_8 : decode prog_6_method_11_code 8 = .ok (.aload_n 0, 1) := by decide +kernel
theorem d_Re_leadsToEnding_9 : decode prog_6_method_11_code 9 = .ok (.getfield 19, 3) := by decide +kernel
theorem d_Re_leadsToEnding_12 : decode prog_6_method_11_code 12 = .ok (.iload_n 1, 1) := by decide +kernel
theorem d_Re_leadsToEnding_13 : decode prog_6_method_11_code 13 = .ok (.bipush 7, 2) := by decide +kernel
theorem d_Re_leadsToEnding_15 : decode prog_6_method_11_code 15 = .ok (.imul, 1) := by decide +kernel
theorem d_Re_leadsToEnding_16 : decode prog_6_method_11_code 16 = .ok (.iload_n 2, 1) := by decide +kernel
theorem d_Re_leadsToEnding_17 : decode prog_6_method_11_code 17 = .ok (.iadd, 1) := by decide +kernel
theorem d_Re_leadsToEnding_18 : decode prog_6_method_11_code 18 = .ok (.iaload, 1) := by decide +kernel
theorem d_Re_leadsToEnding_19 : decode prog_6_method_11_code 19 = .ok (.istore_n 3, 1) := by decide +kernel
theorem d_Re_leadsToEnding_20 : decode prog_6_method_11_code 20 = .ok (.iload_n 3, 1) := by decide +kernel
theorem d_Re_leadsToEnding_21 : decode prog_6_method_11_code 21 = .ok (.iconst (-1), 1) := by decide +kernel
theorem d_Re_leadsToEnding_22 : decode prog_6_method_11_code 22 = .ok (.if_icmp .eq 14, 3) := by decide +kernel
theorem d_Re_leadsToEnding_25 : decode prog_6_method_11_code 25 = .ok (.aload_n 0, 1) := by decide +kernel
theorem d_Re_leadsToEnding_26 : decode prog_6_method_11_code 26 = .ok (.getfield 22, 3) := by decide +kernel
theorem d_Re_leadsToEnding_29 : decode prog_6_method_11_code 29 = .ok (.iload_n 3, 1) := by decide +kernel
theorem d_Re_leadsToEnding_30 : decode prog_6_method_11_code 30 = .ok (.baload, 1) := by decide +kernel
theorem d_Re_leadsToEnding_31 : decode prog_6_method_11_code 31 = .ok (.ifCond .eq 5, 3) := by decide +kernel
theorem d_Re_leadsToEnding_34 : decode prog_6_method_11_code 34 = .ok (.iconst 1, 1) := by decide +kernel
theorem d_Re_leadsToEnding_35 : decode prog_6_method_11_code 35 = .ok (.ireturn, 1) := by decide +kernel
theorem d_Re_leadsToEnding_36 : decode prog_6_method_11_code 36 = .ok (.iinc 2 1, 3) := by decide +kernel
theorem d_Re_leadsToEnding_39 : decode prog_6_method_11_code 39 = .ok (.goto (-37), 3) := by decide +kernel
theorem d_Re_leadsToEnding_42 : decode prog_6_method_11_code 42 = .ok (.iconst 0, 1) := by decide +kernel
theorem d_Re_leadsToEnding_43 : decode prog_6_method_11_code 43 = .ok (.ireturn, 1) := by decide +kernel
set_option maxRecDepth 20000 in
set_option maxHeartbeats 4000000 in
theorem cR_leadsToEnding (E : fk_E) (r0 : Nat) (r1 : Nat) (r2 : Nat) (r3 : Nat) (r4 : Nat) (c : Nat) (ev : Nat) (nx : Nat → Nat) (en : Nat → Bool) (m : Nat) (hc : c ≤ 200) (hn : ∀ j, j < 7 * c → nx j ≤ c) (hm : m < c) : fk_C E fy_Re_leadsToEnding prog_6_method_11_code 4 (some .boolean) 0 0 0 [.ref r0, .int (nI m)] [(r0, .inr (4, [.ref r1, .ref r2, .ref r3, .ref r4, .int (nI c), .int (nI ev)])), fk_aj E r3 1400 nx, fk_az E r4 200 en] (S := Unit) (fun _ => some (.int (nI (Bool.toNat (fe_ld nx en m))))) (fun _ => True) (fun _ => [(r0, .inr (4, [.ref r1, .ref r2, .ref r3, .ref r4, .int (nI c), .int (nI ev)])), fk_aj E r3 1400 nx, fk_az E r4 200 en]) := by
  refine fk_enterZ (v := fun _ => fe_ld nx en m) (by decide) (Nat.le_of_ble_eq_true rfl) (lv0 := [(0, .ref r0), (1, .int (nI m))]) rfl ?_
  intro K hini hret
  refine fk_iconst (v := nI 0) d_Re_leadsToEnding_0 (by decide +kernel) ?_
  refine fk_istore_n (lv' := [(0, .ref r0), (1, .int (nI m)), (2, .int (nI 0))]) d_Re_leadsToEnding_1 rfl (Nat.le_of_ble_eq_true rfl) [1, 2, 0] rfl ?_
  have L2 : ∀ (fuel : Nat) (a : Nat), (a ≤ 7) → (∀ j, j < a → (decide (0 < nx (7 * m + j)) && en (nx (7 * m + j) - 1)) = false) → 7 - a < fuel → fk_V E (prog_6_method_11_code, fy_Re_leadsToEnding.cls, 4, fk_rm 0 0 0) K (0, 0) [(r0, .inr (4, [.ref r1, .ref r2, .ref r3, .ref r4, .int (nI c), .int (nI ev)])), fk_aj E r3 1400 nx, fk_az E r4 200 en] 2 [(0, .ref r0), (1, .int (nI m)), (2, .int (nI a))] [] := by
    intro fuel
    induction fuel with
    | zero => intro a _ _ hm; exact absurd hm (Nat.not_lt_zero _)
    | succ fuel ih =>
      intro a h1 h2 hm2
      have ih2 := ih
      clear ih
      refine fk_iload_n 2 d_Re_leadsToEnding_2 rfl ?_
      refine fk_bipush (v := nI 7) d_Re_leadsToEnding_3 (by decide +kernel) ?_
      refine fk_icmp_ge (a := a) (b := 7) (by omega) (by omega) d_Re_leadsToEnding_5 rfl (fun h5t => ?_) (fun h5f => ?_)
      · refine fk_iconst (v := nI 0) d_Re_leadsToEnding_42 (by decide +kernel) ?_
        refine fk_top (fn_rf (b := fe_ld nx en m) (fs_any_f.mpr (fun j hj => h2 j (by omega)))) ?_
        exact hret (0, 0) _ 43 _ () d_Re_leadsToEnding_43 (trivial) (rfl)
      · have g1 := hn (7 * m + a) (by omega)
        refine fk_aload_n 0 d_Re_leadsToEnding_8 rfl ?_
        refine fk_get 0 2 rfl rfl fh_Re (Nat.le_of_ble_eq_true rfl) fw_104 rfl d_Re_leadsToEnding_9 ?_
        refine fk_iload_n 1 d_Re_leadsToEnding_12 rfl ?_
        refine fk_bipush (v := nI 7) d_Re_leadsToEnding_13 (by decide +kernel) ?_
        refine fk_imul (a := m) (b := 7) d_Re_leadsToEnding_15 ?_
        refine fk_iload_n 2 d_Re_leadsToEnding_16 rfl ?_
        refine fk_iadd (a := (m * 7)) (b := a) d_Re_leadsToEnding_17 ?_
        refine fk_top (show (nI ((m * 7) + a)) = (nI (7 * m + a)) from congrArg nI (by omega)) ?_
        refine fk_ld_aj (i := (7 * m + a)) 1 rfl (by omega) (by decide) d_Re_leadsToEnding_18 ?_
        refine fk_istore_n (lv' := [(0, .ref r0), (1, .int (nI m)), (2, .int (nI a)), (3, .int (nI (nx (7 * m + a)) - 1))]) d_Re_leadsToEnding_19 rfl (Nat.le_of_ble_eq_true rfl) [1, 2, 3, 0] rfl ?_
        refine fk_iload_n 3 d_Re_leadsToEnding_20 rfl ?_
        refine fk_iconst (v := nI 0 - 1) d_Re_leadsToEnding_21 (by decide +kernel) ?_
        refine fk_icmp_eqJ (a := (nx (7 * m + a))) (b := 0) (by omega) (by omega) d_Re_leadsToEnding_22 rfl (fun h22t => ?_) (fun h22f => ?_)
        · refine fk_iinc (j := 2) (lv' := [(0, .ref r0), (1, .int (nI m)), (2, .int (nI (a + 1))), (3, .int (nI (nx (7 * m + a)) - 1))]) (a + 1) d_Re_leadsToEnding_36 rfl (nI_1 a) (Nat.le_of_ble_eq_true rfl) [1, 2, 0, 3] rfl ?_
          refine fk_goto d_Re_leadsToEnding_39 rfl ?_
          refine fk_lv (lv' := [(0, .ref r0), (1, .int (nI m)), (2, .int (nI (a + 1)))]) [0, 1, 2] rfl ?_
          refine ih2 _ ?_ ?_ ?_
          · first | omega | assumption | exact Nat.zero_le _
          · refine fs_lt_s (f := fun j => decide (0 < nx (7 * m + j)) && en (nx (7 * m + j) - 1)) h2 ?_
            first | simp [h22t] | (show (_ && en _) = false; rw [h31t, Bool.and_false])
          · omega
        · refine fk_aload_n 0 d_Re_leadsToEnding_25 rfl ?_
          refine fk_get 0 3 rfl rfl fh_Re (Nat.le_of_ble_eq_true rfl) fw_105 rfl d_Re_leadsToEnding_26 ?_
          refine fk_iload_n 3 d_Re_leadsToEnding_29 rfl ?_
          refine fk_top (show (nI (nx (7 * m + a)) - 1) = (nI (nx (7 * m + a) - 1)) from fn_jn (by omega)) ?_
          refine fk_ld_az (i := (nx (7 * m + a) - 1)) 2 rfl (by omega) (by decide) d_Re_leadsToEnding_30 ?_
          refine fk_if_eqB (b := (en (nx (7 * m + a) - 1))) d_Re_leadsToEnding_31 rfl (fun h31t => ?_) (fun h31f => ?_)
          · refine fk_iinc (j := 2) (lv' := [(0, .ref r0), (1, .int (nI m)), (2, .int (nI (a + 1))), (3, .int (nI (nx (7 * m + a)) - 1))]) (a + 1) d_Re_leadsToEnding_36 rfl (nI_1 a) (Nat.le_of_ble_eq_true rfl) [1, 2, 0, 3] rfl ?_
            refine fk_goto d_Re_leadsToEnding_39 rfl ?_
            refine fk_lv (lv' := [(0, .ref r0), (1, .int (nI m)), (2, .int (nI (a + 1)))]) [0, 1, 2] rfl ?_
            refine ih2 _ ?_ ?_ ?_
            · first | omega | assumption | exact Nat.zero_le _
            · refine fs_lt_s (f := fun j => decide (0 < nx (7 * m + j)) && en (nx (7 * m + j) - 1)) h2 ?_
              first | simp [h22t] | (show (_ && en _) = false; rw [h31t, Bool.and_false])
            · omega
          · refine fk_iconst (v := nI 1) d_Re_leadsToEnding_34 (by decide +kernel) ?_
            refine fk_top (fn_rt (b := fe_ld nx en m) (fs_any_t (j := a) h5f (by rw [decide_eq_true (show 0 < nx (7 * m + a) by omega), h31f]; rfl))) ?_
            exact hret (0, 0) _ 35 _ () d_Re_leadsToEnding_35 (trivial) (rfl)
  refine L2 _ _ ?_ ?_ (Nat.lt_succ_self _)
  · first | omega | assumption | exact Nat.zero_le _
  · exact fs_lt_0
theorem d_Re_spreadEnding_0 : decode prog_6_method_10_code 0 = .ok (.iconst 0, 1) := by decide +kernel
theorem d_Re_spreadEnding_1 : decode prog_6_method_10_code 1 = .ok (.istore_n 1, 1) := by decide +kernel
theorem d_Re_spreadEnding_2 : decode prog_6_method_10_code 2 = .ok (.aload_n 0, 1) := by decide +kernel
theorem d_Re_spreadEnding_3 : decode prog_6_method_10_code 3 = .ok (.getfield 26, 3) := by decide +kernel
theorem d_Re_spreadEnding_6 : decode prog_6_method_10_code 6 = .ok (.iconst 1, 1) := by decide +kernel
theorem d_Re_spreadEnding_7 : decode prog_6_method_10_code 7 = .ok (.isub, 1) := by decide +kernel
theorem d_Re_spreadEnding_8 : decode prog_6_method_10_code 8 = .ok (.istore_n 2, 1) := by decide +kernel
theorem d_Re_spreadEnding_9 : decode prog_6_method_10_code 9 = .ok (.iload_n 2, 1) := by decide +kernel
theorem d_Re_spreadEnding_10 : decode prog_6_method_10_code 10 = .ok (.ifCond .lt 36, 3) := by decide +kernel
theorem d_Re_spreadEnding_13 : decode prog_6_method_10_code 13 = .ok (.aload_n 0, 1) := by decide +kernel
theorem d_Re_spreadEnding_14 : decode prog_6_method_10_code 14 = .ok (.getfield 22, 3) := by decide +kernel
theorem d_Re_spreadEnding_17 : decode prog_6_method_10_code 17 = .ok (.iload_n 2, 1) := by decide +kernel
theorem d_Re_spreadEnding_18 : decode prog_6_method_10_code 18 = .ok (.baload, 1) := by decide +kernel
theorem d_Re_spreadEnding_19 : decode prog_6_method_10_code 19 = .ok (.ifCond .ne 21, 3) := by decide +kernel
theorem d_Re_spreadEnding_22 : decode prog_6_method_10_code 22 = .ok (.aload_n 0, 1) := by decide +kernel
theorem d_Re_spreadEnding_23 : decode prog_6_method_10_code 23 = .ok (.iload_n 2, 1) := by decide +kernel
theorem d_Re_spreadEnding_24 : decode prog_6_method_10_code 24 = .ok (.invokevirtual 86, 3) := by decide +kernel
theorem d_Re_spreadEnding_27 : decode prog_6_method_10_code 27 = .ok (.ifCond .eq 13, 3) := by decide +kernel
theorem d_Re_spreadEnding_30 : decode prog_6_method_10_code 30 = .ok (.aload_n 0, 1) := by decide +kernel
theorem d_Re_spreadEnding_31 : decode prog_6_method_10_code 31 = .ok (.getfield 22, 3) := by decide +kernel
theorem d_Re_spreadEnding_34 : decode prog_6_method_10_code 34 = .ok (.iload_n 2, 1) := by decide +kernel
theorem d_Re_spreadEnding_35 : decode prog_6_method_10_code 35 = .ok (.iconst 1, 1) := by decide +kernel
theorem d_Re_spreadEnding_36 : decode prog_6_method_10_code 36 = .ok (.bastore, 1) := by decide +kernel
theorem d_Re_spreadEnding_37 : decode prog_6_method_10_code 37 = .ok (.iinc 1 1, 3) := by decide +kernel
theorem d_Re_spreadEnding_40 : decode prog_6_method_10_code 40 = .ok (.iinc 2 (-1), 3) := by decide +kernel
theorem d_Re_spreadEnding_43 : decode prog_6_method_10_code 43 = .ok (.goto (-34), 3) := by decide +kernel
theorem d_Re_spreadEnding_46 : decode prog_6_method_10_code 46 = .ok (.iload_n 1, 1) := by decide +kernel
theorem d_Re_spreadEnding_47 : decode prog_6_method_10_code 47 = .ok (.ireturn, 1) := by decide +kernel
set_option maxRecDepth 20000 in
set_option maxHeartbeats 4000000 in
theorem cR_spreadEnding (E : fk_E) (r0 : Nat) (r1 : Nat) (r2 : Nat) (r3 : Nat) (r4 : Nat) (c : Nat) (ev : Nat) (nx : Nat → Nat) (en : Nat → Bool) (hc : c ≤ 200) (hn : ∀ j, j < 7 * c → nx j ≤ c) : fk_C E fy_Re_spreadEnding prog_6_method_10_code 3 (some .int) 1 0 0 [.ref r0] [(r0, .inr (4, [.ref r1, .ref r2, .ref r3, .ref r4, .int (nI c), .int (nI ev)])), fk_aj E r3 1400 nx, fk_az E r4 200 en] (S := Nat × (Nat → Bool)) (fun (u : Nat × (Nat → Bool)) => some (.int (nI u.1))) (fun (u : Nat × (Nat → Bool)) => fe_sp c nx en 0 u.1 u.2 ∧ u.1 ≤ 200) (fun (u : Nat × (Nat → Bool)) => [(r0, .inr (4, [.ref r1, .ref r2, .ref r3, .ref r4, .int (nI c), .int (nI ev)])), fk_aj E r3 1400 nx, fk_az E r4 200 u.2]) := by
  refine fk_enterI (v := fun (u : Nat × (Nat → Bool)) => (nI u.1)) (by decide) (Nat.le_of_ble_eq_true rfl) (lv0 := [(0, .ref r0)]) rfl ?_
  intro K hini hret
  refine fk_iconst (v := nI 0) d_Re_spreadEnding_0 (by decide +kernel) ?_
  refine fk_istore_n (lv' := [(0, .ref r0), (1, .int (nI 0))]) d_Re_spreadEnding_1 rfl (Nat.le_of_ble_eq_true rfl) [1, 0] rfl ?_
  refine fk_aload_n 0 d_Re_spreadEnding_2 rfl ?_
  refine fk_get 0 4 rfl rfl fh_Re (Nat.le_of_ble_eq_true rfl) fw_106 rfl d_Re_spreadEnding_3 ?_
  refine fk_iconst (v := nI 1) d_Re_spreadEnding_6 (by decide +kernel) ?_
  refine fk_isubR d_Re_spreadEnding_7 ?_
  refine fk_top (show ((nI c) - (nI 1)) = (nI c - 1) from by rfl) ?_
  refine fk_istore_n (lv' := [(0, .ref r0), (1, .int (nI 0)), (2, .int (nI c - 1))]) d_Re_spreadEnding_8 rfl (Nat.le_of_ble_eq_true rfl) [1, 2, 0] rfl ?_
  have L9 : ∀ (fuel : Nat) (t : Nat) (n1 : Nat) (e1 : Nat → Bool), (t ≤ c) → (fe_sp c nx en t n1 e1) → (n1 + t ≤ c) → t < fuel → fk_V E (prog_6_method_10_code, fy_Re_spreadEnding.cls, 3, fk_rm 1 0 0) K (0, 0) [(r0, .inr (4, [.ref r1, .ref r2, .ref r3, .ref r4, .int (nI c), .int (nI ev)])), fk_aj E r3 1400 nx, fk_az E r4 200 e1] 9 [(0, .ref r0), (1, .int (nI n1)), (2, .int (nI t - 1))] [] := by
    intro fuel
    induction fuel with
    | zero => intro t n1 e1 _ _ _ hm; exact absurd hm (Nat.not_lt_zero _)
    | succ fuel ih =>
      intro t n1 e1 h1 h2 h3 hm9
      have ih9 := ih
      clear ih
      refine fk_iload_n 2 d_Re_spreadEnding_9 rfl ?_
      refine fk_if_ltJ (a := t) (by omega) d_Re_spreadEnding_10 rfl (fun h10t => ?_) (fun h10f => ?_)
      · refine fk_iload_n 1 d_Re_spreadEnding_46 rfl ?_
        exact hret (0, 0) _ 47 _ (n1, e1) d_Re_spreadEnding_47 (⟨by rw [h10t] at h2; exact h2, by show n1 ≤ 200; omega⟩) (rfl)
      · refine fk_aload_n 0 d_Re_spreadEnding_13 rfl ?_
        refine fk_get 0 3 rfl rfl fh_Re (Nat.le_of_ble_eq_true rfl) fw_105 rfl d_Re_spreadEnding_14 ?_
        refine fk_iload_n 2 d_Re_spreadEnding_17 rfl ?_
        refine fk_top (show (nI t - 1) = (nI (t - 1)) from fn_jn h10f) ?_
        refine fk_ld_az (i := (t - 1)) 2 rfl (by omega) (by decide) d_Re_spreadEnding_18 ?_
        refine fk_if_neB (b := (e1 (t - 1))) d_Re_spreadEnding_19 rfl (fun h19t => ?_) (fun h19f => ?_)
        · refine fk_iincV (j := 2) (lv' := [(0, .ref r0), (1, .int (nI n1)), (2, .int (nI (t - 1) - 1))]) d_Re_spreadEnding_40 rfl (fn_decJ (by omega)) (Nat.le_of_ble_eq_true rfl) [1, 2, 0] rfl ?_
          refine fk_goto d_Re_spreadEnding_43 rfl ?_
          refine ih9 _ _ _ ?_ ?_ ?_ ?_
          · first | omega | assumption | exact Nat.zero_le _
          · first | exact fe_sp_up h2 h10f h1 h19f hn h27f | exact fe_sp_no h2 h10f h1 hn (Or.inl h19t) | exact fe_sp_no h2 h10f h1 hn (Or.inr h27t)
          · first | omega | assumption | exact Nat.zero_le _
          · omega
        · refine fk_aload_n 0 d_Re_spreadEnding_22 rfl ?_
          refine fk_iload_n 2 d_Re_spreadEnding_23 rfl ?_
          refine fk_top (show (nI t - 1) = (nI (t - 1)) from fn_jn h10f) ?_
          refine fk_callV (q0 := 0) (As := [.int (nI (t - 1))]) (rest := []) (is := [0, 1, 2]) (ir := []) (ip := [0, 1, 2]) (wc := [(r0, .inr (4, [.ref r1, .ref r2, .ref r3, .ref r4, .int (nI c), .int (nI ev)])), fk_aj E r3 1400 nx, fk_az E r4 200 e1]) (wr := []) (w2 := fun _ => [(r0, .inr (4, [.ref r1, .ref r2, .ref r3, .ref r4, .int (nI c), .int (nI ev)])), fk_aj E r3 1400 nx, fk_az E r4 200 e1]) (cR_leadsToEnding E r0 r1 r2 r3 r4 c ev nx e1 (t - 1) (by first | omega | assumption) (by first | omega | assumption) (by first | omega | assumption)) d_Re_spreadEnding_24 fz_Re_leadsToEnding fw_436 rfl rfl fw_438 fw_p14 ⟨Nat.le_of_ble_eq_true rfl, Nat.le_of_ble_eq_true rfl⟩ rfl (Nat.le_of_ble_eq_true rfl) ⟨Nat.zero_le _, Nat.zero_le _⟩ ⟨rfl, rfl, rfl, rfl, by decide, fun _ => rfl, rfl⟩ (fun u hu24 => ?_)
          show fk_V E _ K (0, 0) [(r0, .inr (4, [.ref r1, .ref r2, .ref r3, .ref r4, .int (nI c), .int (nI ev)])), fk_aj E r3 1400 nx, fk_az E r4 200 e1] 27 [(0, .ref r0), (1, .int (nI n1)), (2, .int (nI t - 1))] [.int (nI (Bool.toNat (fe_ld nx e1 (t - 1))))]
          refine fk_if_eqB (b := (fe_ld nx e1 (t - 1))) d_Re_spreadEnding_27 rfl (fun h27t => ?_) (fun h27f => ?_)
          · refine fk_iincV (j := 2) (lv' := [(0, .ref r0), (1, .int (nI n1)), (2, .int (nI (t - 1) - 1))]) d_Re_spreadEnding_40 rfl (fn_decJ (by omega)) (Nat.le_of_ble_eq_true rfl) [1, 2, 0] rfl ?_
            refine fk_goto d_Re_spreadEnding_43 rfl ?_
            refine ih9 _ _ _ ?_ ?_ ?_ ?_
            · first | omega | assumption | exact Nat.zero_le _
            · first | exact fe_sp_up h2 h10f h1 h19f hn h27f | exact fe_sp_no h2 h10f h1 hn (Or.inl h19t) | exact fe_sp_no h2 h10f h1 hn (Or.inr h27t)
            · first | omega | assumption | exact Nat.zero_le _
            · omega
          · refine fk_aload_n 0 d_Re_spreadEnding_30 rfl ?_
            refine fk_get 0 3 rfl rfl fh_Re (Nat.le_of_ble_eq_true rfl) fw_105 rfl d_Re_spreadEnding_31 ?_
            refine fk_iload_n 2 d_Re_spreadEnding_34 rfl ?_
            refine fk_top (show (nI t - 1) = (nI (t - 1)) from fn_jn h10f) ?_
            refine fk_iconst (v := nI 1) d_Re_spreadEnding_35 (by decide +kernel) ?_
            refine fk_st_az (i := (t - 1)) (x := true) (w' := [(r0, .inr (4, [.ref r1, .ref r2, .ref r3, .ref r4, .int (nI c), .int (nI ev)])), fk_aj E r3 1400 nx, fk_az E r4 200 (va_up e1 (t - 1) true)]) 2 rfl (by omega) (by decide) d_Re_spreadEnding_36 rfl ?_
            refine fk_iinc (j := 1) (lv' := [(0, .ref r0), (1, .int (nI (n1 + 1))), (2, .int (nI t - 1))]) (n1 + 1) d_Re_spreadEnding_37 rfl (nI_1 n1) (Nat.le_of_ble_eq_true rfl) [1, 0, 2] rfl ?_
            refine fk_iincV (j := 2) (lv' := [(0, .ref r0), (1, .int (nI (n1 + 1))), (2, .int (nI (t - 1) - 1))]) d_Re_spreadEnding_40 rfl (fn_decJ (by omega)) (Nat.le_of_ble_eq_true rfl) [1, 2, 0] rfl ?_
            refine fk_goto d_Re_spreadEnding_43 rfl ?_
            refine ih9 _ _ _ ?_ ?_ ?_ ?_
            · first | omega | assumption | exact Nat.zero_le _
            · first | exact fe_sp_up h2 h10f h1 h19f hn h27f | exact fe_sp_no h2 h10f h1 hn (Or.inl h19t) | exact fe_sp_no h2 h10f h1 hn (Or.inr h27t)
            · first | omega | assumption | exact Nat.zero_le _
            · omega
  refine L9 _ _ _ _ ?_ ?_ ?_ (Nat.lt_succ_self _)
  · first | omega | assumption | exact Nat.zero_le _
  · exact fe_sp_0 c nx en
  · first | omega | assumption | exact Nat.zero_le _
theorem d_Re_sinkMeansFinal_0 : decode prog_6_method_8_code 0 = .ok (.iconst 0, 1) := by decide +kernel
theorem d_Re_sinkMeansFinal_1 : decode prog_6_method_8_code 1 = .ok (.istore_n 1, 1) := by decide +kernel
theorem d_Re_sinkMeansFinal_2 : decode prog_6_method_8_code 2 = .ok (.iload_n 1, 1) := by decide +kernel
theorem d_Re_sinkMeansFinal_3 : decode prog_6_method_8_code 3 = .ok (.aload_n 0, 1) := by decide +kernel
theorem d_Re_sinkMeansFinal_4 : decode prog_6_method_8_code 4 = .ok (.getfield 26, 3) := by decide +kernel
theorem d_Re_sinkMeansFinal_7 : decode prog_6_method_8_code 7 = .ok (.if_icmp .ge 39, 3) := by decide +kernel
theorem d_Re_sinkMeansFinal_10 : decode prog_6_method_8_code 10 = .ok (.aload_n 0, 1) := by decide +kernel
theorem d_Re_sinkMeansFinal_11 : decode prog_6_method_8_code 11 = .ok (.getfield 9, 3) := by decide +kernel
theorem d_Re_sinkMeansFinal_14 : decode prog_6_method_8_code 14 = .ok (.iload_n 1, 1) := by decide +kernel
theorem d_Re_sinkMeansFinal_15 : decode prog_6_method_8_code 15 = .ok (.laload, 1) := by decide +kernel
theorem d_Re_sinkMeansFinal_16 : decode prog_6_method_8_code 16 = .ok (.ldc2_w 79, 3) := by decide +kernel
theorem d_Re_sinkMeansFinal_19 : decode prog_6_method_8_code 19 = .ok (.land, 1) := by decide +kernel
theorem d_Re_sinkMeansFinal_20 : decode prog_6_method_8_code 20 = .ok (.lconst 0, 1) := by decide +kernel
theorem d_Re_sinkMeansFinal_21 : decode prog_6_method_8_code 21 = .ok (.lcmp, 1) := by decide +kernel
theorem d_Re_sinkMeansFinal_22 : decode prog_6_method_8_code 22 = .ok (.ifCond .eq 18, 3) := by decide +kernel
theorem d_Re_sinkMeansFinal_25 : decode prog_6_method_8_code 25 = .ok (.aload_n 0, 1) := by decide +kernel
theorem d_Re_sinkMeansFinal_26 : decode prog_6_method_8_code 26 = .ok (.getfield 9, 3) := by decide +kernel
theorem d_Re_sinkMeansFinal_29 : decode prog_6_method_8_code 29 = .ok (.iload_n 1, 1) := by decide +kernel
theorem d_Re_sinkMeansFinal_30 : decode prog_6_method_8_code 30 = .ok (.laload, 1) := by decide +kernel
theorem d_Re_sinkMeansFinal_31 : decode prog_6_method_8_code 31 = .ok (.ldc2_w 81, 3) := by decide +kernel
theorem d_Re_sinkMeansFinal_34 : decode prog_6_method_8_code 34 = .ok (.lcmp, 1) := by decide +kernel
theorem d_Re_sinkMeansFinal_35 : decode prog_6_method_8_code 35 = .ok (.ifCond .eq 5, 3) := by decide +kernel
theorem d_Re_sinkMeansFinal_38 : decode prog_6_method_8_code 38 = .ok (.iconst 0, 1) := by decide +kernel
theorem d_Re_sinkMeansFinal_39 : decode prog_6_method_8_code 39 = .ok (.ireturn, 1) := by decide +kernel
theorem d_Re_sinkMeansFinal_40 : decode prog_6_method_8_code 40 = .ok (.iinc 1 1, 3) := by decide +kernel
theorem d_Re_sinkMeansFinal_43 : decode prog_6_method_8_code 43 = .ok (.goto (-41), 3) := by decide +kernel
theorem d_Re_sinkMeansFinal_46 : decode prog_6_method_8_code 46 = .ok (.iconst 1, 1) := by decide +kernel
theorem d_Re_sinkMeansFinal_47 : decode prog_6_method_8_code 47 = .ok (.ireturn, 1) := by decide +kernel
set_option maxRecDepth 20000 in
set_option maxHeartbeats 4000000 in
theorem cR_sinkMeansFinal (E : fk_E) (r0 : Nat) (r1 : Nat) (r2 : Nat) (r3 : Nat) (r4 : Nat) (c : Nat) (ev : Nat) (sn : Nat → Nat) (hc : c ≤ 200) (hs : ∀ i, i < c → sn i < 2 ^ 64) : fk_C E fy_Re_sinkMeansFinal prog_6_method_8_code 2 (some .boolean) 0 0 0 [.ref r0] [(r0, .inr (4, [.ref r1, .ref r2, .ref r3, .ref r4, .int (nI c), .int (nI ev)])), fk_al E r1 200 sn] (S := Unit) (fun _ => some (.int (nI (Bool.toNat (fe_cl sn c))))) (fun _ => True) (fun _ => [(r0, .inr (4, [.ref r1, .ref r2, .ref r3, .ref r4, .int (nI c), .int (nI ev)])), fk_al E r1 200 sn]) := by
  refine fk_enterZ (v := fun _ => fe_cl sn c) (by decide) (Nat.le_of_ble_eq_true rfl) (lv0 := [(0, .ref r0)]) rfl ?_
  intro K hini hret
  refine fk_iconst (v := nI 0) d_Re_sinkMeansFinal_0 (by decide +kernel) ?_
  refine fk_istore_n (lv' := [(0, .ref r0), (1, .int (nI 0))]) d_Re_sinkMeansFinal_1 rfl (Nat.le_of_ble_eq_true rfl) [1, 0] rfl ?_
  have L2 : ∀ (fuel : Nat) (i : Nat), (i ≤ c) → (∀ j, j < i → (decide (sn j &&& 240 = 0) || decide (sn j = 16)) = true) → c - i < fuel → fk_V E (prog_6_method_8_code, fy_Re_sinkMeansFinal.cls, 2, fk_rm 0 0 0) K (0, 0) [(r0, .inr (4, [.ref r1, .ref r2, .ref r3, .ref r4, .int (nI c), .int (nI ev)])), fk_al E r1 200 sn] 2 [(0, .ref r0), (1, .int (nI i))] [] := by
    intro fuel
    induction fuel with
    | zero => intro i _ _ hm; exact absurd hm (Nat.not_lt_zero _)
    | succ fuel ih =>
      intro i h1 h2 hm2
      have ih2 := ih
      clear ih
      refine fk_iload_n 1 d_Re_sinkMeansFinal_2 rfl ?_
      refine fk_aload_n 0 d_Re_sinkMeansFinal_3 rfl ?_
      refine fk_get 0 4 rfl rfl fh_Re (Nat.le_of_ble_eq_true rfl) fw_106 rfl d_Re_sinkMeansFinal_4 ?_
      refine fk_icmp_ge (a := i) (b := c) (by omega) (by omega) d_Re_sinkMeansFinal_7 rfl (fun h7t => ?_) (fun h7f => ?_)
      · refine fk_iconst (v := nI 1) d_Re_sinkMeansFinal_46 (by decide +kernel) ?_
        refine fk_top (fn_rt (b := fe_cl sn c) (fs_all_iff.mpr (fun j hj => h2 j (by omega)))) ?_
        exact hret (0, 0) _ 47 _ () d_Re_sinkMeansFinal_47 (trivial) (rfl)
      · have g1 := hs i h7f
        refine fk_aload_n 0 d_Re_sinkMeansFinal_10 rfl ?_
        refine fk_get 0 0 rfl rfl fh_Re (Nat.le_of_ble_eq_true rfl) fw_102 rfl d_Re_sinkMeansFinal_11 ?_
        refine fk_iload_n 1 d_Re_sinkMeansFinal_14 rfl ?_
        refine fk_ld_al (i := i) 1 rfl (by omega) (by decide) d_Re_sinkMeansFinal_15 ?_
        refine fk_ldc2 (v := (240 : Int64)) d_Re_sinkMeansFinal_16 fw_426 ?_
        refine fk_topl (show (240 : Int64) = lN 240 by decide +kernel) ?_
        refine fk_landR d_Re_sinkMeansFinal_19 ?_
        refine fk_topl (show lN (sn i) &&& lN 240 = lN ((sn i) &&& 240) from fn_land (g1) (by decide)) ?_
        refine fk_lconst (v := lN 0) d_Re_sinkMeansFinal_20 rfl ?_
        refine fk_lcmpR d_Re_sinkMeansFinal_21 ?_
        refine fk_cmp_eq (a := ((sn i) &&& 240)) (b := 0) (Nat.lt_of_le_of_lt Nat.and_le_left g1) (by decide) d_Re_sinkMeansFinal_22 rfl (fun h22t => ?_) (fun h22f => ?_)
        · refine fk_iinc (j := 1) (lv' := [(0, .ref r0), (1, .int (nI (i + 1)))]) (i + 1) d_Re_sinkMeansFinal_40 rfl (nI_1 i) (Nat.le_of_ble_eq_true rfl) [1, 0] rfl ?_
          refine fk_goto d_Re_sinkMeansFinal_43 rfl ?_
          refine ih2 _ ?_ ?_ ?_
          · first | omega | assumption | exact Nat.zero_le _
          · refine fs_lt_t (f := fun j => decide (sn j &&& 240 = 0) || decide (sn j = 16)) h2 ?_
            first | simp [h22t] | simp [h35t]
          · omega
        · refine fk_aload_n 0 d_Re_sinkMeansFinal_25 rfl ?_
          refine fk_get 0 0 rfl rfl fh_Re (Nat.le_of_ble_eq_true rfl) fw_102 rfl d_Re_sinkMeansFinal_26 ?_
          refine fk_iload_n 1 d_Re_sinkMeansFinal_29 rfl ?_
          refine fk_ld_al (i := i) 1 rfl (by omega) (by decide) d_Re_sinkMeansFinal_30 ?_
          refine fk_ldc2 (v := (16 : Int64)) d_Re_sinkMeansFinal_31 fw_427 ?_
          refine fk_topl (show (16 : Int64) = lN 16 by decide +kernel) ?_
          refine fk_lcmpR d_Re_sinkMeansFinal_34 ?_
          refine fk_cmp_eq (a := (sn i)) (b := 16) (g1) (by decide) d_Re_sinkMeansFinal_35 rfl (fun h35t => ?_) (fun h35f => ?_)
          · refine fk_iinc (j := 1) (lv' := [(0, .ref r0), (1, .int (nI (i + 1)))]) (i + 1) d_Re_sinkMeansFinal_40 rfl (nI_1 i) (Nat.le_of_ble_eq_true rfl) [1, 0] rfl ?_
            refine fk_goto d_Re_sinkMeansFinal_43 rfl ?_
            refine ih2 _ ?_ ?_ ?_
            · first | omega | assumption | exact Nat.zero_le _
            · refine fs_lt_t (f := fun j => decide (sn j &&& 240 = 0) || decide (sn j = 16)) h2 ?_
              first | simp [h22t] | simp [h35t]
            · omega
          · refine fk_iconst (v := nI 0) d_Re_sinkMeansFinal_38 (by decide +kernel) ?_
            refine fk_top (fn_rf (b := fe_cl sn c) (fs_all_f (j := i) h7f (by simp [h22f, h35f]))) ?_
            exact hret (0, 0) _ 39 _ () d_Re_sinkMeansFinal_39 (trivial) (rfl)
  refine L2 _ _ ?_ ?_ (Nat.lt_succ_self _)
  · first | omega | assumption | exact Nat.zero_le _
  · exact fs_lt_0
theorem d_Re_allCanEnd_0 : decode prog_6_method_9_code 0 = .ok (.iconst 0, 1) := by decide +kernel
theorem d_Re_allCanEnd_1 : decode prog_6_method_9_code 1 = .ok (.istore_n 1, 1) := by decide +kernel
theorem d_Re_allCanEnd_2 : decode prog_6_method_9_code 2 = .ok (.iconst 0, 1) := by decide +kernel
theorem d_Re_allCanEnd_3 : decode prog_6_method_9_code 3 = .ok (.istore_n 2, 1) := by decide +kernel
theorem d_Re_allCanEnd_4 : decode prog_6_method_9_code 4 = .ok (.iload_n 2, 1) := by decide +kernel
theorem d_Re_allCanEnd_5 : decode prog_6_method_9_code 5 = .ok (.aload_n 0, 1) := by decide +kernel
theorem d_Re_allCanEnd_6 : decode prog_6_method_9_code 6 = .ok (.getfield 26, 3) := by decide +kernel
theorem d_Re_allCanEnd_9 : decode prog_6_method_9_code 9 = .ok (.if_icmp .ge 50, 3) := by decide +kernel
theorem d_Re_allCanEnd_12 : decode prog_6_method_9_code 12 = .ok (.aload_n 0, 1) := by decide +kernel
theorem d_Re_allCanEnd_13 : decode prog_6_method_9_code 13 = .ok (.getfield 22, 3) := by decide +kernel
theorem d_Re_allCanEnd_16 : decode prog_6_method_9_code 16 = .ok (.iload_n 2, 1) := by decide +kernel
theorem d_Re_allCanEnd_17 : decode prog_6_method_9_code 17 = .ok (.aload_n 0, 1) := by decide +kernel
theorem d_Re_allCanEnd_18 : decode prog_6_method_9_code 18 = .ok (.getfield 9, 3) := by decide +kernel
theorem d_Re_allCanEnd_21 : decode prog_6_method_9_code 21 = .ok (.iload_n 2, 1) := by decide +kernel
theorem d_Re_allCanEnd_22 : decode prog_6_method_9_code 22 = .ok (.laload, 1) := by decide +kernel
theorem d_Re_allCanEnd_23 : decode prog_6_method_9_code 23 = .ok (.ldc2_w 81, 3) := by decide +kernel
theorem d_Re_allCanEnd_26 : decode prog_6_method_9_code 26 = .ok (.lcmp, 1) := by decide +kernel
theorem d_Re_allCanEnd_27 : decode prog_6_method_9_code 27 = .ok (.ifCond .ne 7, 3) := by decide +kernel
theorem d_Re_allCanEnd_30 : decode prog_6_method_9_code 30 = .ok (.iconst 1, 1) := by decide +kernel
theorem d_Re_allCanEnd_31 : decode prog_6_method_9_code 31 = .ok (.goto 4, 3) := by decide +kernel
theorem d_Re_allCanEnd_34 : decode prog_6_method_9_code 34 = .ok (.iconst 0, 1) := by decide +kernel
theorem d_Re_allCanEnd_35 : decode prog_6_method_9_code 35 = .ok (.bastore, 1) := by decide +kernel
theorem d_Re_allCanEnd_36 : decode prog_6_method_9_code 36 = .ok (.iload_n 1, 1) := by decide +kernel
theorem d_Re_allCanEnd_37 : decode prog_6_method_9_code 37 = .ok (.aload_n 0, 1) := by decide +kernel
theorem d_Re_allCanEnd_38 : decode prog_6_method_9_code 38 = .ok (.getfield 22, 3) := by decide +kernel
theorem d_Re_allCanEnd_41 : decode prog_6_method_9_code 41 = .ok (.iload_n 2, 1) := by decide +kernel
theorem d_Re_allCanEnd_42 : decode prog_6_method_9_code 42 = .ok (.baload, 1) := by decide +kernel
theorem d_Re_allCanEnd_43 : decode prog_6_method_9_code 43 = .ok (.ifCond .eq 7, 3) := by decide +kernel
theorem d_Re_allCanEnd_46 : decode prog_6_method_9_code 46 = .ok (.iconst 1, 1) := by decide +kernel
theorem d_Re_allCanEnd_47 : decode prog_6_method_9_code 47 = .ok (.goto 4, 3) := by decide +kernel
theorem d_Re_allCanEnd_50 : decode prog_6_method_9_code 50 = .ok (.iconst 0, 1) := by decide +kernel
theorem d_Re_allCanEnd_51 : decode prog_6_method_9_code 51 = .ok (.iadd, 1) := by decide +kernel
theorem d_Re_allCanEnd_52 : decode prog_6_method_9_code 52 = .ok (.istore_n 1, 1) := by decide +kernel
theorem d_Re_allCanEnd_53 : decode prog_6_method_9_code 53 = .ok (.iinc 2 1, 3) := by decide +kernel
theorem d_Re_allCanEnd_56 : decode prog_6_method_9_code 56 = .ok (.goto (-52), 3) := by decide +kernel
theorem d_Re_allCanEnd_59 : decode prog_6_method_9_code 59 = .ok (.iload_n 1, 1) := by decide +kernel
theorem d_Re_allCanEnd_60 : decode prog_6_method_9_code 60 = .ok (.istore_n 2, 1) := by decide +kernel
theorem d_Re_allCanEnd_61 : decode prog_6_method_9_code 61 = .ok (.iconst 0, 1) := by decide +kernel
theorem d_Re_allCanEnd_62 : decode prog_6_method_9_code 62 = .ok (.istore_n 3, 1) := by decide +kernel
theorem d_Re_allCanEnd_63 : decode prog_6_method_9_code 63 = .ok (.iload_n 3, 1) := by decide +kernel
theorem d_Re_allCanEnd_64 : decode prog_6_method_9_code 64 = .ok (.sipush 200, 3) := by decide +kernel
theorem d_Re_allCanEnd_67 : decode prog_6_method_9_code 67 = .ok (.if_icmp .ge 22, 3) := by decide +kernel
theorem d_Re_allCanEnd_70 : decode prog_6_method_9_code 70 = .ok (.iload_n 2, 1) := by decide +kernel
theorem d_Re_allCanEnd_71 : decode prog_6_method_9_code 71 = .ok (.ifCond .le 18, 3) := by decide +kernel
theorem d_Re_allCanEnd_74 : decode prog_6_method_9_code 74 = .ok (.aload_n 0, 1) := by decide +kernel
theorem d_Re_allCanEnd_75 : decode prog_6_method_9_code 75 = .ok (.invokevirtual 83, 3) := by decide +kernel
theorem d_Re_allCanEnd_78 : decode prog_6_method_9_code 78 = .ok (.istore_n 2, 1) := by decide +kernel
theorem d_Re_allCanEnd_79 : decode prog_6_method_9_code 79 = .ok (.iload_n 1, 1) := by decide +kernel
theorem d_Re_allCanEnd_80 : decode prog_6_method_9_code 80 = .ok (.iload_n 2, 1) := by decide +kernel
theorem d_Re_allCanEnd_81 : decode prog_6_method_9_code 81 = .ok (.iadd, 1) := by decide +kernel
theorem d_Re_allCanEnd_82 : decode prog_6_method_9_code 82 = .ok (.istore_n 1, 1) := by decide +kernel
theorem d_Re_allCanEnd_83 : decode prog_6_method_9_code 83 = .ok (.iinc 3 1, 3) := by decide +kernel
theorem d_Re_allCanEnd_86 : decode prog_6_method_9_code 86 = .ok (.goto (-23), 3) := by decide +kernel
theorem d_Re_allCanEnd_89 : decode prog_6_method_9_code 89 = .ok (.iload_n 1, 1) := by decide +kernel
theorem d_Re_allCanEnd_90 : decode prog_6_method_9_code 90 = .ok (.aload_n 0, 1) := by decide +kernel
theorem d_Re_allCanEnd_91 : decode prog_6_method_9_code 91 = .ok (.getfield 26, 3) := by decide +kernel
theorem d_Re_allCanEnd_94 : decode prog_6_method_9_code 94 = .ok (.if_icmp .ne 7, 3) := by decide +kernel
theorem d_Re_allCanEnd_97 : decode prog_6_method_9_code 97 = .ok (.iconst 1, 1) := by decide +kernel
theorem d_Re_allCanEnd_98 : decode prog_6_method_9_code 98 = .ok (.goto 4, 3) := by decide +kernel
theorem d_Re_allCanEnd_101 : decode prog_6_method_9_code 101 = .ok (.iconst 0, 1) := by decide +kernel
theorem d_Re_allCanEnd_102 : decode prog_6_method_9_code 102 = .ok (.ireturn, 1) := by decide +kernel
set_option maxRecDepth 20000 in
set_option maxHeartbeats 4000000 in
theorem cR_allCanEnd (E : fk_E) (r0 : Nat) (r1 : Nat) (r2 : Nat) (r3 : Nat) (r4 : Nat) (c : Nat) (ev : Nat) (sn : Nat → Nat) (nx : Nat → Nat) (en : Nat → Bool) (hc : c ≤ 200) (hn : ∀ j, j < 7 * c → nx j ≤ c) (hs : ∀ i, i < c → sn i < 2 ^ 64) : fk_C E fy_Re_allCanEnd prog_6_method_9_code 4 (some .boolean) 2 0 0 [.ref r0] [(r0, .inr (4, [.ref r1, .ref r2, .ref r3, .ref r4, .int (nI c), .int (nI ev)])), fk_al E r1 200 sn, fk_aj E r3 1400 nx, fk_az E r4 200 en] (S := (Nat → Bool)) (fun (u : (Nat → Bool)) => some (.int (nI (Bool.toNat (fe_all sn nx c))))) (fun (u : (Nat → Bool)) => True) (fun (u : (Nat → Bool)) => [(r0, .inr (4, [.ref r1, .ref r2, .ref r3, .ref r4, .int (nI c), .int (nI ev)])), fk_al E r1 200 sn, fk_aj E r3 1400 nx, fk_az E r4 200 u]) := by
  refine fk_enterZ (v := fun (u : (Nat → Bool)) => fe_all sn nx c) (by decide) (Nat.le_of_ble_eq_true rfl) (lv0 := [(0, .ref r0)]) rfl ?_
  intro K hini hret
  refine fk_iconst (v := nI 0) d_Re_allCanEnd_0 (by decide +kernel) ?_
  refine fk_istore_n (lv' := [(0, .ref r0), (1, .int (nI 0))]) d_Re_allCanEnd_1 rfl (Nat.le_of_ble_eq_true rfl) [1, 0] rfl ?_
  refine fk_iconst (v := nI 0) d_Re_allCanEnd_2 (by decide +kernel) ?_
  refine fk_istore_n (lv' := [(0, .ref r0), (1, .int (nI 0)), (2, .int (nI 0))]) d_Re_allCanEnd_3 rfl (Nat.le_of_ble_eq_true rfl) [1, 2, 0] rfl ?_
  have L4 : ∀ (fuel : Nat) (ab : Nat) (i : Nat) (e1 : Nat → Bool), (i ≤ c) → (ab = fe_ct e1 i) → (∀ m, m < i → e1 m = decide (sn m = 16)) → c - i < fuel → fk_V E (prog_6_method_9_code, fy_Re_allCanEnd.cls, 4, fk_rm 2 0 0) K (0, 0) [(r0, .inr (4, [.ref r1, .ref r2, .ref r3, .ref r4, .int (nI c), .int (nI ev)])), fk_al E r1 200 sn, fk_aj E r3 1400 nx, fk_az E r4 200 e1] 4 [(0, .ref r0), (1, .int (nI ab)), (2, .int (nI i))] [] := by
    intro fuel
    induction fuel with
    | zero => intro ab i e1 _ _ _ hm; exact absurd hm (Nat.not_lt_zero _)
    | succ fuel ih =>
      intro ab i e1 h1 h2 h3 hm4
      have ih4 := ih
      clear ih
      refine fk_iload_n 2 d_Re_allCanEnd_4 rfl ?_
      refine fk_aload_n 0 d_Re_allCanEnd_5 rfl ?_
      refine fk_get 0 4 rfl rfl fh_Re (Nat.le_of_ble_eq_true rfl) fw_106 rfl d_Re_allCanEnd_6 ?_
      refine fk_icmp_ge (a := i) (b := c) (by omega) (by omega) d_Re_allCanEnd_9 rfl (fun h9t => ?_) (fun h9f => ?_)
      · refine fk_iload_n 1 d_Re_allCanEnd_59 rfl ?_
        refine fk_istore_n (lv' := [(0, .ref r0), (1, .int (nI ab)), (2, .int (nI ab))]) d_Re_allCanEnd_60 rfl (Nat.le_of_ble_eq_true rfl) [1, 2, 0] rfl ?_
        refine fk_iconst (v := nI 0) d_Re_allCanEnd_61 (by decide +kernel) ?_
        refine fk_istore_n (lv' := [(0, .ref r0), (1, .int (nI ab)), (2, .int (nI ab)), (3, .int (nI 0))]) d_Re_allCanEnd_62 rfl (Nat.le_of_ble_eq_true rfl) [1, 2, 3, 0] rfl ?_
        have L63 : ∀ (fuel : Nat) (a2 : Nat) (n2 : Nat) (rd : Nat) (e2 : Nat → Bool), (rd ≤ 200) → (fe_rd c sn nx rd n2 a2 e2) → (n2 ≤ 200) → 200 - rd < fuel → fk_V E (prog_6_method_9_code, fy_Re_allCanEnd.cls, 4, fk_rm 2 0 0) K (0, 0) [(r0, .inr (4, [.ref r1, .ref r2, .ref r3, .ref r4, .int (nI c), .int (nI ev)])), fk_al E r1 200 sn, fk_aj E r3 1400 nx, fk_az E r4 200 e2] 63 [(0, .ref r0), (1, .int (nI a2)), (2, .int (nI n2)), (3, .int (nI rd))] [] := by
          intro fuel
          induction fuel with
          | zero => intro a2 n2 rd e2 _ _ _ hm; exact absurd hm (Nat.not_lt_zero _)
          | succ fuel ih =>
            intro a2 n2 rd e2 h4 h5 h6 hm63
            have ih63 := ih
            clear ih
            have h7 : a2 ≤ 200 := by
              have := h5.1
              have := fe_ct_le e2 c
              omega
            refine fk_iload_n 3 d_Re_allCanEnd_63 rfl ?_
            refine fk_sipush (v := nI 200) d_Re_allCanEnd_64 (by decide +kernel) ?_
            refine fk_icmp_ge (a := rd) (b := 200) (by omega) (by omega) d_Re_allCanEnd_67 rfl (fun h67t => ?_) (fun h67f => ?_)
            · have g3 := fe_rd_end h5 hn hc (Or.inl h67t)
              refine fk_iload_n 1 d_Re_allCanEnd_89 rfl ?_
              refine fk_aload_n 0 d_Re_allCanEnd_90 rfl ?_
              refine fk_get 0 4 rfl rfl fh_Re (Nat.le_of_ble_eq_true rfl) fw_106 rfl d_Re_allCanEnd_91 ?_
              refine fk_icmp_ne (a := a2) (b := c) (by omega) (by omega) d_Re_allCanEnd_94 rfl (fun h94t => ?_) (fun h94f => ?_)
              · refine fk_iconst (v := nI 0) d_Re_allCanEnd_101 (by decide +kernel) ?_
                refine fk_top (fn_rf (b := fe_all sn nx c) (by first | exact g3.1 h94f | exact g3.2 h94t)) ?_
                exact hret (0, 0) _ 102 _ e2 d_Re_allCanEnd_102 (trivial) (rfl)
              · refine fk_iconst (v := nI 1) d_Re_allCanEnd_97 (by decide +kernel) ?_
                refine fk_goto d_Re_allCanEnd_98 rfl ?_
                refine fk_top (fn_rt (b := fe_all sn nx c) (by first | exact g3.1 h94f | exact g3.2 h94t)) ?_
                exact hret (0, 0) _ 102 _ e2 d_Re_allCanEnd_102 (trivial) (rfl)
            · refine fk_iload_n 2 d_Re_allCanEnd_70 rfl ?_
              refine fk_if_le (a := n2) (by omega) d_Re_allCanEnd_71 rfl (fun h71t => ?_) (fun h71f => ?_)
              · have g3 := fe_rd_end h5 hn hc (Or.inr h71t)
                refine fk_iload_n 1 d_Re_allCanEnd_89 rfl ?_
                refine fk_aload_n 0 d_Re_allCanEnd_90 rfl ?_
                refine fk_get 0 4 rfl rfl fh_Re (Nat.le_of_ble_eq_true rfl) fw_106 rfl d_Re_allCanEnd_91 ?_
                refine fk_icmp_ne (a := a2) (b := c) (by omega) (by omega) d_Re_allCanEnd_94 rfl (fun h94t => ?_) (fun h94f => ?_)
                · refine fk_iconst (v := nI 0) d_Re_allCanEnd_101 (by decide +kernel) ?_
                  refine fk_top (fn_rf (b := fe_all sn nx c) (by first | exact g3.1 h94f | exact g3.2 h94t)) ?_
                  exact hret (0, 0) _ 102 _ e2 d_Re_allCanEnd_102 (trivial) (rfl)
                · refine fk_iconst (v := nI 1) d_Re_allCanEnd_97 (by decide +kernel) ?_
                  refine fk_goto d_Re_allCanEnd_98 rfl ?_
                  refine fk_top (fn_rt (b := fe_all sn nx c) (by first | exact g3.1 h94f | exact g3.2 h94t)) ?_
                  exact hret (0, 0) _ 102 _ e2 d_Re_allCanEnd_102 (trivial) (rfl)
              · refine fk_aload_n 0 d_Re_allCanEnd_74 rfl ?_
                refine fk_callV (q0 := 0) (As := []) (rest := []) (is := [0, 2, 3]) (ir := [1]) (ip := [1, 0, 2, 3]) (wc := [(r0, .inr (4, [.ref r1, .ref r2, .ref r3, .ref r4, .int (nI c), .int (nI ev)])), fk_aj E r3 1400 nx, fk_az E r4 200 e2]) (wr := [fk_al E r1 200 sn]) (w2 := fun u => [(r0, .inr (4, [.ref r1, .ref r2, .ref r3, .ref r4, .int (nI c), .int (nI ev)])), fk_al E r1 200 sn, fk_aj E r3 1400 nx, fk_az E r4 200 u.2]) (cR_spreadEnding E r0 r1 r2 r3 r4 c ev nx e2 (by first | omega | assumption) (by first | omega | assumption)) d_Re_allCanEnd_75 fz_Re_spreadEnding fw_432 rfl rfl fw_434 fw_p13 ⟨Nat.le_of_ble_eq_true rfl, Nat.le_of_ble_eq_true rfl⟩ rfl (Nat.le_of_ble_eq_true rfl) ⟨Nat.zero_le _, Nat.zero_le _⟩ ⟨rfl, rfl, rfl, rfl, by decide, fun _ => rfl, rfl⟩ (fun u hu75 => ?_)
                obtain ⟨nw_75, en9_75⟩ := u
                have hq75 : fe_sp c nx e2 0 nw_75 en9_75 ∧ nw_75 ≤ 200 := hu75
                show fk_V E _ K (0, 0) [(r0, .inr (4, [.ref r1, .ref r2, .ref r3, .ref r4, .int (nI c), .int (nI ev)])), fk_al E r1 200 sn, fk_aj E r3 1400 nx, fk_az E r4 200 en9_75] 78 [(0, .ref r0), (1, .int (nI a2)), (2, .int (nI n2)), (3, .int (nI rd))] [.int (nI nw_75)]
                refine fk_istore_n (lv' := [(0, .ref r0), (1, .int (nI a2)), (2, .int (nI nw_75)), (3, .int (nI rd))]) d_Re_allCanEnd_78 rfl (Nat.le_of_ble_eq_true rfl) [1, 2, 0, 3] rfl ?_
                refine fk_iload_n 1 d_Re_allCanEnd_79 rfl ?_
                refine fk_iload_n 2 d_Re_allCanEnd_80 rfl ?_
                refine fk_iadd (a := a2) (b := nw_75) d_Re_allCanEnd_81 ?_
                refine fk_istore_n (lv' := [(0, .ref r0), (1, .int (nI (a2 + nw_75))), (2, .int (nI nw_75)), (3, .int (nI rd))]) d_Re_allCanEnd_82 rfl (Nat.le_of_ble_eq_true rfl) [1, 0, 2, 3] rfl ?_
                refine fk_iinc (j := 3) (lv' := [(0, .ref r0), (1, .int (nI (a2 + nw_75))), (2, .int (nI nw_75)), (3, .int (nI (rd + 1)))]) (rd + 1) d_Re_allCanEnd_83 rfl (nI_1 rd) (Nat.le_of_ble_eq_true rfl) [1, 2, 3, 0] rfl ?_
                refine fk_goto d_Re_allCanEnd_86 rfl ?_
                refine ih63 _ _ _ _ ?_ ?_ ?_ ?_
                · first | omega | assumption | exact Nat.zero_le _
                · exact fe_rd_s h5 h71f hq75.1 hn
                · exact hq75.2
                · omega
        refine L63 _ _ _ _ _ ?_ ?_ ?_ (Nat.lt_succ_self _)
        · first | omega | assumption | exact Nat.zero_le _
        · have e : i = c := by omega
          rw [e] at h2 h3
          exact fe_rd_0 h2 h3 hn
        · have := fe_ct_le e1 i
          omega
      · have g1 := hs i h9f
        have g2 := fe_ct_le e1 i
        refine fk_aload_n 0 d_Re_allCanEnd_12 rfl ?_
        refine fk_get 0 3 rfl rfl fh_Re (Nat.le_of_ble_eq_true rfl) fw_105 rfl d_Re_allCanEnd_13 ?_
        refine fk_iload_n 2 d_Re_allCanEnd_16 rfl ?_
        refine fk_aload_n 0 d_Re_allCanEnd_17 rfl ?_
        refine fk_get 0 0 rfl rfl fh_Re (Nat.le_of_ble_eq_true rfl) fw_102 rfl d_Re_allCanEnd_18 ?_
        refine fk_iload_n 2 d_Re_allCanEnd_21 rfl ?_
        refine fk_ld_al (i := i) 1 rfl (by omega) (by decide) d_Re_allCanEnd_22 ?_
        refine fk_ldc2 (v := (16 : Int64)) d_Re_allCanEnd_23 fw_427 ?_
        refine fk_topl (show (16 : Int64) = lN 16 by decide +kernel) ?_
        refine fk_lcmpR d_Re_allCanEnd_26 ?_
        refine fk_cmp_ne (a := (sn i)) (b := 16) (g1) (by decide) d_Re_allCanEnd_27 rfl (fun h27t => ?_) (fun h27f => ?_)
        · refine fk_iconst (v := nI 0) d_Re_allCanEnd_34 (by decide +kernel) ?_
          refine fk_st_az (i := i) (x := false) (w' := [(r0, .inr (4, [.ref r1, .ref r2, .ref r3, .ref r4, .int (nI c), .int (nI ev)])), fk_al E r1 200 sn, fk_aj E r3 1400 nx, fk_az E r4 200 (va_up e1 i false)]) 3 rfl (by omega) (by decide) d_Re_allCanEnd_35 rfl ?_
          refine fk_iload_n 1 d_Re_allCanEnd_36 rfl ?_
          refine fk_aload_n 0 d_Re_allCanEnd_37 rfl ?_
          refine fk_get 0 3 rfl rfl fh_Re (Nat.le_of_ble_eq_true rfl) fw_105 rfl d_Re_allCanEnd_38 ?_
          refine fk_iload_n 2 d_Re_allCanEnd_41 rfl ?_
          refine fk_ld_az (i := i) 3 rfl (by omega) (by decide) d_Re_allCanEnd_42 ?_
          refine fk_top (congrArg (fun b : Bool => nI b.toNat) (va_up_self _ _ _)) ?_
          refine fk_if_eqB (b := false) d_Re_allCanEnd_43 rfl (fun h43t => ?_) (fun h43f => ?_)
          · refine fk_iconst (v := nI 0) d_Re_allCanEnd_50 (by decide +kernel) ?_
            refine fk_iadd (a := ab) (b := 0) d_Re_allCanEnd_51 ?_
            refine fk_istore_n (lv' := [(0, .ref r0), (1, .int (nI (ab + 0))), (2, .int (nI i))]) d_Re_allCanEnd_52 rfl (Nat.le_of_ble_eq_true rfl) [1, 0, 2] rfl ?_
            refine fk_iinc (j := 2) (lv' := [(0, .ref r0), (1, .int (nI (ab + 0))), (2, .int (nI (i + 1)))]) (i + 1) d_Re_allCanEnd_53 rfl (nI_1 i) (Nat.le_of_ble_eq_true rfl) [1, 2, 0] rfl ?_
            refine fk_goto d_Re_allCanEnd_56 rfl ?_
            refine ih4 _ _ _ ?_ ?_ ?_ ?_
            · first | omega | assumption | exact Nat.zero_le _
            · rw [fe_ct_upn, h2]
              rfl
            · intro m hm
              by_cases e : m = i
              · rw [e, va_up_self]
                first | rw [decide_eq_true h27f] | rw [decide_eq_false h27t]
              · rw [va_up_ne _ _ e]
                exact h3 m (by omega)
            · omega
          · exact absurd h43f (by decide)
        · refine fk_iconst (v := nI 1) d_Re_allCanEnd_30 (by decide +kernel) ?_
          refine fk_goto d_Re_allCanEnd_31 rfl ?_
          refine fk_st_az (i := i) (x := true) (w' := [(r0, .inr (4, [.ref r1, .ref r2, .ref r3, .ref r4, .int (nI c), .int (nI ev)])), fk_al E r1 200 sn, fk_aj E r3 1400 nx, fk_az E r4 200 (va_up e1 i true)]) 3 rfl (by omega) (by decide) d_Re_allCanEnd_35 rfl ?_
          refine fk_iload_n 1 d_Re_allCanEnd_36 rfl ?_
          refine fk_aload_n 0 d_Re_allCanEnd_37 rfl ?_
          refine fk_get 0 3 rfl rfl fh_Re (Nat.le_of_ble_eq_true rfl) fw_105 rfl d_Re_allCanEnd_38 ?_
          refine fk_iload_n 2 d_Re_allCanEnd_41 rfl ?_
          refine fk_ld_az (i := i) 3 rfl (by omega) (by decide) d_Re_allCanEnd_42 ?_
          refine fk_top (congrArg (fun b : Bool => nI b.toNat) (va_up_self _ _ _)) ?_
          refine fk_if_eqB (b := true) d_Re_allCanEnd_43 rfl (fun h43t => ?_) (fun h43f => ?_)
          · exact absurd h43t (by decide)
          · refine fk_iconst (v := nI 1) d_Re_allCanEnd_46 (by decide +kernel) ?_
            refine fk_goto d_Re_allCanEnd_47 rfl ?_
            refine fk_iadd (a := ab) (b := 1) d_Re_allCanEnd_51 ?_
            refine fk_istore_n (lv' := [(0, .ref r0), (1, .int (nI (ab + 1))), (2, .int (nI i))]) d_Re_allCanEnd_52 rfl (Nat.le_of_ble_eq_true rfl) [1, 0, 2] rfl ?_
            refine fk_iinc (j := 2) (lv' := [(0, .ref r0), (1, .int (nI (ab + 1))), (2, .int (nI (i + 1)))]) (i + 1) d_Re_allCanEnd_53 rfl (nI_1 i) (Nat.le_of_ble_eq_true rfl) [1, 2, 0] rfl ?_
            refine fk_goto d_Re_allCanEnd_56 rfl ?_
            refine ih4 _ _ _ ?_ ?_ ?_ ?_
            · first | omega | assumption | exact Nat.zero_le _
            · rw [fe_ct_upn, h2]
              rfl
            · intro m hm
              by_cases e : m = i
              · rw [e, va_up_self]
                first | rw [decide_eq_true h27f] | rw [decide_eq_false h27t]
              · rw [va_up_ne _ _ e]
                exact h3 m (by omega)
            · omega
  refine L4 _ _ _ _ ?_ ?_ ?_ (Nat.lt_succ_self _)
  · first | omega | assumption | exact Nat.zero_le _
  · rfl
  · exact fun m hm => absurd hm (Nat.not_lt_zero m)
theorem d_Re_provesSound_0 : decode prog_6_method_7_code 0 = .ok (.aload_n 0, 1) := by decide +kernel
theorem d_Re_provesSound_1 : decode prog_6_method_7_code 1 = .ok (.getfield 30, 3) := by decide +kernel
theorem d_Re_provesSound_4 : decode prog_6_method_7_code 4 = .ok (.aload_n 1, 1) := by decide +kernel
theorem d_Re_provesSound_5 : decode prog_6_method_7_code 5 = .ok (.invokevirtual 68, 3) := by decide +kernel
theorem d_Re_provesSound_8 : decode prog_6_method_7_code 8 = .ok (.if_icmp .ne 21, 3) := by decide +kernel
theorem d_Re_provesSound_11 : decode prog_6_method_7_code 11 = .ok (.aload_n 0, 1) := by decide +kernel
theorem d_Re_provesSound_12 : decode prog_6_method_7_code 12 = .ok (.invokevirtual 72, 3) := by decide +kernel
theorem d_Re_provesSound_15 : decode prog_6_method_7_code 15 = .ok (.ifCond .eq 14, 3) := by decide +kernel
theorem d_Re_provesSound_18 : decode prog_6_method_7_code 18 = .ok (.aload_n 0, 1) := by decide +kernel
theorem d_Re_provesSound_19 : decode prog_6_method_7_code 19 = .ok (.invokevirtual 76, 3) := by decide +kernel
theorem d_Re_provesSound_22 : decode prog_6_method_7_code 22 = .ok (.ifCond .eq 7, 3) := by decide +kernel
theorem d_Re_provesSound_25 : decode prog_6_method_7_code 25 = .ok (.iconst 1, 1) := by decide +kernel
theorem d_Re_provesSound_26 : decode prog_6_method_7_code 26 = .ok (.goto 4, 3) := by decide +kernel
theorem d_Re_provesSound_29 : decode prog_6_method_7_code 29 = .ok (.iconst 0, 1) := by decide +kernel
theorem d_Re_provesSound_30 : decode prog_6_method_7_code 30 = .ok (.ireturn, 1) := by decide +kernel
set_option maxRecDepth 20000 in
set_option maxHeartbeats 4000000 in
theorem cR_provesSound (E : fk_E) (r0 : Nat) (r1 : Nat) (r2 : Nat) (r3 : Nat) (r4 : Nat) (c : Nat) (ev : Nat) (n0 : Nat) (n1 : Nat) (n2 : Nat) (n3 : Nat) (n4 : Nat) (cnt : Nat) (fi : Nat) (la : Nat) (lo : Nat) (me : Nat) (sn : Nat → Nat) (nx : Nat → Nat) (en : Nat → Bool) (hc : c ≤ 200) (hn : ∀ j, j < 7 * c → nx j ≤ c) (hs : ∀ i, i < c → sn i < 2 ^ 64) (he : ev < 128) (hm : me < 128) : fk_C E fy_Re_provesSound prog_6_method_7_code 2 (some .boolean) 3 0 0 [.ref r0, .ref n0] [(r0, .inr (4, [.ref r1, .ref r2, .ref r3, .ref r4, .int (nI c), .int (nI ev)])), fk_al E r1 200 sn, fk_aj E r3 1400 nx, fk_az E r4 200 en, (n0, .inr (2, [.ref n1, .ref n2, .ref n3, .ref n4, .int (nI cnt), .int (nI fi), .int (nI la), .int (nI lo), .int (nI me)]))] (S := (Nat → Bool)) (fun (u : (Nat → Bool)) => some (.int (nI (Bool.toNat (decide (ev = me) && (fe_cl sn c && fe_all sn nx c)))))) (fun (u : (Nat → Bool)) => True) (fun (u : (Nat → Bool)) => [(r0, .inr (4, [.ref r1, .ref r2, .ref r3, .ref r4, .int (nI c), .int (nI ev)])), fk_al E r1 200 sn, fk_aj E r3 1400 nx, fk_az E r4 200 u, (n0, .inr (2, [.ref n1, .ref n2, .ref n3, .ref n4, .int (nI cnt), .int (nI fi), .int (nI la), .int (nI lo), .int (nI me)]))]) := by
  refine fk_enterZ (v := fun (u : (Nat → Bool)) => decide (ev = me) && (fe_cl sn c && fe_all sn nx c)) (by decide) (Nat.le_of_ble_eq_true rfl) (lv0 := [(0, .ref r0), (1, .ref n0)]) rfl ?_
  intro K hini hret
  refine fk_aload_n 0 d_Re_provesSound_0 rfl ?_
  refine fk_get 0 5 rfl rfl fh_Re (Nat.le_of_ble_eq_true rfl) fw_107 rfl d_Re_provesSound_1 ?_
  refine fk_aload_n 1 d_Re_provesSound_4 rfl ?_
  refine fk_callV (q0 := 4) (As := []) (rest := [.int (nI ev)]) (is := [4]) (ir := [0, 1, 2, 3]) (ip := [0, 1, 2, 3, 4]) (wc := [(n0, .inr (2, [.ref n1, .ref n2, .ref n3, .ref n4, .int (nI cnt), .int (nI fi), .int (nI la), .int (nI lo), .int (nI me)]))]) (wr := [(r0, .inr (4, [.ref r1, .ref r2, .ref r3, .ref r4, .int (nI c), .int (nI ev)])), fk_al E r1 200 sn, fk_aj E r3 1400 nx, fk_az E r4 200 en]) (w2 := fun _ => [(r0, .inr (4, [.ref r1, .ref r2, .ref r3, .ref r4, .int (nI c), .int (nI ev)])), fk_al E r1 200 sn, fk_aj E r3 1400 nx, fk_az E r4 200 en, (n0, .inr (2, [.ref n1, .ref n2, .ref n3, .ref n4, .int (nI cnt), .int (nI fi), .int (nI la), .int (nI lo), .int (nI me)]))]) (cN_activitySet E n0 n1 n2 n3 n4 cnt fi la lo me ) d_Re_provesSound_5 fz_Nt_activitySet fw_418 rfl rfl fw_419 fw_420 ⟨Nat.le_of_ble_eq_true rfl, Nat.le_of_ble_eq_true rfl⟩ rfl (Nat.le_of_ble_eq_true rfl) ⟨Nat.zero_le _, Nat.zero_le _⟩ ⟨rfl, rfl, rfl, rfl, by decide, fun _ => rfl, rfl⟩ (fun u hu5 => ?_)
  show fk_V E _ K (0, 0) [(r0, .inr (4, [.ref r1, .ref r2, .ref r3, .ref r4, .int (nI c), .int (nI ev)])), fk_al E r1 200 sn, fk_aj E r3 1400 nx, fk_az E r4 200 en, (n0, .inr (2, [.ref n1, .ref n2, .ref n3, .ref n4, .int (nI cnt), .int (nI fi), .int (nI la), .int (nI lo), .int (nI me)]))] 8 [(0, .ref r0), (1, .ref n0)] [.int (nI me), .int (nI ev)]
  refine fk_icmp_ne (a := ev) (b := me) (by omega) (by omega) d_Re_provesSound_8 rfl (fun h8t => ?_) (fun h8f => ?_)
  · refine fk_iconst (v := nI 0) d_Re_provesSound_29 (by decide +kernel) ?_
    refine fk_top (fn_rf (b := decide (ev = me) && (fe_cl sn c && fe_all sn nx c)) (by first | (rw [decide_eq_false h8t]; rfl) | (rw [h15t]; simp; done) | (rw [h22t]; simp; done) | (rw [decide_eq_true h8f, h15f, h22f]; rfl))) ?_
    exact hret (0, 0) _ 30 _ en d_Re_provesSound_30 (trivial) (rfl)
  · refine fk_aload_n 0 d_Re_provesSound_11 rfl ?_
    refine fk_callV (q0 := 0) (As := []) (rest := []) (is := [0, 1]) (ir := [2, 3, 4]) (ip := [3, 4, 0, 1, 2]) (wc := [(r0, .inr (4, [.ref r1, .ref r2, .ref r3, .ref r4, .int (nI c), .int (nI ev)])), fk_al E r1 200 sn]) (wr := [fk_aj E r3 1400 nx, fk_az E r4 200 en, (n0, .inr (2, [.ref n1, .ref n2, .ref n3, .ref n4, .int (nI cnt), .int (nI fi), .int (nI la), .int (nI lo), .int (nI me)]))]) (w2 := fun _ => [(r0, .inr (4, [.ref r1, .ref r2, .ref r3, .ref r4, .int (nI c), .int (nI ev)])), fk_al E r1 200 sn, fk_aj E r3 1400 nx, fk_az E r4 200 en, (n0, .inr (2, [.ref n1, .ref n2, .ref n3, .ref n4, .int (nI cnt), .int (nI fi), .int (nI la), .int (nI lo), .int (nI me)]))]) (cR_sinkMeansFinal E r0 r1 r2 r3 r4 c ev sn (by first | omega | assumption) (by first | omega | assumption)) d_Re_provesSound_12 fz_Re_sinkMeansFinal fw_422 rfl rfl fw_424 fw_p11 ⟨Nat.le_of_ble_eq_true rfl, Nat.le_of_ble_eq_true rfl⟩ rfl (Nat.le_of_ble_eq_true rfl) ⟨Nat.zero_le _, Nat.zero_le _⟩ ⟨rfl, rfl, rfl, rfl, by decide, fun _ => rfl, rfl⟩ (fun u hu12 => ?_)
    show fk_V E _ K (0, 0) [(r0, .inr (4, [.ref r1, .ref r2, .ref r3, .ref r4, .int (nI c), .int (nI ev)])), fk_al E r1 200 sn, fk_aj E r3 1400 nx, fk_az E r4 200 en, (n0, .inr (2, [.ref n1, .ref n2, .ref n3, .ref n4, .int (nI cnt), .int (nI fi), .int (nI la), .int (nI lo), .int (nI me)]))] 15 [(0, .ref r0), (1, .ref n0)] [.int (nI (Bool.toNat (fe_cl sn c)))]
    refine fk_if_eqB (b := (fe_cl sn c)) d_Re_provesSound_15 rfl (fun h15t => ?_) (fun h15f => ?_)
    · refine fk_iconst (v := nI 0) d_Re_provesSound_29 (by decide +kernel) ?_
      refine fk_top (fn_rf (b := decide (ev = me) && (fe_cl sn c && fe_all sn nx c)) (by first | (rw [decide_eq_false h8t]; rfl) | (rw [h15t]; simp; done) | (rw [h22t]; simp; done) | (rw [decide_eq_true h8f, h15f, h22f]; rfl))) ?_
      exact hret (0, 0) _ 30 _ en d_Re_provesSound_30 (trivial) (rfl)
    · refine fk_aload_n 0 d_Re_provesSound_18 rfl ?_
      refine fk_callV (q0 := 0) (As := []) (rest := []) (is := [0, 1, 2, 3]) (ir := [4]) (ip := [1, 2, 3, 4, 0]) (wc := [(r0, .inr (4, [.ref r1, .ref r2, .ref r3, .ref r4, .int (nI c), .int (nI ev)])), fk_al E r1 200 sn, fk_aj E r3 1400 nx, fk_az E r4 200 en]) (wr := [(n0, .inr (2, [.ref n1, .ref n2, .ref n3, .ref n4, .int (nI cnt), .int (nI fi), .int (nI la), .int (nI lo), .int (nI me)]))]) (w2 := fun u => [(r0, .inr (4, [.ref r1, .ref r2, .ref r3, .ref r4, .int (nI c), .int (nI ev)])), fk_al E r1 200 sn, fk_aj E r3 1400 nx, fk_az E r4 200 u, (n0, .inr (2, [.ref n1, .ref n2, .ref n3, .ref n4, .int (nI cnt), .int (nI fi), .int (nI la), .int (nI lo), .int (nI me)]))]) (cR_allCanEnd E r0 r1 r2 r3 r4 c ev sn nx en (by first | omega | assumption) (by first | omega | assumption) (by first | omega | assumption)) d_Re_provesSound_19 fz_Re_allCanEnd fw_428 rfl rfl fw_430 fw_p12 ⟨Nat.le_of_ble_eq_true rfl, Nat.le_of_ble_eq_true rfl⟩ rfl (Nat.le_of_ble_eq_true rfl) ⟨Nat.zero_le _, Nat.zero_le _⟩ ⟨rfl, rfl, rfl, rfl, by decide, fun _ => rfl, rfl⟩ (fun u hu19 => ?_)
      obtain ⟨en9_19, rfl⟩ : ∃ z, z = u := ⟨_, rfl⟩
      show fk_V E _ K (0, 0) [(r0, .inr (4, [.ref r1, .ref r2, .ref r3, .ref r4, .int (nI c), .int (nI ev)])), fk_al E r1 200 sn, fk_aj E r3 1400 nx, fk_az E r4 200 en9_19, (n0, .inr (2, [.ref n1, .ref n2, .ref n3, .ref n4, .int (nI cnt), .int (nI fi), .int (nI la), .int (nI lo), .int (nI me)]))] 22 [(0, .ref r0), (1, .ref n0)] [.int (nI (Bool.toNat (fe_all sn nx c)))]
      refine fk_if_eqB (b := (fe_all sn nx c)) d_Re_provesSound_22 rfl (fun h22t => ?_) (fun h22f => ?_)
      · refine fk_iconst (v := nI 0) d_Re_provesSound_29 (by decide +kernel) ?_
        refine fk_top (fn_rf (b := decide (ev = me) && (fe_cl sn c && fe_all sn nx c)) (by first | (rw [decide_eq_false h8t]; rfl) | (rw [h15t]; simp; done) | (rw [h22t]; simp; done) | (rw [decide_eq_true h8f, h15f, h22f]; rfl))) ?_
        exact hret (0, 0) _ 30 _ en9_19 d_Re_provesSound_30 (trivial) (rfl)
      · refine fk_iconst (v := nI 1) d_Re_provesSound_25 (by decide +kernel) ?_
        refine fk_goto d_Re_provesSound_26 rfl ?_
        refine fk_top (fn_rt (b := decide (ev = me) && (fe_cl sn c && fe_all sn nx c)) (by first | (rw [decide_eq_false h8t]; rfl) | (rw [h15t]; simp; done) | (rw [h22t]; simp; done) | (rw [decide_eq_true h8f, h15f, h22f]; rfl))) ?_
        exact hret (0, 0) _ 30 _ en9_19 d_Re_provesSound_30 (trivial) (rfl)
end
section
/-! playing and replaying -/
def fp_pk (e : Nat) : Nat → Nat → Nat → Nat
  | 0, _, _ => 0
  | f + 1, a, l => if e.testBit a = true then (if l = 0 then a else fp_pk e f (a + 1) (l - 1)) else fp_pk e f (a + 1) l
def fp_bt (e : Nat) : Nat → Nat → Nat
  | 0, _ => 0
  | f + 1, a => (e.testBit a).toNat + fp_bt e f (a + 1)
theorem fp_bt_bc : ∀ e, e < 128 → fp_bt e 7 0 = fs_bc e 7 := by decide +kernel
theorem fp_pk_in {e : Nat} : ∀ {f a l : Nat}, l < fp_bt e f a → a ≤ fp_pk e f a l ∧ fp_pk e f a l < a + f ∧ e.testBit (fp_pk e f a l) = true
  | 0, _, _, h => absurd h (Nat.not_lt_zero _)
  | f + 1, a, l, h => by
    have h1 : l < (e.testBit a).toNat + fp_bt e f (a + 1) := h
    show a ≤ (if e.testBit a = true then (if l = 0 then a else fp_pk e f (a + 1) (l - 1)) else fp_pk e f (a + 1) l) ∧ _ < _ ∧ e.testBit _ = true
    by_cases q : e.testBit a = true
    · have e9 : fp_pk e (f + 1) a l = if l = 0 then a else fp_pk e f (a + 1) (l - 1) := by
        show (if e.testBit a = true then (if l = 0 then a else fp_pk e f (a + 1) (l - 1)) else fp_pk e f (a + 1) l) = _
        rw [if_pos q]
      rw [e9, if_pos q]
      by_cases z : l = 0
      · rw [if_pos z]
        exact ⟨Nat.le_refl _, by omega, q⟩
      · rw [if_neg z]
        rw [q] at h1
        have h2 := fp_pk_in (e := e) (f := f) (a := a + 1) (l := l - 1) (by simp at h1; omega)
        exact ⟨by omega, by omega, h2.2.2⟩
    · have e9 : fp_pk e (f + 1) a l = fp_pk e f (a + 1) l := by
        show (if e.testBit a = true then (if l = 0 then a else fp_pk e f (a + 1) (l - 1)) else fp_pk e f (a + 1) l) = _
        rw [if_neg q]
      rw [e9, if_neg q]
      have q' : e.testBit a = false := by cases z : e.testBit a <;> simp_all
      rw [q'] at h1
      have h2 := fp_pk_in (e := e) (f := f) (a := a + 1) (l := l) (by simp at h1; omega)
      exact ⟨by omega, by omega, h2.2.2⟩
theorem fs_bc_pos : ∀ e, e < 128 → e ≠ 0 → 0 < fs_bc e 7 := by decide +kernel
theorem fp_pk_ok {e num : Nat} (he : e < 128) (h0 : e ≠ 0) : fp_pk e 7 0 (num % fs_bc e 7) < 7 ∧ e.testBit (fp_pk e 7 0 (num % fs_bc e 7)) = true := by
  have h1 := fp_pk_in (e := e) (f := 7) (a := 0) (l := num % fs_bc e 7) (by rw [fp_bt_bc e he]; exact Nat.mod_lt _ (fs_bc_pos e he h0))
  exact ⟨by omega, h1.2.2⟩
/-- after n firings no place but the source holds more than n -/
def fp_bd (x n : Nat) : Prop := x < 2 ^ 64 ∧ ∀ j, j < 16 → fm_dg x j ≤ if j = 0 then 1 else n
theorem fp_bd_0 : fp_bd 1 0 := ⟨by decide, by decide +kernel⟩
theorem fp_fire {O I : Nat → Nat} {x a n : Nat} (hI : I 0 = 0) (h : fp_bd x n) (hn : n < 15) : fp_bd (fs_fire O I x a) (n + 1) ∧ ∀ j, j < 16 → fm_dg (fs_fire O I x a) j = fm_dg x j - (fs_tak O a j).toNat + (fs_tak I a j).toNat := by
  have k : ∀ j, j < 16 → fm_dg x j - (fs_tak O a j).toNat + (fs_tak I a j).toNat ≤ if j = 0 then 1 else n + 1 := fun j hj => by
    have h1 := h.2 j hj
    by_cases z : j = 0
    · subst z
      rw [if_pos rfl] at h1 ⊢
      have : (fs_tak I a 0).toNat = 0 := by unfold fs_tak; rw [hI, Nat.zero_testBit]; rfl
      omega
    · rw [if_neg z] at h1 ⊢
      have h2 : (fs_tak I a j).toNat ≤ 1 := by cases fs_tak I a j <;> decide
      omega
  have k2 : ∀ j, j < 16 → fm_dg x j - (fs_tak O a j).toNat + (fs_tak I a j).toNat < 16 := fun j hj => by
    have := k j hj
    split at this <;> omega
  have d := fun j (hj : j < 16) => fm_fire_dg (fs_tak O a) (fs_tak I a) k2 hj
  exact ⟨⟨fm_fire_lt _ _ k2, fun j hj => by rw [show fm_dg (fs_fire O I x a) j = _ from d j hj]; exact k j hj⟩, d⟩
abbrev fp_X : Type := Nat × Nat × (Nat → Nat) × Bool
def fp_ch (O : Nat → Nat) (me tp x n : Nat) : Nat := fp_pk (fs_ens O me x) 7 0 (tp / 2 ^ (3 * n) % 8 % fs_bc (fs_ens O me x) 7)
def fp_step (O I : Nat → Nat) (me tp : Nat) (X : fp_X) : fp_X :=
  if X.2.2.2 = true ∨ 15 ≤ X.2.1 ∨ X.1 = 16 then X
  else if fs_ens O me X.1 = 0 then (X.1, X.2.1, X.2.2.1, true)
  else (fs_fire O I X.1 (fp_ch O me tp X.1 X.2.1), X.2.1 + 1, va_up X.2.2.1 X.2.1 (fp_ch O me tp X.1 X.2.1), false)
def fp_run (O I : Nat → Nat) (me tp : Nat) : Nat → fp_X
  | 0 => (1, 0, fun _ => 0, false)
  | k + 1 => fp_step O I me tp (fp_run O I me tp k)
/-- the state after n firings -/
def fp_R (O I : Nat → Nat) (me tp n x : Nat) (fr : Nat → Nat) : Prop := ∃ f : Nat → Nat, fp_run O I me tp n = (x, n, f, false) ∧ ∀ j, j < n → fr j = f j
theorem fp_R_0 (O I : Nat → Nat) (me tp : Nat) (fr : Nat → Nat) : fp_R O I me tp 0 1 fr := ⟨_, rfl, fun j hj => absurd hj (Nat.not_lt_zero j)⟩
theorem fp_R_s {O I : Nat → Nat} {me tp n x : Nat} {fr : Nat → Nat} (h : fp_R O I me tp n x fr) (hn : n < 15) (hx : x ≠ 16) (he : fs_ens O me x ≠ 0) : fp_R O I me tp (n + 1) (fs_fire O I x (fp_ch O me tp x n)) (va_up fr n (fp_ch O me tp x n)) := by
  obtain ⟨f, h1, h2⟩ := h
  refine ⟨va_up f n (fp_ch O me tp x n), ?_, fun j hj => ?_⟩
  · show fp_step O I me tp (fp_run O I me tp n) = _
    rw [h1]
    unfold fp_step
    rw [if_neg (by simp; omega), if_neg he]
  · rcases Nat.lt_or_ge j n with q | q
    · rw [va_up_ne _ _ (by omega), va_up_ne _ _ (by omega)]; exact h2 j q
    · rw [show j = n by omega, va_up_self, va_up_self]
theorem fp_stop {O I : Nat → Nat} {me tp k : Nat} (h : (fp_run O I me tp k).2.2.2 = true ∨ 15 ≤ (fp_run O I me tp k).2.1 ∨ (fp_run O I me tp k).1 = 16) {m : Nat} (hm : k ≤ m) : fp_run O I me tp m = fp_run O I me tp k := by
  induction m with
  | zero => rw [show k = 0 by omega]
  | succ m ih =>
    rcases Nat.lt_or_ge k (m + 1) with q | q
    · have e := ih (by omega)
      show fp_step O I me tp (fp_run O I me tp m) = _
      rw [e]
      unfold fp_step
      rw [if_pos h]
    · rw [show m + 1 = k by omega]
theorem fp_R_end {O I : Nat → Nat} {me tp n x : Nat} {fr : Nat → Nat} (h : fp_R O I me tp n x fr) (hn : n ≤ 15) (hx : 15 ≤ n ∨ x = 16) : (fp_run O I me tp 16).1 = x ∧ (fp_run O I me tp 16).2.1 = n ∧ ∀ j, j < n → fr j = (fp_run O I me tp 16).2.2.1 j := by
  obtain ⟨f, h1, h2⟩ := h
  have e := fp_stop (O := O) (I := I) (me := me) (tp := tp) (k := n) (by rw [h1]; exact Or.inr hx) (m := 16) (by omega)
  rw [e, h1]
  exact ⟨rfl, rfl, h2⟩
theorem fp_R_dead {O I : Nat → Nat} {me tp n x : Nat} {fr : Nat → Nat} (h : fp_R O I me tp n x fr) (hn : n < 15) (hx : x ≠ 16) (he : fs_ens O me x = 0) : (fp_run O I me tp 16).1 ≠ 16 := by
  obtain ⟨f, h1, h2⟩ := h
  have e1 : fp_run O I me tp (n + 1) = (x, n, f, true) := by
    show fp_step O I me tp (fp_run O I me tp n) = _
    rw [h1]
    unfold fp_step
    rw [if_neg (by simp; omega), if_pos he]
  have e := fp_stop (O := O) (I := I) (me := me) (tp := tp) (k := n + 1) (by rw [e1]; exact Or.inl rfl) (m := 16) (by omega)
  rw [e, e1]
  exact hx
/-- replaying the events e 0, e 1 .. -/
def ft_run (O I : Nat → Nat) (me : Nat) (e : Nat → Nat) : Nat → Nat × Bool
  | 0 => (1, true)
  | i + 1 => if (ft_run O I me e i).2 = true ∧ fs_en O me (ft_run O I me e i).1 (e i) = true then (fs_fire O I (ft_run O I me e i).1 (e i), true) else ((ft_run O I me e i).1, false)
theorem ft_e (O I : Nat → Nat) (me : Nat) (e : Nat → Nat) (i : Nat) : ft_run O I me e (i + 1) = if (ft_run O I me e i).2 = true ∧ fs_en O me (ft_run O I me e i).1 (e i) = true then (fs_fire O I (ft_run O I me e i).1 (e i), true) else ((ft_run O I me e i).1, false) := rfl
def ft_ok (O I : Nat → Nat) (me : Nat) (e : Nat → Nat) (n : Nat) : Bool := (ft_run O I me e n).2 && decide ((ft_run O I me e n).1 = 16)
theorem ft_s {O I : Nat → Nat} {me x i : Nat} {e : Nat → Nat} (h : ft_run O I me e i = (x, true)) (he : fs_en O me x (e i) = true) : ft_run O I me e (i + 1) = (fs_fire O I x (e i), true) := by
  show (if (ft_run O I me e i).2 = true ∧ fs_en O me (ft_run O I me e i).1 (e i) = true then _ else _) = _
  rw [h, if_pos ⟨rfl, he⟩]
theorem ft_no {O I : Nat → Nat} {me x i : Nat} {e : Nat → Nat} (h : ft_run O I me e i = (x, true)) (he : fs_en O me x (e i) = false) {n : Nat} (hn : i < n) : (ft_run O I me e n).2 = false := by
  induction n with
  | zero => exact absurd hn (Nat.not_lt_zero _)
  | succ n ih =>
    rw [ft_e]
    rcases Nat.lt_or_ge i n with q | q
    · rw [if_neg (by rw [ih q]; simp)]
    · have e9 : n = i := by omega
      subst e9
      rw [h, if_neg (by rw [he]; simp)]
end
section
theorem d_Pl_chosenOf_0 : decode prog_5_method_5_code 0 = .ok (.iload_n 0, 1) := by decide +kernel
theorem d_Pl_chosenOf_1 : decode prog_5_method_5_code 1 = .ok (.invokestatic 37, 3) := by decide +kernel
theorem d_Pl_chosenOf_4 : decode prog_5_method_5_code 4 = .ok (.istore_n 2, 1) := by decide +kernel
theorem d_Pl_chosenOf_5 : decode prog_5_method_5_code 5 = .ok (.iload_n 2, 1) := by decide +kernel
theorem d_Pl_chosenOf_6 : decode prog_5_method_5_code 6 = .ok (.ifCond .ne 7, 3) := by decide +kernel
theorem d_Pl_chosenOf_9 : decode prog_5_method_5_code 9 = .ok (.iconst 0, 1) := by decide +kernel
theorem d_Pl_chosenOf_10 : decode prog_5_method_5_code 10 = .ok (.goto 6, 3) := by decide +kernel
theorem d_Pl_chosenOf_13 : decode prog_5_method_5_code 13 = .ok (.iload_n 1, 1) := by decide +kernel
theorem d_Pl_chosenOf_14 : decode prog_5_method_5_code 14 = .ok (.iload_n 2, 1) := by decide +kernel
theorem d_Pl_chosenOf_15 : decode prog_5_method_5_code 15 = .ok (.irem, 1) := by decide +kernel
theorem d_Pl_chosenOf_16 : decode prog_5_method_5_code 16 = .ok (.istore_n 3, 1) := by decide +kernel
theorem d_Pl_chosenOf_17 : decode prog_5_method_5_code 17 = .ok (.iconst 0, 1) := by decide +kernel
theorem d_Pl_chosenOf_18 : decode prog_5_method_5_code 18 = .ok (.istore 4, 2) := by decide +kernel
theorem d_Pl_chosenOf_20 : decode prog_5_method_5_code 20 = .ok (.iload 4, 2) := by decide +kernel
theorem d_Pl_chosenOf_22 : decode prog_5_method_5_code 22 = .ok (.bipush 7, 2) := by decide +kernel
theorem d_Pl_chosenOf_24 : decode prog_5_method_5_code 24 = .ok (.if_icmp .ge 28, 3) := by decide +kernel
theorem d_Pl_chosenOf_27 : decode prog_5_method_5_code 27 = .ok (.iload 4, 2) := by decide +kernel
theorem d_Pl_chosenOf_29 : decode prog_5_method_5_code 29 = .ok (.iload_n 0, 1) := by decide +kernel
theorem d_Pl_chosenOf_30 : decode prog_5_method_5_code 30 = .ok (.invokestatic 43, 3) := by decide +kernel
theorem d_Pl_chosenOf_33 : decode prog_5_method_5_code 33 = .ok (.ifCond .eq 13, 3) := by decide +kernel
theorem d_Pl_chosenOf_36 : decode prog_5_method_5_code 36 = .ok (.iload_n 3, 1) := by decide +kernel
theorem d_Pl_chosenOf_37 : decode prog_5_method_5_code 37 = .ok (.ifCond .ne 6, 3) := by decide +kernel
theorem d_Pl_chosenOf_40 : decode prog_5_method_5_code 40 = .ok (.iload 4, 2) := by decide +kernel
theorem d_Pl_chosenOf_42 : decode prog_5_method_5_code 42 = .ok (.ireturn, 1) := by decide +kernel
theorem d_Pl_chosenOf_43 : decode prog_5_method_5_code 43 = .ok (.iinc 3 (-1), 3) := by decide +kernel
theorem d_Pl_chosenOf_46 : decode prog_5_method_5_code 46 = .ok (.iinc 4 1, 3) := by decide +kernel
theorem d_Pl_chosenOf_49 : decode prog_5_method_5_code 49 = .ok (.goto (-29), 3) := by decide +kernel
theorem d_Pl_chosenOf_52 : decode prog_5_method_5_code 52 = .ok (.iconst 0, 1) := by decide +kernel
theorem d_Pl_chosenOf_53 : decode prog_5_method_5_code 53 = .ok (.ireturn, 1) := by decide +kernel
set_option maxRecDepth 20000 in
set_option maxHeartbeats 4000000 in
theorem cP_chosenOf (E : fk_E) (e : Nat) (num : Nat) (he : e < 128) (h0 : e ≠ 0) (hn : num < 8) : fk_C E fy_Pl_chosenOf prog_5_method_5_code 5 (some .int) 1 0 0 [.int (nI e), .int (nI num)] [] (S := Unit) (fun _ => some (.int (nI (fp_pk e 7 0 (num % fs_bc e 7))))) (fun _ => True) (fun _ => []) := by
  refine fk_enterI (v := fun _ => (nI (fp_pk e 7 0 (num % fs_bc e 7)))) (by decide) (Nat.le_of_ble_eq_true rfl) (lv0 := [(0, .int (nI e)), (1, .int (nI num))]) rfl ?_
  intro K hini hret
  have g1 := fs_bc_pos e he h0
  have g2 := fs_bc_lt e he
  refine fk_iload_n 0 d_Pl_chosenOf_0 rfl ?_
  refine fk_callS (As := [.int (nI e)]) (rest := []) (is := []) (ir := []) (ip := []) (wc := []) (wr := []) (w2 := fun _ => []) (cI_bitCount E e (by first | omega | assumption)) d_Pl_chosenOf_1 fz_It_bitCount fw_481 fw_453 ⟨Nat.le_of_ble_eq_true rfl, Nat.le_of_ble_eq_true rfl⟩ rfl (Nat.le_of_ble_eq_true rfl) ⟨Nat.zero_le _, Nat.zero_le _⟩ ⟨rfl, rfl, rfl, rfl, by decide, fun _ => rfl, rfl⟩ (fun u hu1 => ?_)
  show fk_V E _ K (0, 0) [] 4 [(0, .int (nI e)), (1, .int (nI num))] [.int (nI (fs_bc e 7))]
  refine fk_istore_n (lv' := [(0, .int (nI e)), (1, .int (nI num)), (2, .int (nI (fs_bc e 7)))]) d_Pl_chosenOf_4 rfl (Nat.le_of_ble_eq_true rfl) [1, 2, 0] rfl ?_
  refine fk_iload_n 2 d_Pl_chosenOf_5 rfl ?_
  refine fk_if_ne (a := (fs_bc e 7)) (by omega) d_Pl_chosenOf_6 rfl (fun h6t => ?_) (fun h6f => ?_)
  · refine fk_iload_n 1 d_Pl_chosenOf_13 rfl ?_
    refine fk_iload_n 2 d_Pl_chosenOf_14 rfl ?_
    refine fk_irem (a := num) (b := (fs_bc e 7)) d_Pl_chosenOf_15 (by omega) (by omega) (by omega) ?_
    refine fk_istore_n (lv' := [(0, .int (nI e)), (1, .int (nI num)), (2, .int (nI (fs_bc e 7))), (3, .int (nI (num % (fs_bc e 7))))]) d_Pl_chosenOf_16 rfl (Nat.le_of_ble_eq_true rfl) [1, 2, 3, 0] rfl ?_
    refine fk_iconst (v := nI 0) d_Pl_chosenOf_17 (by decide +kernel) ?_
    refine fk_istore (lv' := [(0, .int (nI e)), (1, .int (nI num)), (2, .int (nI (fs_bc e 7))), (3, .int (nI (num % (fs_bc e 7)))), (4, .int (nI 0))]) d_Pl_chosenOf_18 (Nat.le_of_ble_eq_true rfl) [1, 2, 3, 4, 0] rfl ?_
    have L20 : ∀ (fuel : Nat) (a : Nat) (l : Nat), (a ≤ 7) → (l < 8) → (fp_pk e 7 0 (num % fs_bc e 7) = fp_pk e (7 - a) a l) → 7 - a < fuel → fk_V E (prog_5_method_5_code, fy_Pl_chosenOf.cls, 5, fk_rm 1 0 0) K (0, 0) [] 20 [(0, .int (nI e)), (3, .int (nI l)), (4, .int (nI a))] [] := by
      intro fuel
      induction fuel with
      | zero => intro a l _ _ _ hm; exact absurd hm (Nat.not_lt_zero _)
      | succ fuel ih =>
        intro a l h1 h2 h3 hm20
        have ih20 := ih
        clear ih
        refine fk_iload 2 d_Pl_chosenOf_20 rfl ?_
        refine fk_bipush (v := nI 7) d_Pl_chosenOf_22 (by decide +kernel) ?_
        refine fk_icmp_ge (a := a) (b := 7) (by omega) (by omega) d_Pl_chosenOf_24 rfl (fun h24t => ?_) (fun h24f => ?_)
        · refine fk_iconst (v := nI 0) d_Pl_chosenOf_52 (by decide +kernel) ?_
          refine fk_top (congrArg nI (show 0 = fp_pk e 7 0 (num % fs_bc e 7) from by rw [h3, show 7 - a = 0 by omega]; rfl)) ?_
          exact hret (0, 0) _ 53 _ () d_Pl_chosenOf_53 (trivial) (rfl)
        · have g3 : 7 - a = (7 - (a + 1)) + 1 := by omega
          refine fk_iload 2 d_Pl_chosenOf_27 rfl ?_
          refine fk_iload_n 0 d_Pl_chosenOf_29 rfl ?_
          refine fk_callSN (As := [.int (nI a), .int (nI e)]) (rest := []) (is := []) (ir := []) (ip := []) (wc := []) (wr := []) (w2 := fun _ => []) (cF_isIn E a e (by first | omega | assumption) (by first | omega | assumption)) d_Pl_chosenOf_30 fz_F_isIn fw_482 fw_223 ⟨Nat.le_of_ble_eq_true rfl, Nat.le_of_ble_eq_true rfl⟩ rfl (Nat.le_of_ble_eq_true rfl) ⟨Nat.zero_le _, Nat.zero_le _⟩ ⟨rfl, rfl, rfl, rfl, by decide, fun _ => rfl, rfl⟩ (fun u hu30 => ?_)
          show fk_V E _ K (0, 0) [] 33 [(0, .int (nI e)), (3, .int (nI l)), (4, .int (nI a))] [.int (nI (Bool.toNat (Nat.testBit e a)))]
          refine fk_if_eqB (b := (Nat.testBit e a)) d_Pl_chosenOf_33 rfl (fun h33t => ?_) (fun h33f => ?_)
          · refine fk_iinc (j := 2) (lv' := [(0, .int (nI e)), (3, .int (nI l)), (4, .int (nI (a + 1)))]) (a + 1) d_Pl_chosenOf_46 rfl (nI_1 a) (Nat.le_of_ble_eq_true rfl) [1, 2, 0] rfl ?_
            refine fk_goto d_Pl_chosenOf_49 rfl ?_
            refine ih20 _ _ ?_ ?_ ?_ ?_
            · first | omega | assumption | exact Nat.zero_le _
            · first | omega | assumption | exact Nat.zero_le _
            · rw [h3, g3]
              show (if e.testBit a = true then (if l = 0 then a else fp_pk e (7 - (a + 1)) (a + 1) (l - 1)) else fp_pk e (7 - (a + 1)) (a + 1) l) = _
              first | rw [if_pos h33f, if_neg h37t] | rw [if_neg (by rw [h33t]; decide)]
            · omega
          · refine fk_iload_n 1 d_Pl_chosenOf_36 rfl ?_
            refine fk_if_ne (a := l) (by omega) d_Pl_chosenOf_37 rfl (fun h37t => ?_) (fun h37f => ?_)
            · refine fk_iinc (j := 1) (lv' := [(0, .int (nI e)), (3, .int (nI (l - 1))), (4, .int (nI a))]) (l - 1) d_Pl_chosenOf_43 rfl (fn_dec (by omega)) (Nat.le_of_ble_eq_true rfl) [1, 0, 2] rfl ?_
              refine fk_iinc (j := 2) (lv' := [(0, .int (nI e)), (3, .int (nI (l - 1))), (4, .int (nI (a + 1)))]) (a + 1) d_Pl_chosenOf_46 rfl (nI_1 a) (Nat.le_of_ble_eq_true rfl) [1, 2, 0] rfl ?_
              refine fk_goto d_Pl_chosenOf_49 rfl ?_
              refine ih20 _ _ ?_ ?_ ?_ ?_
              · first | omega | assumption | exact Nat.zero_le _
              · first | omega | assumption | exact Nat.zero_le _
              · rw [h3, g3]
                show (if e.testBit a = true then (if l = 0 then a else fp_pk e (7 - (a + 1)) (a + 1) (l - 1)) else fp_pk e (7 - (a + 1)) (a + 1) l) = _
                first | rw [if_pos h33f, if_neg h37t] | rw [if_neg (by rw [h33t]; decide)]
              · omega
            · refine fk_iload 2 d_Pl_chosenOf_40 rfl ?_
              refine fk_top (congrArg nI (show a = fp_pk e 7 0 (num % fs_bc e 7) from by rw [h3, g3]; show _ = (if e.testBit a = true then (if l = 0 then a else fp_pk e (7 - (a + 1)) (a + 1) (l - 1)) else fp_pk e (7 - (a + 1)) (a + 1) l); rw [if_pos h33f, if_pos h37f])) ?_
              exact hret (0, 0) _ 42 _ () d_Pl_chosenOf_42 (trivial) (rfl)
    refine fk_lv (lv' := [(0, .int (nI e)), (3, .int (nI (num % (fs_bc e 7)))), (4, .int (nI 0))]) [0, 3, 4] rfl ?_
    refine L20 _ _ _ ?_ ?_ ?_ (Nat.lt_succ_self _)
    · first | omega | assumption | exact Nat.zero_le _
    · have := Nat.mod_lt num g1
      omega
    · rfl
  · omega
theorem d_Pl_firedCount_0 : decode prog_5_method_2_code 0 = .ok (.aload_n 0, 1) := by decide +kernel
theorem d_Pl_firedCount_1 : decode prog_5_method_2_code 1 = .ok (.getfield 15, 3) := by decide +kernel
theorem d_Pl_firedCount_4 : decode prog_5_method_2_code 4 = .ok (.ireturn, 1) := by decide +kernel
set_option maxRecDepth 20000 in
set_option maxHeartbeats 4000000 in
theorem cP_firedCount (E : fk_E) (p0 : Nat) (p1 : Nat) (pc : Nat)  : fk_C E fy_Pl_firedCount prog_5_method_2_code 1 (some .int) 0 0 0 [.ref p0] [(p0, .inr (5, [.ref p1, .int (nI pc)]))] (S := Unit) (fun _ => some (.int (nI pc))) (fun _ => True) (fun _ => [(p0, .inr (5, [.ref p1, .int (nI pc)]))]) := by
  refine fk_enterI (v := fun _ => (nI pc)) (by decide) (Nat.le_of_ble_eq_true rfl) (lv0 := [(0, .ref p0)]) rfl ?_
  intro K hini hret
  refine fk_aload_n 0 d_Pl_firedCount_0 rfl ?_
  refine fk_get 0 1 rfl rfl fh_Pl (Nat.le_of_ble_eq_true rfl) fw_128 rfl d_Pl_firedCount_1 ?_
  exact hret (0, 0) _ 4 _ () d_Pl_firedCount_4 (trivial) (rfl)
theorem d_Pl_firedAt_0 : decode prog_5_method_3_code 0 = .ok (.aload_n 0, 1) := by decide +kernel
theorem d_Pl_firedAt_1 : decode prog_5_method_3_code 1 = .ok (.getfield 9, 3) := by decide +kernel
theorem d_Pl_firedAt_4 : decode prog_5_method_3_code 4 = .ok (.iload_n 1, 1) := by decide +kernel
theorem d_Pl_firedAt_5 : decode prog_5_method_3_code 5 = .ok (.iaload, 1) := by decide +kernel
theorem d_Pl_firedAt_6 : decode prog_5_method_3_code 6 = .ok (.ireturn, 1) := by decide +kernel
set_option maxRecDepth 20000 in
set_option maxHeartbeats 4000000 in
theorem cP_firedAt (E : fk_E) (p0 : Nat) (p1 : Nat) (pc : Nat) (fr : Nat → Nat) (i : Nat) (hi : i < 15) : fk_C E fy_Pl_firedAt prog_5_method_3_code 2 (some .int) 0 0 0 [.ref p0, .int (nI i)] [(p0, .inr (5, [.ref p1, .int (nI pc)])), fk_ai E p1 15 fr] (S := Unit) (fun _ => some (.int (nI (fr i)))) (fun _ => True) (fun _ => [(p0, .inr (5, [.ref p1, .int (nI pc)])), fk_ai E p1 15 fr]) := by
  refine fk_enterI (v := fun _ => (nI (fr i))) (by decide) (Nat.le_of_ble_eq_true rfl) (lv0 := [(0, .ref p0), (1, .int (nI i))]) rfl ?_
  intro K hini hret
  refine fk_aload_n 0 d_Pl_firedAt_0 rfl ?_
  refine fk_get 0 0 rfl rfl fh_Pl (Nat.le_of_ble_eq_true rfl) fw_127 rfl d_Pl_firedAt_1 ?_
  refine fk_iload_n 1 d_Pl_firedAt_4 rfl ?_
  refine fk_ld_ai (i := i) 1 rfl (by omega) (by decide) d_Pl_firedAt_5 ?_
  exact hret (0, 0) _ 6 _ () d_Pl_firedAt_6 (trivial) (rfl)
theorem d_Pl_reachesFinal_0 : decode prog_5_method_4_code 0 = .ok (.lconst 1, 1) := by decide +kernel
theorem d_Pl_reachesFinal_1 : decode prog_5_method_4_code 1 = .ok (.lstore 4, 2) := by decide +kernel
theorem d_Pl_reachesFinal_3 : decode prog_5_method_4_code 3 = .ok (.lload_n 2, 1) := by decide +kernel
theorem d_Pl_reachesFinal_4 : decode prog_5_method_4_code 4 = .ok (.lstore 6, 2) := by decide +kernel
theorem d_Pl_reachesFinal_6 : decode prog_5_method_4_code 6 = .ok (.aload_n 0, 1) := by decide +kernel
theorem d_Pl_reachesFinal_7 : decode prog_5_method_4_code 7 = .ok (.iconst 0, 1) := by decide +kernel
theorem d_Pl_reachesFinal_8 : decode prog_5_method_4_code 8 = .ok (.putfield 15, 3) := by decide +kernel
theorem d_Pl_reachesFinal_11 : decode prog_5_method_4_code 11 = .ok (.aload_n 0, 1) := by decide +kernel
theorem d_Pl_reachesFinal_12 : decode prog_5_method_4_code 12 = .ok (.getfield 15, 3) := by decide +kernel
theorem d_Pl_reachesFinal_15 : decode prog_5_method_4_code 15 = .ok (.bipush 15, 2) := by decide +kernel
theorem d_Pl_reachesFinal_17 : decode prog_5_method_4_code 17 = .ok (.if_icmp .ge 81, 3) := by decide +kernel
theorem d_Pl_reachesFinal_20 : decode prog_5_method_4_code 20 = .ok (.lload 4, 2) := by decide +kernel
theorem d_Pl_reachesFinal_22 : decode prog_5_method_4_code 22 = .ok (.ldc2_w 19, 3) := by decide +kernel
theorem d_Pl_reachesFinal_25 : decode prog_5_method_4_code 25 = .ok (.lcmp, 1) := by decide +kernel
theorem d_Pl_reachesFinal_26 : decode prog_5_method_4_code 26 = .ok (.ifCond .eq 72, 3) := by decide +kernel
theorem d_Pl_reachesFinal_29 : decode prog_5_method_4_code 29 = .ok (.aload_n 1, 1) := by decide +kernel
theorem d_Pl_reachesFinal_30 : decode prog_5_method_4_code 30 = .ok (.lload 4, 2) := by decide +kernel
theorem d_Pl_reachesFinal_32 : decode prog_5_method_4_code 32 = .ok (.invokevirtual 21, 3) := by decide +kernel
theorem d_Pl_reachesFinal_35 : decode prog_5_method_4_code 35 = .ok (.istore 8, 2) := by decide +kernel
theorem d_Pl_reachesFinal_37 : decode prog_5_method_4_code 37 = .ok (.iload 8, 2) := by decide +kernel
theorem d_Pl_reachesFinal_39 : decode prog_5_method_4_code 39 = .ok (.ifCond .ne 5, 3) := by decide +kernel
theorem d_Pl_reachesFinal_42 : decode prog_5_method_4_code 42 = .ok (.iconst 0, 1) := by decide +kernel
theorem d_Pl_reachesFinal_43 : decode prog_5_method_4_code 43 = .ok (.ireturn, 1) := by decide +kernel
theorem d_Pl_reachesFinal_44 : decode prog_5_method_4_code 44 = .ok (.iload 8, 2) := by decide +kernel
theorem d_Pl_reachesFinal_46 : decode prog_5_method_4_code 46 = .ok (.lload 6, 2) := by decide +kernel
theorem d_Pl_reachesFinal_48 : decode prog_5_method_4_code 48 = .ok (.ldc2_w 27, 3) := by decide +kernel
theorem d_Pl_reachesFinal_51 : decode prog_5_method_4_code 51 = .ok (.land, 1) := by decide +kernel
theorem d_Pl_reachesFinal_52 : decode prog_5_method_4_code 52 = .ok (.l2i, 1) := by decide +kernel
theorem d_Pl_reachesFinal_53 : decode prog_5_method_4_code 53 = .ok (.invokestatic 29, 3) := by decide +kernel
theorem d_Pl_reachesFinal_56 : decode prog_5_method_4_code 56 = .ok (.istore 9, 2) := by decide +kernel
theorem d_Pl_reachesFinal_58 : decode prog_5_method_4_code 58 = .ok (.aload_n 0, 1) := by decide +kernel
theorem d_Pl_reachesFinal_59 : decode prog_5_method_4_code 59 = .ok (.getfield 9, 3) := by decide +kernel
theorem d_Pl_reachesFinal_62 : decode prog_5_method_4_code 62 = .ok (.aload_n 0, 1) := by decide +kernel
theorem d_Pl_reachesFinal_63 : decode prog_5_method_4_code 63 = .ok (.getfield 15, 3) := by decide +kernel
theorem d_Pl_reachesFinal_66 : decode prog_5_method_4_code 66 = .ok (.iload 9, 2) := by decide +kernel
theorem d_Pl_reachesFinal_68 : decode prog_5_method_4_code 68 = .ok (.iastore, 1) := by decide +kernel
theorem d_Pl_reachesFinal_69 : decode prog_5_method_4_code 69 = .ok (.aload_n 0, 1) := by decide +kernel
theorem d_Pl_reachesFinal_70 : decode prog_5_method_4_code 70 = .ok (.dup, 1) := by decide +kernel
theorem d_Pl_reachesFinal_71 : decode prog_5_method_4_code 71 = .ok (.getfield 15, 3) := by decide +kernel
theorem d_Pl_reachesFinal_74 : decode prog_5_method_4_code 74 = .ok (.iconst 1, 1) := by decide +kernel
theorem d_Pl_reachesFinal_75 : decode prog_5_method_4_code 75 = .ok (.iadd, 1) := by decide +kernel
theorem d_Pl_reachesFinal_76 : decode prog_5_method_4_code 76 = .ok (.putfield 15, 3) := by decide +kernel
theorem d_Pl_reachesFinal_79 : decode prog_5_method_4_code 79 = .ok (.aload_n 1, 1) := by decide +kernel
theorem d_Pl_reachesFinal_80 : decode prog_5_method_4_code 80 = .ok (.lload 4, 2) := by decide +kernel
theorem d_Pl_reachesFinal_82 : decode prog_5_method_4_code 82 = .ok (.iload 9, 2) := by decide +kernel
theorem d_Pl_reachesFinal_84 : decode prog_5_method_4_code 84 = .ok (.invokevirtual 33, 3) := by decide +kernel
theorem d_Pl_reachesFinal_87 : decode prog_5_method_4_code 87 = .ok (.lstore 4, 2) := by decide +kernel
theorem d_Pl_reachesFinal_89 : decode prog_5_method_4_code 89 = .ok (.lload 6, 2) := by decide +kernel
theorem d_Pl_reachesFinal_91 : decode prog_5_method_4_code 91 = .ok (.iconst 3, 1) := by decide +kernel
theorem d_Pl_reachesFinal_92 : decode prog_5_method_4_code 92 = .ok (.lushr, 1) := by decide +kernel
theorem d_Pl_reachesFinal_93 : decode prog_5_method_4_code 93 = .ok (.lstore 6, 2) := by decide +kernel
theorem d_Pl_reachesFinal_95 : decode prog_5_method_4_code 95 = .ok (.goto (-84), 3) := by decide +kernel
theorem d_Pl_reachesFinal_98 : decode prog_5_method_4_code 98 = .ok (.lload 4, 2) := by decide +kernel
theorem d_Pl_reachesFinal_100 : decode prog_5_method_4_code 100 = .ok (.ldc2_w 19, 3) := by decide +kernel
theorem d_Pl_reachesFinal_103 : decode prog_5_method_4_code 103 = .ok (.lcmp, 1) := by decide +kernel
theorem d_Pl_reachesFinal_104 : decode prog_5_method_4_code 104 = .ok (.ifCond .ne 7, 3) := by decide +kernel
theorem d_Pl_reachesFinal_107 : decode prog_5_method_4_code 107 = .ok (.iconst 1, 1) := by decide +kernel
theorem d_Pl_reachesFinal_108 : decode prog_5_method_4_code 108 = .ok (.goto 4, 3) := by decide +kernel
theorem d_Pl_reachesFinal_111 : decode prog_5_method_4_code 111 = .ok (.iconst 0, 1) := by decide +kernel
theorem d_Pl_reachesFinal_112 : decode prog_5_method_4_code 112 = .ok (.ireturn, 1) := by decide +kernel
set_option maxRecDepth 20000 in
set_option maxHeartbeats 4000000 in
theorem cP_reachesFinal (E : fk_E) (p0 : Nat) (p1 : Nat) (pc : Nat) (n0 : Nat) (n1 : Nat) (n2 : Nat) (n3 : Nat) (n4 : Nat) (cnt : Nat) (fi : Nat) (la : Nat) (lo : Nat) (me : Nat) (fr : Nat → Nat) (tk : Nat → Nat) (pu : Nat → Nat) (O : Nat → Nat) (I : Nat → Nat) (tp : Nat) (hm : me < 128) (hk : ∀ a, a < 7 → tk a = fm_mk (fs_tak O a)) (hu : ∀ a, a < 7 → pu a = fm_mk (fs_tak I a)) (hI : I 0 = 0) (ht : tp < 2 ^ 64) : fk_C E fy_Pl_reachesFinal prog_5_method_4_code 10 (some .boolean) 2 0 0 [.ref p0, .ref n0, .long (lN tp)] [(p0, .inr (5, [.ref p1, .int (nI pc)])), fk_ai E p1 15 fr, (n0, .inr (2, [.ref n1, .ref n2, .ref n3, .ref n4, .int (nI cnt), .int (nI fi), .int (nI la), .int (nI lo), .int (nI me)])), fk_al E n3 7 tk, fk_al E n4 7 pu] (S := Nat × (Nat → Nat)) (fun (u : Nat × (Nat → Nat)) => some (.int (nI (Bool.toNat (decide ((fp_run O I me tp 16).1 = 16)))))) (fun (u : Nat × (Nat → Nat)) => u.1 ≤ 15 ∧ ((fp_run O I me tp 16).1 = 16 → u.1 = (fp_run O I me tp 16).2.1 ∧ ∀ z, z < u.1 → u.2 z = (fp_run O I me tp 16).2.2.1 z ∧ u.2 z < 7)) (fun (u : Nat × (Nat → Nat)) => [(p0, .inr (5, [.ref p1, .int (nI u.1)])), fk_ai E p1 15 u.2, (n0, .inr (2, [.ref n1, .ref n2, .ref n3, .ref n4, .int (nI cnt), .int (nI fi), .int (nI la), .int (nI lo), .int (nI me)])), fk_al E n3 7 tk, fk_al E n4 7 pu]) := by
  refine fk_enterZ (v := fun (u : Nat × (Nat → Nat)) => decide ((fp_run O I me tp 16).1 = 16)) (by decide) (Nat.le_of_ble_eq_true rfl) (lv0 := [(0, .ref p0), (1, .ref n0), (2, .long (lN tp))]) rfl ?_
  intro K hini hret
  refine fk_lconst (v := lN 1) d_Pl_reachesFinal_0 rfl ?_
  refine fk_lstore (lv' := [(0, .ref p0), (1, .ref n0), (2, .long (lN tp)), (4, .long (lN 1))]) d_Pl_reachesFinal_1 (Nat.le_of_ble_eq_true rfl) [1, 2, 3, 0] rfl ?_
  refine fk_lload_n 2 d_Pl_reachesFinal_3 rfl ?_
  refine fk_topl (show (lN tp) = (lN (tp / 2 ^ (3 * 0))) from congrArg lN (by simp)) ?_
  refine fk_lstore (lv' := [(0, .ref p0), (1, .ref n0), (2, .long (lN tp)), (4, .long (lN 1)), (6, .long (lN (tp / 2 ^ (3 * 0))))]) d_Pl_reachesFinal_4 (Nat.le_of_ble_eq_true rfl) [1, 2, 3, 4, 0] rfl ?_
  refine fk_aload_n 0 d_Pl_reachesFinal_6 rfl ?_
  refine fk_iconst (v := nI 0) d_Pl_reachesFinal_7 (by decide +kernel) ?_
  refine fk_put (w' := [(p0, .inr (5, [.ref p1, .int (nI 0)])), fk_ai E p1 15 fr, (n0, .inr (2, [.ref n1, .ref n2, .ref n3, .ref n4, .int (nI cnt), .int (nI fi), .int (nI la), .int (nI lo), .int (nI me)])), fk_al E n3 7 tk, fk_al E n4 7 pu]) 0 1 fT_Pl fT_Pl_ok fT_Pl_nm rfl rfl fh_Pl (Nat.le_of_ble_eq_true rfl) fw_128 rfl (fT_Pl_ok 1 (Nat.le_of_ble_eq_true rfl)) rfl rfl (Nat.le_of_ble_eq_true rfl) d_Pl_reachesFinal_8 rfl ?_
  
  have L11 : ∀ (fuel : Nat) (n : Nat) (x : Nat) (f1 : Nat → Nat), (n ≤ 15) → (fp_R O I me tp n x f1) → (fp_bd x n) → (∀ z, z < n → f1 z < 7) → 15 - n < fuel → fk_V E (prog_5_method_4_code, fy_Pl_reachesFinal.cls, 10, fk_rm 2 0 0) K (0, 0) [(p0, .inr (5, [.ref p1, .int (nI n)])), fk_ai E p1 15 f1, (n0, .inr (2, [.ref n1, .ref n2, .ref n3, .ref n4, .int (nI cnt), .int (nI fi), .int (nI la), .int (nI lo), .int (nI me)])), fk_al E n3 7 tk, fk_al E n4 7 pu] 11 [(0, .ref p0), (1, .ref n0), (4, .long (lN x)), (6, .long (lN (tp / 2 ^ (3 * n))))] [] := by
    intro fuel
    induction fuel with
    | zero => intro n x f1 _ _ _ _ hm; exact absurd hm (Nat.not_lt_zero _)
    | succ fuel ih =>
      intro n x f1 h1 h2 h3 h4 hm11
      have ih11 := ih
      clear ih
      refine fk_aload_n 0 d_Pl_reachesFinal_11 rfl ?_
      refine fk_get 0 1 rfl rfl fh_Pl (Nat.le_of_ble_eq_true rfl) fw_128 rfl d_Pl_reachesFinal_12 ?_
      refine fk_bipush (v := nI 15) d_Pl_reachesFinal_15 (by decide +kernel) ?_
      refine fk_icmp_ge (a := n) (b := 15) (by omega) (by omega) d_Pl_reachesFinal_17 rfl (fun h17t => ?_) (fun h17f => ?_)
      · have g6 := fp_R_end h2 h1 (Or.inl h17t)
        refine fk_lload 2 d_Pl_reachesFinal_98 rfl ?_
        refine fk_ldc2 (v := (16 : Int64)) d_Pl_reachesFinal_100 fw_475 ?_
        refine fk_topl (show (16 : Int64) = lN 16 by decide +kernel) ?_
        refine fk_lcmpR d_Pl_reachesFinal_103 ?_
        refine fk_cmp_ne (a := x) (b := 16) (h3.1) (by decide) d_Pl_reachesFinal_104 rfl (fun h104t => ?_) (fun h104f => ?_)
        · refine fk_iconst (v := nI 0) d_Pl_reachesFinal_111 (by decide +kernel) ?_
          refine fk_top (fn_rf (b := decide ((fp_run O I me tp 16).1 = 16)) (by first | (rw [g6.1]; exact decide_eq_true h104f) | (rw [g6.1]; exact decide_eq_false h104t))) ?_
          exact hret (0, 0) _ 112 _ (n, f1) d_Pl_reachesFinal_112 (⟨h1, fun _ => ⟨g6.2.1.symm, fun z hz => ⟨g6.2.2 z hz, h4 z hz⟩⟩⟩) (rfl)
        · refine fk_iconst (v := nI 1) d_Pl_reachesFinal_107 (by decide +kernel) ?_
          refine fk_goto d_Pl_reachesFinal_108 rfl ?_
          refine fk_top (fn_rt (b := decide ((fp_run O I me tp 16).1 = 16)) (by first | (rw [g6.1]; exact decide_eq_true h104f) | (rw [g6.1]; exact decide_eq_false h104t))) ?_
          exact hret (0, 0) _ 112 _ (n, f1) d_Pl_reachesFinal_112 (⟨h1, fun _ => ⟨g6.2.1.symm, fun z hz => ⟨g6.2.2 z hz, h4 z hz⟩⟩⟩) (rfl)
      · refine fk_lload 2 d_Pl_reachesFinal_20 rfl ?_
        refine fk_ldc2 (v := (16 : Int64)) d_Pl_reachesFinal_22 fw_475 ?_
        refine fk_topl (show (16 : Int64) = lN 16 by decide +kernel) ?_
        refine fk_lcmpR d_Pl_reachesFinal_25 ?_
        refine fk_cmp_eq (a := x) (b := 16) (h3.1) (by decide) d_Pl_reachesFinal_26 rfl (fun h26t => ?_) (fun h26f => ?_)
        · have g6 := fp_R_end h2 h1 (Or.inr h26t)
          refine fk_lload 2 d_Pl_reachesFinal_98 rfl ?_
          refine fk_ldc2 (v := (16 : Int64)) d_Pl_reachesFinal_100 fw_475 ?_
          refine fk_topl (show (16 : Int64) = lN 16 by decide +kernel) ?_
          refine fk_lcmpR d_Pl_reachesFinal_103 ?_
          refine fk_cmp_ne (a := x) (b := 16) (h3.1) (by decide) d_Pl_reachesFinal_104 rfl (fun h104t => ?_) (fun h104f => ?_)
          · refine fk_iconst (v := nI 0) d_Pl_reachesFinal_111 (by decide +kernel) ?_
            refine fk_top (fn_rf (b := decide ((fp_run O I me tp 16).1 = 16)) (by first | (rw [g6.1]; exact decide_eq_true h104f) | (rw [g6.1]; exact decide_eq_false h104t))) ?_
            exact hret (0, 0) _ 112 _ (n, f1) d_Pl_reachesFinal_112 (⟨h1, fun _ => ⟨g6.2.1.symm, fun z hz => ⟨g6.2.2 z hz, h4 z hz⟩⟩⟩) (rfl)
          · refine fk_iconst (v := nI 1) d_Pl_reachesFinal_107 (by decide +kernel) ?_
            refine fk_goto d_Pl_reachesFinal_108 rfl ?_
            refine fk_top (fn_rt (b := decide ((fp_run O I me tp 16).1 = 16)) (by first | (rw [g6.1]; exact decide_eq_true h104f) | (rw [g6.1]; exact decide_eq_false h104t))) ?_
            exact hret (0, 0) _ 112 _ (n, f1) d_Pl_reachesFinal_112 (⟨h1, fun _ => ⟨g6.2.1.symm, fun z hz => ⟨g6.2.2 z hz, h4 z hz⟩⟩⟩) (rfl)
        · refine fk_aload_n 1 d_Pl_reachesFinal_29 rfl ?_
          refine fk_lload 2 d_Pl_reachesFinal_30 rfl ?_
          refine fk_callV (q0 := 2) (As := [.long (lN x)]) (rest := []) (is := [2, 3]) (ir := [0, 1, 4]) (ip := [0, 1, 3, 4, 2]) (wc := [(n0, .inr (2, [.ref n1, .ref n2, .ref n3, .ref n4, .int (nI cnt), .int (nI fi), .int (nI la), .int (nI lo), .int (nI me)])), fk_al E n3 7 tk]) (wr := [(p0, .inr (5, [.ref p1, .int (nI n)])), fk_ai E p1 15 f1, fk_al E n4 7 pu]) (w2 := fun _ => [(p0, .inr (5, [.ref p1, .int (nI n)])), fk_ai E p1 15 f1, (n0, .inr (2, [.ref n1, .ref n2, .ref n3, .ref n4, .int (nI cnt), .int (nI fi), .int (nI la), .int (nI lo), .int (nI me)])), fk_al E n3 7 tk, fk_al E n4 7 pu]) (cN_enabledIn E n0 n1 n2 n3 n4 cnt fi la lo me tk O x h3.1 (by first | omega | assumption) (by first | omega | assumption)) d_Pl_reachesFinal_32 fz_Nt_enabledIn fw_476 rfl rfl fw_369 fw_370 ⟨Nat.le_of_ble_eq_true rfl, Nat.le_of_ble_eq_true rfl⟩ rfl (Nat.le_of_ble_eq_true rfl) ⟨Nat.zero_le _, Nat.zero_le _⟩ ⟨rfl, rfl, rfl, rfl, by decide, fun _ => rfl, rfl⟩ (fun u hu32 => ?_)
          show fk_V E _ K (0, 0) [(p0, .inr (5, [.ref p1, .int (nI n)])), fk_ai E p1 15 f1, (n0, .inr (2, [.ref n1, .ref n2, .ref n3, .ref n4, .int (nI cnt), .int (nI fi), .int (nI la), .int (nI lo), .int (nI me)])), fk_al E n3 7 tk, fk_al E n4 7 pu] 35 [(0, .ref p0), (1, .ref n0), (4, .long (lN x)), (6, .long (lN (tp / 2 ^ (3 * n))))] [.int (nI (fs_ens O me x))]
          refine fk_istore (lv' := [(0, .ref p0), (1, .ref n0), (4, .long (lN x)), (6, .long (lN (tp / 2 ^ (3 * n)))), (8, .int (nI (fs_ens O me x)))]) d_Pl_reachesFinal_35 (Nat.le_of_ble_eq_true rfl) [1, 2, 3, 4, 0] rfl ?_
          refine fk_iload 4 d_Pl_reachesFinal_37 rfl ?_
          refine fk_if_ne (a := (fs_ens O me x)) (by have := fs_ens_lt O me x; omega) d_Pl_reachesFinal_39 rfl (fun h39t => ?_) (fun h39f => ?_)
          · have g1 := fs_ens_lt O me x
            have g2 : fp_ch O me tp x n < 7 ∧ (fs_ens O me x).testBit (fp_ch O me tp x n) = true := fp_pk_ok g1 h39t
            have g3 : fs_can O x (fp_ch O me tp x n) = true := fs_en_can ((fe_en_bit g2.1).symm.trans g2.2)
            have g4 : tp / 2 ^ (3 * n) % 8 < 8 := Nat.mod_lt _ (by decide)
            refine fk_iload 4 d_Pl_reachesFinal_44 rfl ?_
            refine fk_lload 3 d_Pl_reachesFinal_46 rfl ?_
            refine fk_ldc2 (v := (7 : Int64)) d_Pl_reachesFinal_48 fw_477 ?_
            refine fk_topl (show (7 : Int64) = lN 7 by decide +kernel) ?_
            refine fk_landR d_Pl_reachesFinal_51 ?_
            refine fk_topl (show lN (tp / 2 ^ (3 * n)) &&& lN 7 = lN ((tp / 2 ^ (3 * n)) &&& 7) from fn_land (fm_div_lt ht) (by decide)) ?_
            refine fk_topl (show (lN ((tp / 2 ^ (3 * n)) &&& 7)) = (lN (tp / 2 ^ (3 * n) % 8)) from congrArg lN (Nat.and_two_pow_sub_one_eq_mod _ 3)) ?_
            refine fk_l2i d_Pl_reachesFinal_52 (lN_i (tp / 2 ^ (3 * n) % 8)) ?_
            refine fk_callS (As := [.int (nI (fs_ens O me x)), .int (nI (tp / 2 ^ (3 * n) % 8))]) (rest := []) (is := []) (ir := [0, 1, 2, 3, 4]) (ip := [0, 1, 2, 3, 4]) (wc := []) (wr := [(p0, .inr (5, [.ref p1, .int (nI n)])), fk_ai E p1 15 f1, (n0, .inr (2, [.ref n1, .ref n2, .ref n3, .ref n4, .int (nI cnt), .int (nI fi), .int (nI la), .int (nI lo), .int (nI me)])), fk_al E n3 7 tk, fk_al E n4 7 pu]) (w2 := fun _ => [(p0, .inr (5, [.ref p1, .int (nI n)])), fk_ai E p1 15 f1, (n0, .inr (2, [.ref n1, .ref n2, .ref n3, .ref n4, .int (nI cnt), .int (nI fi), .int (nI la), .int (nI lo), .int (nI me)])), fk_al E n3 7 tk, fk_al E n4 7 pu]) (cP_chosenOf E (fs_ens O me x) (tp / 2 ^ (3 * n) % 8) (by first | omega | assumption) (by first | omega | assumption) (by first | omega | assumption)) d_Pl_reachesFinal_53 fz_Pl_chosenOf fw_478 fw_479 ⟨Nat.le_of_ble_eq_true rfl, Nat.le_of_ble_eq_true rfl⟩ rfl (Nat.le_of_ble_eq_true rfl) ⟨Nat.zero_le _, Nat.zero_le _⟩ ⟨rfl, rfl, rfl, rfl, by decide, fun _ => rfl, rfl⟩ (fun u hu53 => ?_)
            show fk_V E _ K (0, 0) [(p0, .inr (5, [.ref p1, .int (nI n)])), fk_ai E p1 15 f1, (n0, .inr (2, [.ref n1, .ref n2, .ref n3, .ref n4, .int (nI cnt), .int (nI fi), .int (nI la), .int (nI lo), .int (nI me)])), fk_al E n3 7 tk, fk_al E n4 7 pu] 56 [(0, .ref p0), (1, .ref n0), (4, .long (lN x)), (6, .long (lN (tp / 2 ^ (3 * n)))), (8, .int (nI (fs_ens O me x)))] [.int (nI (fp_pk (fs_ens O me x) 7 0 ((tp / 2 ^ (3 * n) % 8) % fs_bc (fs_ens O me x) 7)))]
            refine fk_top (show (nI (fp_pk (fs_ens O me x) 7 0 ((tp / 2 ^ (3 * n) % 8) % fs_bc (fs_ens O me x) 7))) = (nI (fp_ch O me tp x n)) from rfl) ?_
            refine fk_istore (lv' := [(0, .ref p0), (1, .ref n0), (4, .long (lN x)), (6, .long (lN (tp / 2 ^ (3 * n)))), (8, .int (nI (fs_ens O me x))), (9, .int (nI (fp_ch O me tp x n)))]) d_Pl_reachesFinal_56 (Nat.le_of_ble_eq_true rfl) [1, 2, 3, 4, 5, 0] rfl ?_
            refine fk_aload_n 0 d_Pl_reachesFinal_58 rfl ?_
            refine fk_get 0 0 rfl rfl fh_Pl (Nat.le_of_ble_eq_true rfl) fw_127 rfl d_Pl_reachesFinal_59 ?_
            refine fk_aload_n 0 d_Pl_reachesFinal_62 rfl ?_
            refine fk_get 0 1 rfl rfl fh_Pl (Nat.le_of_ble_eq_true rfl) fw_128 rfl d_Pl_reachesFinal_63 ?_
            refine fk_iload 5 d_Pl_reachesFinal_66 rfl ?_
            refine fk_st_ai (i := n) (x := (fp_ch O me tp x n)) (w' := [(p0, .inr (5, [.ref p1, .int (nI n)])), fk_ai E p1 15 (va_up f1 n (fp_ch O me tp x n)), (n0, .inr (2, [.ref n1, .ref n2, .ref n3, .ref n4, .int (nI cnt), .int (nI fi), .int (nI la), .int (nI lo), .int (nI me)])), fk_al E n3 7 tk, fk_al E n4 7 pu]) 1 rfl (by omega) (by decide) d_Pl_reachesFinal_68 rfl ?_
            refine fk_aload_n 0 d_Pl_reachesFinal_69 rfl ?_
            refine fk_dup d_Pl_reachesFinal_70 rfl ?_
            refine fk_get 0 1 rfl rfl fh_Pl (Nat.le_of_ble_eq_true rfl) fw_128 rfl d_Pl_reachesFinal_71 ?_
            refine fk_iconst (v := nI 1) d_Pl_reachesFinal_74 (by decide +kernel) ?_
            refine fk_iadd (a := n) (b := 1) d_Pl_reachesFinal_75 ?_
            refine fk_put (w' := [(p0, .inr (5, [.ref p1, .int (nI (n + 1))])), fk_ai E p1 15 (va_up f1 n (fp_ch O me tp x n)), (n0, .inr (2, [.ref n1, .ref n2, .ref n3, .ref n4, .int (nI cnt), .int (nI fi), .int (nI la), .int (nI lo), .int (nI me)])), fk_al E n3 7 tk, fk_al E n4 7 pu]) 0 1 fT_Pl fT_Pl_ok fT_Pl_nm rfl rfl fh_Pl (Nat.le_of_ble_eq_true rfl) fw_128 rfl (fT_Pl_ok 1 (Nat.le_of_ble_eq_true rfl)) rfl rfl (Nat.le_of_ble_eq_true rfl) d_Pl_reachesFinal_76 rfl ?_
            refine fk_aload_n 1 d_Pl_reachesFinal_79 rfl ?_
            refine fk_lload 2 d_Pl_reachesFinal_80 rfl ?_
            refine fk_iload 5 d_Pl_reachesFinal_82 rfl ?_
            refine fk_callV (q0 := 2) (As := [.long (lN x), .int (nI (fp_ch O me tp x n))]) (rest := []) (is := [2, 3, 4]) (ir := [0, 1]) (ip := [0, 1, 2, 3, 4]) (wc := [(n0, .inr (2, [.ref n1, .ref n2, .ref n3, .ref n4, .int (nI cnt), .int (nI fi), .int (nI la), .int (nI lo), .int (nI me)])), fk_al E n3 7 tk, fk_al E n4 7 pu]) (wr := [(p0, .inr (5, [.ref p1, .int (nI (n + 1))])), fk_ai E p1 15 (va_up f1 n (fp_ch O me tp x n))]) (w2 := fun _ => [(p0, .inr (5, [.ref p1, .int (nI (n + 1))])), fk_ai E p1 15 (va_up f1 n (fp_ch O me tp x n)), (n0, .inr (2, [.ref n1, .ref n2, .ref n3, .ref n4, .int (nI cnt), .int (nI fi), .int (nI la), .int (nI lo), .int (nI me)])), fk_al E n3 7 tk, fk_al E n4 7 pu]) (cN_afterFiring E n0 n1 n2 n3 n4 cnt fi la lo me tk pu O I x (fp_ch O me tp x n) h3.1 g2.1 (by first | omega | assumption) (by first | omega | assumption) g3) d_Pl_reachesFinal_84 fz_Nt_afterFiring fw_483 rfl rfl fw_376 fw_377 ⟨Nat.le_of_ble_eq_true rfl, Nat.le_of_ble_eq_true rfl⟩ rfl (Nat.le_of_ble_eq_true rfl) ⟨Nat.zero_le _, Nat.zero_le _⟩ ⟨rfl, rfl, rfl, rfl, by decide, fun _ => rfl, rfl⟩ (fun u hu84 => ?_)
            show fk_V E _ K (0, 0) [(p0, .inr (5, [.ref p1, .int (nI (n + 1))])), fk_ai E p1 15 (va_up f1 n (fp_ch O me tp x n)), (n0, .inr (2, [.ref n1, .ref n2, .ref n3, .ref n4, .int (nI cnt), .int (nI fi), .int (nI la), .int (nI lo), .int (nI me)])), fk_al E n3 7 tk, fk_al E n4 7 pu] 87 [(0, .ref p0), (1, .ref n0), (4, .long (lN x)), (6, .long (lN (tp / 2 ^ (3 * n)))), (8, .int (nI (fs_ens O me x))), (9, .int (nI (fp_ch O me tp x n)))] [.long (lN (fs_fire O I x (fp_ch O me tp x n)))]
            refine fk_lstore (lv' := [(0, .ref p0), (1, .ref n0), (4, .long (lN (fs_fire O I x (fp_ch O me tp x n)))), (6, .long (lN (tp / 2 ^ (3 * n)))), (8, .int (nI (fs_ens O me x))), (9, .int (nI (fp_ch O me tp x n)))]) d_Pl_reachesFinal_87 (Nat.le_of_ble_eq_true rfl) [1, 2, 0, 3, 4, 5] rfl ?_
            refine fk_lload 3 d_Pl_reachesFinal_89 rfl ?_
            refine fk_iconst (v := nI 3) d_Pl_reachesFinal_91 (by decide +kernel) ?_
            refine fk_lushr d_Pl_reachesFinal_92 (fn_lushr (a := (tp / 2 ^ (3 * n))) (k := 3) (fm_div_lt ht) (by decide)) ?_
            refine fk_topl (show (lN ((tp / 2 ^ (3 * n)) / 2 ^ 3)) = (lN (tp / 2 ^ (3 * (n + 1)))) from congrArg lN (by rw [Nat.div_div_eq_div_mul, ← Nat.pow_add]; rfl)) ?_
            refine fk_lstore (lv' := [(0, .ref p0), (1, .ref n0), (4, .long (lN (fs_fire O I x (fp_ch O me tp x n)))), (6, .long (lN (tp / 2 ^ (3 * (n + 1))))), (8, .int (nI (fs_ens O me x))), (9, .int (nI (fp_ch O me tp x n)))]) d_Pl_reachesFinal_93 (Nat.le_of_ble_eq_true rfl) [1, 2, 3, 0, 4, 5] rfl ?_
            refine fk_goto d_Pl_reachesFinal_95 rfl ?_
            
            refine fk_lv (lv' := [(0, .ref p0), (1, .ref n0), (4, .long (lN (fs_fire O I x (fp_ch O me tp x n)))), (6, .long (lN (tp / 2 ^ (3 * (n + 1)))))]) [0, 1, 2, 3] rfl ?_
            refine ih11 _ _ _ ?_ ?_ ?_ ?_ ?_
            · first | omega | assumption | exact Nat.zero_le _
            · exact fp_R_s h2 h17f h26f h39t
            · exact (fp_fire hI h3 h17f).1
            · intro z hz
              rcases Nat.lt_or_ge z n with q | q
              · rw [va_up_ne _ _ (by omega)]; exact h4 z q
              · rw [show z = n by omega, va_up_self]; exact g2.1
            · omega
          · have g5 := fp_R_dead h2 h17f h26f h39f
            refine fk_iconst (v := nI 0) d_Pl_reachesFinal_42 (by decide +kernel) ?_
            refine fk_top (fn_rf (b := decide ((fp_run O I me tp 16).1 = 16)) (decide_eq_false g5)) ?_
            exact hret (0, 0) _ 43 _ (n, f1) d_Pl_reachesFinal_43 (⟨h1, fun q => absurd q g5⟩) (rfl)
  refine fk_lv (lv' := [(0, .ref p0), (1, .ref n0), (4, .long (lN 1)), (6, .long (lN (tp / 2 ^ (3 * 0))))]) [0, 1, 3, 4] rfl ?_
  refine L11 _ _ _ _ ?_ ?_ ?_ ?_ (Nat.lt_succ_self _)
  · first | omega | assumption | exact Nat.zero_le _
  · exact fp_R_0 O I me tp fr
  · exact fp_bd_0
  · exact fun z hz => absurd hz (Nat.not_lt_zero z)
end
section
theorem d_F_begin_0 : decode prog_1_method_2_code 0 = .ok (.aload_n 0, 1) := by decide +kernel
theorem d_F_begin_1 : decode prog_1_method_2_code 1 = .ok (.getfield 12, 3) := by decide +kernel
theorem d_F_begin_4 : decode prog_1_method_2_code 4 = .ok (.invokevirtual 47, 3) := by decide +kernel
theorem d_F_begin_7 : decode prog_1_method_2_code 7 = .ok (.ireturn, 1) := by decide +kernel
set_option maxRecDepth 20000 in
set_option maxHeartbeats 4000000 in
theorem cX_beginF (E : fk_E) (x0 : Nat) (a0 : Nat) (n0 : Nat) (m0 : Nat) (i0 : Nat) (r0 : Nat) (p0 : Nat) (a1 : Nat) (a2 : Nat) (a3 : Nat) (tr : Nat) (len : Nat → Nat) (ht : tr = 20) : fk_C E fy_F_begin prog_1_method_2_code 1 (some .int) 2 0 0 [.ref x0] [(x0, .inr (0, [.ref a0, .ref n0, .ref m0, .ref i0, .ref r0, .ref p0])), (a0, .inr (1, [.ref a1, .ref a2, .ref a3, .int (nI tr)])), fk_ai E a1 20 len] (S := Unit) (fun _ => some (.int (-2))) (fun _ => True) (fun _ => [(x0, .inr (0, [.ref a0, .ref n0, .ref m0, .ref i0, .ref r0, .ref p0])), (a0, .inr (1, [.ref a1, .ref a2, .ref a3, .int (nI tr)])), fk_ai E a1 20 len]) := by
  refine fk_enterI (v := fun _ => (-2)) (by decide) (Nat.le_of_ble_eq_true rfl) (lv0 := [(0, .ref x0)]) rfl ?_
  intro K hini hret
  refine fk_aload_n 0 d_F_begin_0 rfl ?_
  refine fk_get 0 0 rfl rfl fh_F (Nat.le_of_ble_eq_true rfl) fw_134 rfl d_F_begin_1 ?_
  refine fk_callV (q0 := 1) (As := []) (rest := []) (is := [1, 2]) (ir := [0]) (ip := [0, 1, 2]) (wc := [(a0, .inr (1, [.ref a1, .ref a2, .ref a3, .int (nI tr)])), fk_ai E a1 20 len]) (wr := [(x0, .inr (0, [.ref a0, .ref n0, .ref m0, .ref i0, .ref r0, .ref p0]))]) (w2 := fun _ => [(x0, .inr (0, [.ref a0, .ref n0, .ref m0, .ref i0, .ref r0, .ref p0])), (a0, .inr (1, [.ref a1, .ref a2, .ref a3, .int (nI tr)])), fk_ai E a1 20 len]) (cL_addTraceF E a0 a1 a2 a3 tr len (by first | omega | assumption)) d_F_begin_4 fz_Lg_addTrace fw_157 rfl rfl fw_158 fw_159 ⟨Nat.le_of_ble_eq_true rfl, Nat.le_of_ble_eq_true rfl⟩ rfl (Nat.le_of_ble_eq_true rfl) ⟨Nat.zero_le _, Nat.zero_le _⟩ ⟨rfl, rfl, rfl, rfl, by decide, fun _ => rfl, rfl⟩ (fun u hu4 => ?_)
  show fk_V E _ K (0, 0) [(x0, .inr (0, [.ref a0, .ref n0, .ref m0, .ref i0, .ref r0, .ref p0])), (a0, .inr (1, [.ref a1, .ref a2, .ref a3, .int (nI tr)])), fk_ai E a1 20 len] 7 [(0, .ref x0)] [.int (-2)]
  exact hret (0, 0) _ 7 _ () d_F_begin_7 (trivial) (rfl)
set_option maxRecDepth 20000 in
set_option maxHeartbeats 4000000 in
theorem cX_begin (E : fk_E) (x0 : Nat) (a0 : Nat) (n0 : Nat) (m0 : Nat) (i0 : Nat) (r0 : Nat) (p0 : Nat) (a1 : Nat) (a2 : Nat) (a3 : Nat) (tr : Nat) (len : Nat → Nat) (ht : tr < 20) : fk_C E fy_F_begin prog_1_method_2_code 1 (some .int) 2 0 0 [.ref x0] [(x0, .inr (0, [.ref a0, .ref n0, .ref m0, .ref i0, .ref r0, .ref p0])), (a0, .inr (1, [.ref a1, .ref a2, .ref a3, .int (nI tr)])), fk_ai E a1 20 len] (S := Unit) (fun _ => some (.int (nI tr))) (fun _ => True) (fun _ => [(x0, .inr (0, [.ref a0, .ref n0, .ref m0, .ref i0, .ref r0, .ref p0])), (a0, .inr (1, [.ref a1, .ref a2, .ref a3, .int (nI (tr + 1))])), fk_ai E a1 20 (va_up len tr 0)]) := by
  refine fk_enterI (v := fun _ => (nI tr)) (by decide) (Nat.le_of_ble_eq_true rfl) (lv0 := [(0, .ref x0)]) rfl ?_
  intro K hini hret
  refine fk_aload_n 0 d_F_begin_0 rfl ?_
  refine fk_get 0 0 rfl rfl fh_F (Nat.le_of_ble_eq_true rfl) fw_134 rfl d_F_begin_1 ?_
  refine fk_callV (q0 := 1) (As := []) (rest := []) (is := [1, 2]) (ir := [0]) (ip := [0, 1, 2]) (wc := [(a0, .inr (1, [.ref a1, .ref a2, .ref a3, .int (nI tr)])), fk_ai E a1 20 len]) (wr := [(x0, .inr (0, [.ref a0, .ref n0, .ref m0, .ref i0, .ref r0, .ref p0]))]) (w2 := fun _ => [(x0, .inr (0, [.ref a0, .ref n0, .ref m0, .ref i0, .ref r0, .ref p0])), (a0, .inr (1, [.ref a1, .ref a2, .ref a3, .int (nI (tr + 1))])), fk_ai E a1 20 (va_up len tr 0)]) (cL_addTrace E a0 a1 a2 a3 tr len (by first | omega | assumption)) d_F_begin_4 fz_Lg_addTrace fw_157 rfl rfl fw_158 fw_159 ⟨Nat.le_of_ble_eq_true rfl, Nat.le_of_ble_eq_true rfl⟩ rfl (Nat.le_of_ble_eq_true rfl) ⟨Nat.zero_le _, Nat.zero_le _⟩ ⟨rfl, rfl, rfl, rfl, by decide, fun _ => rfl, rfl⟩ (fun u hu4 => ?_)
  show fk_V E _ K (0, 0) [(x0, .inr (0, [.ref a0, .ref n0, .ref m0, .ref i0, .ref r0, .ref p0])), (a0, .inr (1, [.ref a1, .ref a2, .ref a3, .int (nI (tr + 1))])), fk_ai E a1 20 (va_up len tr 0)] 7 [(0, .ref x0)] [.int (nI tr)]
  exact hret (0, 0) _ 7 _ () d_F_begin_7 (trivial) (rfl)
theorem d_F_event_0 : decode prog_1_method_3_code 0 = .ok (.aload_n 0, 1) := by decide +kernel
theorem d_F_event_1 : decode prog_1_method_3_code 1 = .ok (.getfield 12, 3) := by decide +kernel
theorem d_F_event_4 : decode prog_1_method_3_code 4 = .ok (.iload_n 1, 1) := by decide +kernel
theorem d_F_event_5 : decode prog_1_method_3_code 5 = .ok (.invokevirtual 51, 3) := by decide +kernel
theorem d_F_event_8 : decode prog_1_method_3_code 8 = .ok (.ireturn, 1) := by decide +kernel
set_option maxRecDepth 20000 in
set_option maxHeartbeats 4000000 in
theorem cX_event (E : fk_E) (x0 : Nat) (a0 : Nat) (n0 : Nat) (m0 : Nat) (i0 : Nat) (r0 : Nat) (p0 : Nat) (a1 : Nat) (a2 : Nat) (a3 : Nat) (tr : Nat) (len : Nat → Nat) (ev : Nat → Nat) (fo : Nat → Nat) (a : Nat) (ha : a < 7) (h0 : 0 < tr) (ht : tr ≤ 20) (hl : len (tr - 1) < 15) (he : ∀ i, i < len (tr - 1) → ev (15 * (tr - 1) + i) < 7) (hf : ∀ k, k < 7 → fo k < 128) : fk_C E fy_F_event prog_1_method_3_code 2 (some .boolean) 2 0 0 [.ref x0, .int (nI a)] [(x0, .inr (0, [.ref a0, .ref n0, .ref m0, .ref i0, .ref r0, .ref p0])), (a0, .inr (1, [.ref a1, .ref a2, .ref a3, .int (nI tr)])), fk_ai E a1 20 len, fk_ai E a2 300 ev, fk_ai E a3 7 fo] (S := Unit) (fun _ => some (.int (nI (Bool.toNat true)))) (fun _ => True) (fun _ => [(x0, .inr (0, [.ref a0, .ref n0, .ref m0, .ref i0, .ref r0, .ref p0])), (a0, .inr (1, [.ref a1, .ref a2, .ref a3, .int (nI tr)])), fk_ai E a1 20 (va_up len (tr - 1) (len (tr - 1) + 1)), fk_ai E a2 300 (va_up ev (15 * (tr - 1) + len (tr - 1)) a), fk_ai E a3 7 (if 0 < len (tr - 1) then va_up fo (ev (15 * (tr - 1) + (len (tr - 1) - 1))) (fo (ev (15 * (tr - 1) + (len (tr - 1) - 1))) ||| 2 ^ a) else fo)]) := by
  refine fk_enterZ (v := fun _ => true) (by decide) (Nat.le_of_ble_eq_true rfl) (lv0 := [(0, .ref x0), (1, .int (nI a))]) rfl ?_
  intro K hini hret
  refine fk_aload_n 0 d_F_event_0 rfl ?_
  refine fk_get 0 0 rfl rfl fh_F (Nat.le_of_ble_eq_true rfl) fw_134 rfl d_F_event_1 ?_
  refine fk_iload_n 1 d_F_event_4 rfl ?_
  refine fk_callV (q0 := 1) (As := [.int (nI a)]) (rest := []) (is := [1, 2, 3, 4]) (ir := [0]) (ip := [0, 1, 2, 3, 4]) (wc := [(a0, .inr (1, [.ref a1, .ref a2, .ref a3, .int (nI tr)])), fk_ai E a1 20 len, fk_ai E a2 300 ev, fk_ai E a3 7 fo]) (wr := [(x0, .inr (0, [.ref a0, .ref n0, .ref m0, .ref i0, .ref r0, .ref p0]))]) (w2 := fun _ => [(x0, .inr (0, [.ref a0, .ref n0, .ref m0, .ref i0, .ref r0, .ref p0])), (a0, .inr (1, [.ref a1, .ref a2, .ref a3, .int (nI tr)])), fk_ai E a1 20 (va_up len (tr - 1) (len (tr - 1) + 1)), fk_ai E a2 300 (va_up ev (15 * (tr - 1) + len (tr - 1)) a), fk_ai E a3 7 (if 0 < len (tr - 1) then va_up fo (ev (15 * (tr - 1) + (len (tr - 1) - 1))) (fo (ev (15 * (tr - 1) + (len (tr - 1) - 1))) ||| 2 ^ a) else fo)]) (cL_append E a0 a1 a2 a3 tr len ev fo a (by first | omega | assumption) (by first | omega | assumption) (by first | omega | assumption) (by first | omega | assumption) (by first | omega | assumption) (by first | omega | assumption)) d_F_event_5 fz_Lg_append fw_169 rfl rfl fw_170 fw_171 ⟨Nat.le_of_ble_eq_true rfl, Nat.le_of_ble_eq_true rfl⟩ rfl (Nat.le_of_ble_eq_true rfl) ⟨Nat.zero_le _, Nat.zero_le _⟩ ⟨rfl, rfl, rfl, rfl, by decide, fun _ => rfl, rfl⟩ (fun u hu5 => ?_)
  show fk_V E _ K (0, 0) [(x0, .inr (0, [.ref a0, .ref n0, .ref m0, .ref i0, .ref r0, .ref p0])), (a0, .inr (1, [.ref a1, .ref a2, .ref a3, .int (nI tr)])), fk_ai E a1 20 (va_up len (tr - 1) (len (tr - 1) + 1)), fk_ai E a2 300 (va_up ev (15 * (tr - 1) + len (tr - 1)) a), fk_ai E a3 7 (if 0 < len (tr - 1) then va_up fo (ev (15 * (tr - 1) + (len (tr - 1) - 1))) (fo (ev (15 * (tr - 1) + (len (tr - 1) - 1))) ||| 2 ^ a) else fo)] 8 [(0, .ref x0), (1, .int (nI a))] [.int (nI (Bool.toNat true))]
  exact hret (0, 0) _ 8 _ () d_F_event_8 (trivial) (rfl)
set_option maxRecDepth 20000 in
set_option maxHeartbeats 4000000 in
theorem cX_eventA (E : fk_E) (x0 : Nat) (a0 : Nat) (n0 : Nat) (m0 : Nat) (i0 : Nat) (r0 : Nat) (p0 : Nat) (a1 : Nat) (a2 : Nat) (a3 : Nat) (tr : Nat) (len : Nat → Nat) (ev : Nat → Nat) (fo : Nat → Nat) (a : Nat) (ha : 7 ≤ a) (ha2 : a < 2 ^ 31) : fk_C E fy_F_event prog_1_method_3_code 2 (some .boolean) 2 0 0 [.ref x0, .int (nI a)] [(x0, .inr (0, [.ref a0, .ref n0, .ref m0, .ref i0, .ref r0, .ref p0])), (a0, .inr (1, [.ref a1, .ref a2, .ref a3, .int (nI tr)])), fk_ai E a1 20 len, fk_ai E a2 300 ev, fk_ai E a3 7 fo] (S := Unit) (fun _ => some (.int (nI (Bool.toNat false)))) (fun _ => True) (fun _ => [(x0, .inr (0, [.ref a0, .ref n0, .ref m0, .ref i0, .ref r0, .ref p0])), (a0, .inr (1, [.ref a1, .ref a2, .ref a3, .int (nI tr)])), fk_ai E a1 20 len, fk_ai E a2 300 ev, fk_ai E a3 7 fo]) := by
  refine fk_enterZ (v := fun _ => false) (by decide) (Nat.le_of_ble_eq_true rfl) (lv0 := [(0, .ref x0), (1, .int (nI a))]) rfl ?_
  intro K hini hret
  refine fk_aload_n 0 d_F_event_0 rfl ?_
  refine fk_get 0 0 rfl rfl fh_F (Nat.le_of_ble_eq_true rfl) fw_134 rfl d_F_event_1 ?_
  refine fk_iload_n 1 d_F_event_4 rfl ?_
  refine fk_callV (q0 := 1) (As := [.int (nI a)]) (rest := []) (is := [1, 2, 3, 4]) (ir := [0]) (ip := [0, 1, 2, 3, 4]) (wc := [(a0, .inr (1, [.ref a1, .ref a2, .ref a3, .int (nI tr)])), fk_ai E a1 20 len, fk_ai E a2 300 ev, fk_ai E a3 7 fo]) (wr := [(x0, .inr (0, [.ref a0, .ref n0, .ref m0, .ref i0, .ref r0, .ref p0]))]) (w2 := fun _ => [(x0, .inr (0, [.ref a0, .ref n0, .ref m0, .ref i0, .ref r0, .ref p0])), (a0, .inr (1, [.ref a1, .ref a2, .ref a3, .int (nI tr)])), fk_ai E a1 20 len, fk_ai E a2 300 ev, fk_ai E a3 7 fo]) (cL_appendA E a0 a1 a2 a3 tr len ev fo a (by first | omega | assumption) (by first | omega | assumption)) d_F_event_5 fz_Lg_append fw_169 rfl rfl fw_170 fw_171 ⟨Nat.le_of_ble_eq_true rfl, Nat.le_of_ble_eq_true rfl⟩ rfl (Nat.le_of_ble_eq_true rfl) ⟨Nat.zero_le _, Nat.zero_le _⟩ ⟨rfl, rfl, rfl, rfl, by decide, fun _ => rfl, rfl⟩ (fun u hu5 => ?_)
  show fk_V E _ K (0, 0) [(x0, .inr (0, [.ref a0, .ref n0, .ref m0, .ref i0, .ref r0, .ref p0])), (a0, .inr (1, [.ref a1, .ref a2, .ref a3, .int (nI tr)])), fk_ai E a1 20 len, fk_ai E a2 300 ev, fk_ai E a3 7 fo] 8 [(0, .ref x0), (1, .int (nI a))] [.int (nI (Bool.toNat false))]
  exact hret (0, 0) _ 8 _ () d_F_event_8 (trivial) (rfl)
set_option maxRecDepth 20000 in
set_option maxHeartbeats 4000000 in
theorem cX_eventM (E : fk_E) (x0 : Nat) (a0 : Nat) (n0 : Nat) (m0 : Nat) (i0 : Nat) (r0 : Nat) (p0 : Nat) (a1 : Nat) (a2 : Nat) (a3 : Nat) (tr : Nat) (len : Nat → Nat) (ev : Nat → Nat) (fo : Nat → Nat) (x : Int32) (hx : x < 0) : fk_C E fy_F_event prog_1_method_3_code 2 (some .boolean) 2 0 0 [.ref x0, .int x] [(x0, .inr (0, [.ref a0, .ref n0, .ref m0, .ref i0, .ref r0, .ref p0])), (a0, .inr (1, [.ref a1, .ref a2, .ref a3, .int (nI tr)])), fk_ai E a1 20 len, fk_ai E a2 300 ev, fk_ai E a3 7 fo] (S := Unit) (fun _ => some (.int (nI (Bool.toNat false)))) (fun _ => True) (fun _ => [(x0, .inr (0, [.ref a0, .ref n0, .ref m0, .ref i0, .ref r0, .ref p0])), (a0, .inr (1, [.ref a1, .ref a2, .ref a3, .int (nI tr)])), fk_ai E a1 20 len, fk_ai E a2 300 ev, fk_ai E a3 7 fo]) := by
  refine fk_enterZ (v := fun _ => false) (by decide) (Nat.le_of_ble_eq_true rfl) (lv0 := [(0, .ref x0), (1, .int x)]) rfl ?_
  intro K hini hret
  refine fk_aload_n 0 d_F_event_0 rfl ?_
  refine fk_get 0 0 rfl rfl fh_F (Nat.le_of_ble_eq_true rfl) fw_134 rfl d_F_event_1 ?_
  refine fk_iload_n 1 d_F_event_4 rfl ?_
  refine fk_callV (q0 := 1) (As := [.int x]) (rest := []) (is := [1, 2, 3, 4]) (ir := [0]) (ip := [0, 1, 2, 3, 4]) (wc := [(a0, .inr (1, [.ref a1, .ref a2, .ref a3, .int (nI tr)])), fk_ai E a1 20 len, fk_ai E a2 300 ev, fk_ai E a3 7 fo]) (wr := [(x0, .inr (0, [.ref a0, .ref n0, .ref m0, .ref i0, .ref r0, .ref p0]))]) (w2 := fun _ => [(x0, .inr (0, [.ref a0, .ref n0, .ref m0, .ref i0, .ref r0, .ref p0])), (a0, .inr (1, [.ref a1, .ref a2, .ref a3, .int (nI tr)])), fk_ai E a1 20 len, fk_ai E a2 300 ev, fk_ai E a3 7 fo]) (cL_appendM E a0 a1 a2 a3 tr len ev fo x (by first | omega | assumption)) d_F_event_5 fz_Lg_append fw_169 rfl rfl fw_170 fw_171 ⟨Nat.le_of_ble_eq_true rfl, Nat.le_of_ble_eq_true rfl⟩ rfl (Nat.le_of_ble_eq_true rfl) ⟨Nat.zero_le _, Nat.zero_le _⟩ ⟨rfl, rfl, rfl, rfl, by decide, fun _ => rfl, rfl⟩ (fun u hu5 => ?_)
  show fk_V E _ K (0, 0) [(x0, .inr (0, [.ref a0, .ref n0, .ref m0, .ref i0, .ref r0, .ref p0])), (a0, .inr (1, [.ref a1, .ref a2, .ref a3, .int (nI tr)])), fk_ai E a1 20 len, fk_ai E a2 300 ev, fk_ai E a3 7 fo] 8 [(0, .ref x0), (1, .int x)] [.int (nI (Bool.toNat false))]
  exact hret (0, 0) _ 8 _ () d_F_event_8 (trivial) (rfl)
set_option maxRecDepth 20000 in
set_option maxHeartbeats 4000000 in
theorem cX_event0 (E : fk_E) (x0 : Nat) (a0 : Nat) (n0 : Nat) (m0 : Nat) (i0 : Nat) (r0 : Nat) (p0 : Nat) (a1 : Nat) (a2 : Nat) (a3 : Nat) (tr : Nat) (len : Nat → Nat) (ev : Nat → Nat) (fo : Nat → Nat) (a : Nat) (ha2 : a < 2 ^ 31) (h0 : tr = 0) : fk_C E fy_F_event prog_1_method_3_code 2 (some .boolean) 2 0 0 [.ref x0, .int (nI a)] [(x0, .inr (0, [.ref a0, .ref n0, .ref m0, .ref i0, .ref r0, .ref p0])), (a0, .inr (1, [.ref a1, .ref a2, .ref a3, .int (nI tr)])), fk_ai E a1 20 len, fk_ai E a2 300 ev, fk_ai E a3 7 fo] (S := Unit) (fun _ => some (.int (nI (Bool.toNat false)))) (fun _ => True) (fun _ => [(x0, .inr (0, [.ref a0, .ref n0, .ref m0, .ref i0, .ref r0, .ref p0])), (a0, .inr (1, [.ref a1, .ref a2, .ref a3, .int (nI tr)])), fk_ai E a1 20 len, fk_ai E a2 300 ev, fk_ai E a3 7 fo]) := by
  refine fk_enterZ (v := fun _ => false) (by decide) (Nat.le_of_ble_eq_true rfl) (lv0 := [(0, .ref x0), (1, .int (nI a))]) rfl ?_
  intro K hini hret
  refine fk_aload_n 0 d_F_event_0 rfl ?_
  refine fk_get 0 0 rfl rfl fh_F (Nat.le_of_ble_eq_true rfl) fw_134 rfl d_F_event_1 ?_
  refine fk_iload_n 1 d_F_event_4 rfl ?_
  refine fk_callV (q0 := 1) (As := [.int (nI a)]) (rest := []) (is := [1, 2, 3, 4]) (ir := [0]) (ip := [0, 1, 2, 3, 4]) (wc := [(a0, .inr (1, [.ref a1, .ref a2, .ref a3, .int (nI tr)])), fk_ai E a1 20 len, fk_ai E a2 300 ev, fk_ai E a3 7 fo]) (wr := [(x0, .inr (0, [.ref a0, .ref n0, .ref m0, .ref i0, .ref r0, .ref p0]))]) (w2 := fun _ => [(x0, .inr (0, [.ref a0, .ref n0, .ref m0, .ref i0, .ref r0, .ref p0])), (a0, .inr (1, [.ref a1, .ref a2, .ref a3, .int (nI tr)])), fk_ai E a1 20 len, fk_ai E a2 300 ev, fk_ai E a3 7 fo]) (cL_append0 E a0 a1 a2 a3 tr len ev fo a (by first | omega | assumption) (by first | omega | assumption)) d_F_event_5 fz_Lg_append fw_169 rfl rfl fw_170 fw_171 ⟨Nat.le_of_ble_eq_true rfl, Nat.le_of_ble_eq_true rfl⟩ rfl (Nat.le_of_ble_eq_true rfl) ⟨Nat.zero_le _, Nat.zero_le _⟩ ⟨rfl, rfl, rfl, rfl, by decide, fun _ => rfl, rfl⟩ (fun u hu5 => ?_)
  show fk_V E _ K (0, 0) [(x0, .inr (0, [.ref a0, .ref n0, .ref m0, .ref i0, .ref r0, .ref p0])), (a0, .inr (1, [.ref a1, .ref a2, .ref a3, .int (nI tr)])), fk_ai E a1 20 len, fk_ai E a2 300 ev, fk_ai E a3 7 fo] 8 [(0, .ref x0), (1, .int (nI a))] [.int (nI (Bool.toNat false))]
  exact hret (0, 0) _ 8 _ () d_F_event_8 (trivial) (rfl)
set_option maxRecDepth 20000 in
set_option maxHeartbeats 4000000 in
theorem cX_eventF (E : fk_E) (x0 : Nat) (a0 : Nat) (n0 : Nat) (m0 : Nat) (i0 : Nat) (r0 : Nat) (p0 : Nat) (a1 : Nat) (a2 : Nat) (a3 : Nat) (tr : Nat) (len : Nat → Nat) (ev : Nat → Nat) (fo : Nat → Nat) (a : Nat) (ha2 : a < 2 ^ 31) (h0 : 0 < tr) (ht : tr ≤ 20) (hl : len (tr - 1) = 15) : fk_C E fy_F_event prog_1_method_3_code 2 (some .boolean) 2 0 0 [.ref x0, .int (nI a)] [(x0, .inr (0, [.ref a0, .ref n0, .ref m0, .ref i0, .ref r0, .ref p0])), (a0, .inr (1, [.ref a1, .ref a2, .ref a3, .int (nI tr)])), fk_ai E a1 20 len, fk_ai E a2 300 ev, fk_ai E a3 7 fo] (S := Unit) (fun _ => some (.int (nI (Bool.toNat false)))) (fun _ => True) (fun _ => [(x0, .inr (0, [.ref a0, .ref n0, .ref m0, .ref i0, .ref r0, .ref p0])), (a0, .inr (1, [.ref a1, .ref a2, .ref a3, .int (nI tr)])), fk_ai E a1 20 len, fk_ai E a2 300 ev, fk_ai E a3 7 fo]) := by
  refine fk_enterZ (v := fun _ => false) (by decide) (Nat.le_of_ble_eq_true rfl) (lv0 := [(0, .ref x0), (1, .int (nI a))]) rfl ?_
  intro K hini hret
  refine fk_aload_n 0 d_F_event_0 rfl ?_
  refine fk_get 0 0 rfl rfl fh_F (Nat.le_of_ble_eq_true rfl) fw_134 rfl d_F_event_1 ?_
  refine fk_iload_n 1 d_F_event_4 rfl ?_
  refine fk_callV (q0 := 1) (As := [.int (nI a)]) (rest := []) (is := [1, 2, 3, 4]) (ir := [0]) (ip := [0, 1, 2, 3, 4]) (wc := [(a0, .inr (1, [.ref a1, .ref a2, .ref a3, .int (nI tr)])), fk_ai E a1 20 len, fk_ai E a2 300 ev, fk_ai E a3 7 fo]) (wr := [(x0, .inr (0, [.ref a0, .ref n0, .ref m0, .ref i0, .ref r0, .ref p0]))]) (w2 := fun _ => [(x0, .inr (0, [.ref a0, .ref n0, .ref m0, .ref i0, .ref r0, .ref p0])), (a0, .inr (1, [.ref a1, .ref a2, .ref a3, .int (nI tr)])), fk_ai E a1 20 len, fk_ai E a2 300 ev, fk_ai E a3 7 fo]) (cL_appendF E a0 a1 a2 a3 tr len ev fo a (by first | omega | assumption) (by first | omega | assumption) (by first | omega | assumption) (by first | omega | assumption)) d_F_event_5 fz_Lg_append fw_169 rfl rfl fw_170 fw_171 ⟨Nat.le_of_ble_eq_true rfl, Nat.le_of_ble_eq_true rfl⟩ rfl (Nat.le_of_ble_eq_true rfl) ⟨Nat.zero_le _, Nat.zero_le _⟩ ⟨rfl, rfl, rfl, rfl, by decide, fun _ => rfl, rfl⟩ (fun u hu5 => ?_)
  show fk_V E _ K (0, 0) [(x0, .inr (0, [.ref a0, .ref n0, .ref m0, .ref i0, .ref r0, .ref p0])), (a0, .inr (1, [.ref a1, .ref a2, .ref a3, .int (nI tr)])), fk_ai E a1 20 len, fk_ai E a2 300 ev, fk_ai E a3 7 fo] 8 [(0, .ref x0), (1, .int (nI a))] [.int (nI (Bool.toNat false))]
  exact hret (0, 0) _ 8 _ () d_F_event_8 (trivial) (rfl)
theorem d_F_clear_0 : decode prog_1_method_4_code 0 = .ok (.aload_n 0, 1) := by decide +kernel
theorem d_F_clear_1 : decode prog_1_method_4_code 1 = .ok (.getfield 12, 3) := by decide +kernel
theorem d_F_clear_4 : decode prog_1_method_4_code 4 = .ok (.invokevirtual 55, 3) := by decide +kernel
theorem d_F_clear_7 : decode prog_1_method_4_code 7 = .ok (.return_, 1) := by decide +kernel
set_option maxRecDepth 20000 in
set_option maxHeartbeats 4000000 in
theorem cX_clear (E : fk_E) (x0 : Nat) (a0 : Nat) (n0 : Nat) (m0 : Nat) (i0 : Nat) (r0 : Nat) (p0 : Nat) (a1 : Nat) (a2 : Nat) (a3 : Nat) (tr : Nat) (fo : Nat → Nat)  : fk_C E fy_F_clear prog_1_method_4_code 1 none 2 0 0 [.ref x0] [(x0, .inr (0, [.ref a0, .ref n0, .ref m0, .ref i0, .ref r0, .ref p0])), (a0, .inr (1, [.ref a1, .ref a2, .ref a3, .int (nI tr)])), fk_ai E a3 7 fo] (S := (Nat → Nat)) (fun (u : (Nat → Nat)) => none) (fun (u : (Nat → Nat)) => ∀ k, k < 7 → u k = 0) (fun (u : (Nat → Nat)) => [(x0, .inr (0, [.ref a0, .ref n0, .ref m0, .ref i0, .ref r0, .ref p0])), (a0, .inr (1, [.ref a1, .ref a2, .ref a3, .int (nI 0)])), fk_ai E a3 7 u]) := by
  refine fk_enterV (by decide) (Nat.le_of_ble_eq_true rfl) (lv0 := [(0, .ref x0)]) rfl ?_
  intro K hini hret
  refine fk_aload_n 0 d_F_clear_0 rfl ?_
  refine fk_get 0 0 rfl rfl fh_F (Nat.le_of_ble_eq_true rfl) fw_134 rfl d_F_clear_1 ?_
  refine fk_callV (q0 := 1) (As := []) (rest := []) (is := [1, 2]) (ir := [0]) (ip := [0, 1, 2]) (wc := [(a0, .inr (1, [.ref a1, .ref a2, .ref a3, .int (nI tr)])), fk_ai E a3 7 fo]) (wr := [(x0, .inr (0, [.ref a0, .ref n0, .ref m0, .ref i0, .ref r0, .ref p0]))]) (w2 := fun u => [(x0, .inr (0, [.ref a0, .ref n0, .ref m0, .ref i0, .ref r0, .ref p0])), (a0, .inr (1, [.ref a1, .ref a2, .ref a3, .int (nI 0)])), fk_ai E a3 7 u]) (cL_removeTraces E a0 a1 a2 a3 tr fo ) d_F_clear_4 fz_Lg_removeTraces fw_184 rfl rfl fw_185 fw_186 ⟨Nat.le_of_ble_eq_true rfl, Nat.le_of_ble_eq_true rfl⟩ rfl (Nat.le_of_ble_eq_true rfl) ⟨Nat.zero_le _, Nat.zero_le _⟩ ⟨rfl, rfl, rfl, rfl, by decide, fun _ => rfl, rfl⟩ (fun u hu4 => ?_)
  obtain ⟨g9_4, rfl⟩ : ∃ z, z = u := ⟨_, rfl⟩
  have hq4 : ∀ k, k < 7 → g9_4 k = 0 := hu4
  show fk_V E _ K (0, 0) [(x0, .inr (0, [.ref a0, .ref n0, .ref m0, .ref i0, .ref r0, .ref p0])), (a0, .inr (1, [.ref a1, .ref a2, .ref a3, .int (nI 0)])), fk_ai E a3 7 g9_4] 7 [(0, .ref x0)] []
  exact hret (0, 0) _ 7 _ g9_4 d_F_clear_7 (hq4) (rfl)
theorem d_F_length_0 : decode prog_1_method_5_code 0 = .ok (.aload_n 0, 1) := by decide +kernel
theorem d_F_length_1 : decode prog_1_method_5_code 1 = .ok (.getfield 12, 3) := by decide +kernel
theorem d_F_length_4 : decode prog_1_method_5_code 4 = .ok (.iload_n 1, 1) := by decide +kernel
theorem d_F_length_5 : decode prog_1_method_5_code 5 = .ok (.invokevirtual 58, 3) := by decide +kernel
theorem d_F_length_8 : decode prog_1_method_5_code 8 = .ok (.ifCond .eq 14, 3) := by decide +kernel
theorem d_F_length_11 : decode prog_1_method_5_code 11 = .ok (.aload_n 0, 1) := by decide +kernel
theorem d_F_length_12 : decode prog_1_method_5_code 12 = .ok (.getfield 12, 3) := by decide +kernel
theorem d_F_length_15 : decode prog_1_method_5_code 15 = .ok (.iload_n 1, 1) := by decide +kernel
theorem d_F_length_16 : decode prog_1_method_5_code 16 = .ok (.invokevirtual 61, 3) := by decide +kernel
theorem d_F_length_19 : decode prog_1_method_5_code 19 = .ok (.goto 4, 3) := by decide +kernel
theorem d_F_length_22 : decode prog_1_method_5_code 22 = .ok (.iconst (-1), 1) := by decide +kernel
theorem d_F_length_23 : decode prog_1_method_5_code 23 = .ok (.ireturn, 1) := by decide +kernel
set_option maxRecDepth 20000 in
set_option maxHeartbeats 4000000 in
theorem cX_length (E : fk_E) (x0 : Nat) (a0 : Nat) (n0 : Nat) (m0 : Nat) (i0 : Nat) (r0 : Nat) (p0 : Nat) (a1 : Nat) (a2 : Nat) (a3 : Nat) (tr : Nat) (len : Nat → Nat) (t : Nat) (ht : tr ≤ 20) (h1 : t < tr) : fk_C E fy_F_length prog_1_method_5_code 2 (some .int) 1 0 0 [.ref x0, .int (nI t)] [(x0, .inr (0, [.ref a0, .ref n0, .ref m0, .ref i0, .ref r0, .ref p0])), (a0, .inr (1, [.ref a1, .ref a2, .ref a3, .int (nI tr)])), fk_ai E a1 20 len] (S := Unit) (fun _ => some (.int (nI (len t)))) (fun _ => True) (fun _ => [(x0, .inr (0, [.ref a0, .ref n0, .ref m0, .ref i0, .ref r0, .ref p0])), (a0, .inr (1, [.ref a1, .ref a2, .ref a3, .int (nI tr)])), fk_ai E a1 20 len]) := by
  refine fk_enterI (v := fun _ => (nI (len t))) (by decide) (Nat.le_of_ble_eq_true rfl) (lv0 := [(0, .ref x0), (1, .int (nI t))]) rfl ?_
  intro K hini hret
  refine fk_aload_n 0 d_F_length_0 rfl ?_
  refine fk_get 0 0 rfl rfl fh_F (Nat.le_of_ble_eq_true rfl) fw_134 rfl d_F_length_1 ?_
  refine fk_iload_n 1 d_F_length_4 rfl ?_
  refine fk_callV (q0 := 1) (As := [.int (nI t)]) (rest := []) (is := [1]) (ir := [0, 2]) (ip := [0, 2, 1]) (wc := [(a0, .inr (1, [.ref a1, .ref a2, .ref a3, .int (nI tr)]))]) (wr := [(x0, .inr (0, [.ref a0, .ref n0, .ref m0, .ref i0, .ref r0, .ref p0])), fk_ai E a1 20 len]) (w2 := fun _ => [(x0, .inr (0, [.ref a0, .ref n0, .ref m0, .ref i0, .ref r0, .ref p0])), (a0, .inr (1, [.ref a1, .ref a2, .ref a3, .int (nI tr)])), fk_ai E a1 20 len]) (cL_hasTrace E a0 a1 a2 a3 tr t (by first | omega | assumption) (by first | omega | assumption)) d_F_length_5 fz_Lg_hasTrace fw_195 rfl rfl fw_196 fw_197 ⟨Nat.le_of_ble_eq_true rfl, Nat.le_of_ble_eq_true rfl⟩ rfl (Nat.le_of_ble_eq_true rfl) ⟨Nat.zero_le _, Nat.zero_le _⟩ ⟨rfl, rfl, rfl, rfl, by decide, fun _ => rfl, rfl⟩ (fun u hu5 => ?_)
  show fk_V E _ K (0, 0) [(x0, .inr (0, [.ref a0, .ref n0, .ref m0, .ref i0, .ref r0, .ref p0])), (a0, .inr (1, [.ref a1, .ref a2, .ref a3, .int (nI tr)])), fk_ai E a1 20 len] 8 [(0, .ref x0), (1, .int (nI t))] [.int (nI (Bool.toNat (decide (t < tr))))]
  refine fk_if_eqB (b := (decide (t < tr))) d_F_length_8 rfl (fun h8t => ?_) (fun h8f => ?_)
  · exact absurd (of_decide_eq_false h8t) (by omega)
  · refine fk_aload_n 0 d_F_length_11 rfl ?_
    refine fk_get 0 0 rfl rfl fh_F (Nat.le_of_ble_eq_true rfl) fw_134 rfl d_F_length_12 ?_
    refine fk_iload_n 1 d_F_length_15 rfl ?_
    refine fk_callV (q0 := 1) (As := [.int (nI t)]) (rest := []) (is := [1, 2]) (ir := [0]) (ip := [0, 1, 2]) (wc := [(a0, .inr (1, [.ref a1, .ref a2, .ref a3, .int (nI tr)])), fk_ai E a1 20 len]) (wr := [(x0, .inr (0, [.ref a0, .ref n0, .ref m0, .ref i0, .ref r0, .ref p0]))]) (w2 := fun _ => [(x0, .inr (0, [.ref a0, .ref n0, .ref m0, .ref i0, .ref r0, .ref p0])), (a0, .inr (1, [.ref a1, .ref a2, .ref a3, .int (nI tr)])), fk_ai E a1 20 len]) (cL_lengthOf E a0 a1 a2 a3 tr len t (by first | omega | assumption)) d_F_length_16 fz_Lg_lengthOf fw_199 rfl rfl fw_200 fw_201 ⟨Nat.le_of_ble_eq_true rfl, Nat.le_of_ble_eq_true rfl⟩ rfl (Nat.le_of_ble_eq_true rfl) ⟨Nat.zero_le _, Nat.zero_le _⟩ ⟨rfl, rfl, rfl, rfl, by decide, fun _ => rfl, rfl⟩ (fun u hu16 => ?_)
    show fk_V E _ K (0, 0) [(x0, .inr (0, [.ref a0, .ref n0, .ref m0, .ref i0, .ref r0, .ref p0])), (a0, .inr (1, [.ref a1, .ref a2, .ref a3, .int (nI tr)])), fk_ai E a1 20 len] 19 [(0, .ref x0), (1, .int (nI t))] [.int (nI (len t))]
    refine fk_goto d_F_length_19 rfl ?_
    exact hret (0, 0) _ 23 _ () d_F_length_23 (trivial) (rfl)
set_option maxRecDepth 20000 in
set_option maxHeartbeats 4000000 in
theorem cX_lengthO (E : fk_E) (x0 : Nat) (a0 : Nat) (n0 : Nat) (m0 : Nat) (i0 : Nat) (r0 : Nat) (p0 : Nat) (a1 : Nat) (a2 : Nat) (a3 : Nat) (tr : Nat) (len : Nat → Nat) (t : Nat) (ht : tr ≤ 20) (h1 : tr ≤ t) (h2 : t < 2 ^ 31) : fk_C E fy_F_length prog_1_method_5_code 2 (some .int) 1 0 0 [.ref x0, .int (nI t)] [(x0, .inr (0, [.ref a0, .ref n0, .ref m0, .ref i0, .ref r0, .ref p0])), (a0, .inr (1, [.ref a1, .ref a2, .ref a3, .int (nI tr)])), fk_ai E a1 20 len] (S := Unit) (fun _ => some (.int (nI 0 - 1))) (fun _ => True) (fun _ => [(x0, .inr (0, [.ref a0, .ref n0, .ref m0, .ref i0, .ref r0, .ref p0])), (a0, .inr (1, [.ref a1, .ref a2, .ref a3, .int (nI tr)])), fk_ai E a1 20 len]) := by
  refine fk_enterI (v := fun _ => (nI 0 - 1)) (by decide) (Nat.le_of_ble_eq_true rfl) (lv0 := [(0, .ref x0), (1, .int (nI t))]) rfl ?_
  intro K hini hret
  refine fk_aload_n 0 d_F_length_0 rfl ?_
  refine fk_get 0 0 rfl rfl fh_F (Nat.le_of_ble_eq_true rfl) fw_134 rfl d_F_length_1 ?_
  refine fk_iload_n 1 d_F_length_4 rfl ?_
  refine fk_callV (q0 := 1) (As := [.int (nI t)]) (rest := []) (is := [1]) (ir := [0, 2]) (ip := [0, 2, 1]) (wc := [(a0, .inr (1, [.ref a1, .ref a2, .ref a3, .int (nI tr)]))]) (wr := [(x0, .inr (0, [.ref a0, .ref n0, .ref m0, .ref i0, .ref r0, .ref p0])), fk_ai E a1 20 len]) (w2 := fun _ => [(x0, .inr (0, [.ref a0, .ref n0, .ref m0, .ref i0, .ref r0, .ref p0])), (a0, .inr (1, [.ref a1, .ref a2, .ref a3, .int (nI tr)])), fk_ai E a1 20 len]) (cL_hasTrace E a0 a1 a2 a3 tr t (by first | omega | assumption) (by first | omega | assumption)) d_F_length_5 fz_Lg_hasTrace fw_195 rfl rfl fw_196 fw_197 ⟨Nat.le_of_ble_eq_true rfl, Nat.le_of_ble_eq_true rfl⟩ rfl (Nat.le_of_ble_eq_true rfl) ⟨Nat.zero_le _, Nat.zero_le _⟩ ⟨rfl, rfl, rfl, rfl, by decide, fun _ => rfl, rfl⟩ (fun u hu5 => ?_)
  show fk_V E _ K (0, 0) [(x0, .inr (0, [.ref a0, .ref n0, .ref m0, .ref i0, .ref r0, .ref p0])), (a0, .inr (1, [.ref a1, .ref a2, .ref a3, .int (nI tr)])), fk_ai E a1 20 len] 8 [(0, .ref x0), (1, .int (nI t))] [.int (nI (Bool.toNat (decide (t < tr))))]
  refine fk_if_eqB (b := (decide (t < tr))) d_F_length_8 rfl (fun h8t => ?_) (fun h8f => ?_)
  · refine fk_iconst (v := nI 0 - 1) d_F_length_22 (by decide +kernel) ?_
    exact hret (0, 0) _ 23 _ () d_F_length_23 (trivial) (rfl)
  · exact absurd (of_decide_eq_true h8f) (by omega)
set_option maxRecDepth 20000 in
set_option maxHeartbeats 4000000 in
theorem cX_lengthM (E : fk_E) (x0 : Nat) (a0 : Nat) (n0 : Nat) (m0 : Nat) (i0 : Nat) (r0 : Nat) (p0 : Nat) (a1 : Nat) (a2 : Nat) (a3 : Nat) (tr : Nat) (len : Nat → Nat) (x : Int32) (hx : x < 0) : fk_C E fy_F_length prog_1_method_5_code 2 (some .int) 1 0 0 [.ref x0, .int x] [(x0, .inr (0, [.ref a0, .ref n0, .ref m0, .ref i0, .ref r0, .ref p0])), (a0, .inr (1, [.ref a1, .ref a2, .ref a3, .int (nI tr)])), fk_ai E a1 20 len] (S := Unit) (fun _ => some (.int (nI 0 - 1))) (fun _ => True) (fun _ => [(x0, .inr (0, [.ref a0, .ref n0, .ref m0, .ref i0, .ref r0, .ref p0])), (a0, .inr (1, [.ref a1, .ref a2, .ref a3, .int (nI tr)])), fk_ai E a1 20 len]) := by
  refine fk_enterI (v := fun _ => (nI 0 - 1)) (by decide) (Nat.le_of_ble_eq_true rfl) (lv0 := [(0, .ref x0), (1, .int x)]) rfl ?_
  intro K hini hret
  refine fk_aload_n 0 d_F_length_0 rfl ?_
  refine fk_get 0 0 rfl rfl fh_F (Nat.le_of_ble_eq_true rfl) fw_134 rfl d_F_length_1 ?_
  refine fk_iload_n 1 d_F_length_4 rfl ?_
  refine fk_callV (q0 := 1) (As := [.int x]) (rest := []) (is := [1]) (ir := [0, 2]) (ip := [0, 2, 1]) (wc := [(a0, .inr (1, [.ref a1, .ref a2, .ref a3, .int (nI tr)]))]) (wr := [(x0, .inr (0, [.ref a0, .ref n0, .ref m0, .ref i0, .ref r0, .ref p0])), fk_ai E a1 20 len]) (w2 := fun _ => [(x0, .inr (0, [.ref a0, .ref n0, .ref m0, .ref i0, .ref r0, .ref p0])), (a0, .inr (1, [.ref a1, .ref a2, .ref a3, .int (nI tr)])), fk_ai E a1 20 len]) (cL_hasTraceM E a0 a1 a2 a3 tr x (by first | omega | assumption)) d_F_length_5 fz_Lg_hasTrace fw_195 rfl rfl fw_196 fw_197 ⟨Nat.le_of_ble_eq_true rfl, Nat.le_of_ble_eq_true rfl⟩ rfl (Nat.le_of_ble_eq_true rfl) ⟨Nat.zero_le _, Nat.zero_le _⟩ ⟨rfl, rfl, rfl, rfl, by decide, fun _ => rfl, rfl⟩ (fun u hu5 => ?_)
  show fk_V E _ K (0, 0) [(x0, .inr (0, [.ref a0, .ref n0, .ref m0, .ref i0, .ref r0, .ref p0])), (a0, .inr (1, [.ref a1, .ref a2, .ref a3, .int (nI tr)])), fk_ai E a1 20 len] 8 [(0, .ref x0), (1, .int x)] [.int (nI (Bool.toNat false))]
  refine fk_if_eqB (b := false) d_F_length_8 rfl (fun h8t => ?_) (fun h8f => ?_)
  · refine fk_iconst (v := nI 0 - 1) d_F_length_22 (by decide +kernel) ?_
    exact hret (0, 0) _ 23 _ () d_F_length_23 (trivial) (rfl)
  · exact absurd h8f (by decide)
theorem d_F_at_0 : decode prog_1_method_6_code 0 = .ok (.aload_n 0, 1) := by decide +kernel
theorem d_F_at_1 : decode prog_1_method_6_code 1 = .ok (.getfield 12, 3) := by decide +kernel
theorem d_F_at_4 : decode prog_1_method_6_code 4 = .ok (.iload_n 1, 1) := by decide +kernel
theorem d_F_at_5 : decode prog_1_method_6_code 5 = .ok (.iload_n 2, 1) := by decide +kernel
theorem d_F_at_6 : decode prog_1_method_6_code 6 = .ok (.invokevirtual 65, 3) := by decide +kernel
theorem d_F_at_9 : decode prog_1_method_6_code 9 = .ok (.ifCond .eq 15, 3) := by decide +kernel
theorem d_F_at_12 : decode prog_1_method_6_code 12 = .ok (.aload_n 0, 1) := by decide +kernel
theorem d_F_at_13 : decode prog_1_method_6_code 13 = .ok (.getfield 12, 3) := by decide +kernel
theorem d_F_at_16 : decode prog_1_method_6_code 16 = .ok (.iload_n 1, 1) := by decide +kernel
theorem d_F_at_17 : decode prog_1_method_6_code 17 = .ok (.iload_n 2, 1) := by decide +kernel
theorem d_F_at_18 : decode prog_1_method_6_code 18 = .ok (.invokevirtual 69, 3) := by decide +kernel
theorem d_F_at_21 : decode prog_1_method_6_code 21 = .ok (.goto 4, 3) := by decide +kernel
theorem d_F_at_24 : decode prog_1_method_6_code 24 = .ok (.iconst (-1), 1) := by decide +kernel
theorem d_F_at_25 : decode prog_1_method_6_code 25 = .ok (.ireturn, 1) := by decide +kernel
set_option maxRecDepth 20000 in
set_option maxHeartbeats 4000000 in
theorem cX_at (E : fk_E) (x0 : Nat) (a0 : Nat) (n0 : Nat) (m0 : Nat) (i0 : Nat) (r0 : Nat) (p0 : Nat) (a1 : Nat) (a2 : Nat) (a3 : Nat) (tr : Nat) (len : Nat → Nat) (ev : Nat → Nat) (t : Nat) (i : Nat) (ht : tr ≤ 20) (h3 : ∀ k, k < 20 → len k ≤ 15) (h1 : t < tr) (h2 : i < len t) : fk_C E fy_F_at prog_1_method_6_code 3 (some .int) 2 0 0 [.ref x0, .int (nI t), .int (nI i)] [(x0, .inr (0, [.ref a0, .ref n0, .ref m0, .ref i0, .ref r0, .ref p0])), (a0, .inr (1, [.ref a1, .ref a2, .ref a3, .int (nI tr)])), fk_ai E a1 20 len, fk_ai E a2 300 ev] (S := Unit) (fun _ => some (.int (nI (ev (15 * t + i))))) (fun _ => True) (fun _ => [(x0, .inr (0, [.ref a0, .ref n0, .ref m0, .ref i0, .ref r0, .ref p0])), (a0, .inr (1, [.ref a1, .ref a2, .ref a3, .int (nI tr)])), fk_ai E a1 20 len, fk_ai E a2 300 ev]) := by
  refine fk_enterI (v := fun _ => (nI (ev (15 * t + i)))) (by decide) (Nat.le_of_ble_eq_true rfl) (lv0 := [(0, .ref x0), (1, .int (nI t)), (2, .int (nI i))]) rfl ?_
  intro K hini hret
  have h9 := h3 t (by omega)
  refine fk_aload_n 0 d_F_at_0 rfl ?_
  refine fk_get 0 0 rfl rfl fh_F (Nat.le_of_ble_eq_true rfl) fw_134 rfl d_F_at_1 ?_
  refine fk_iload_n 1 d_F_at_4 rfl ?_
  refine fk_iload_n 2 d_F_at_5 rfl ?_
  refine fk_callV (q0 := 1) (As := [.int (nI t), .int (nI i)]) (rest := []) (is := [1, 2]) (ir := [0, 3]) (ip := [0, 2, 3, 1]) (wc := [(a0, .inr (1, [.ref a1, .ref a2, .ref a3, .int (nI tr)])), fk_ai E a1 20 len]) (wr := [(x0, .inr (0, [.ref a0, .ref n0, .ref m0, .ref i0, .ref r0, .ref p0])), fk_ai E a2 300 ev]) (w2 := fun _ => [(x0, .inr (0, [.ref a0, .ref n0, .ref m0, .ref i0, .ref r0, .ref p0])), (a0, .inr (1, [.ref a1, .ref a2, .ref a3, .int (nI tr)])), fk_ai E a1 20 len, fk_ai E a2 300 ev]) (cL_hasEvent E a0 a1 a2 a3 tr len t i (by first | omega | assumption) (by first | omega | assumption) (by first | omega | assumption) (by first | omega | assumption)) d_F_at_6 fz_Lg_hasEvent fw_207 rfl rfl fw_208 fw_209 ⟨Nat.le_of_ble_eq_true rfl, Nat.le_of_ble_eq_true rfl⟩ rfl (Nat.le_of_ble_eq_true rfl) ⟨Nat.zero_le _, Nat.zero_le _⟩ ⟨rfl, rfl, rfl, rfl, by decide, fun _ => rfl, rfl⟩ (fun u hu6 => ?_)
  show fk_V E _ K (0, 0) [(x0, .inr (0, [.ref a0, .ref n0, .ref m0, .ref i0, .ref r0, .ref p0])), (a0, .inr (1, [.ref a1, .ref a2, .ref a3, .int (nI tr)])), fk_ai E a1 20 len, fk_ai E a2 300 ev] 9 [(0, .ref x0), (1, .int (nI t)), (2, .int (nI i))] [.int (nI (Bool.toNat (decide (t < tr ∧ i < len t))))]
  refine fk_if_eqB (b := (decide (t < tr ∧ i < len t))) d_F_at_9 rfl (fun h9t => ?_) (fun h9f => ?_)
  · exact absurd (of_decide_eq_false h9t) (by omega)
  · refine fk_aload_n 0 d_F_at_12 rfl ?_
    refine fk_get 0 0 rfl rfl fh_F (Nat.le_of_ble_eq_true rfl) fw_134 rfl d_F_at_13 ?_
    refine fk_iload_n 1 d_F_at_16 rfl ?_
    refine fk_iload_n 2 d_F_at_17 rfl ?_
    refine fk_callV (q0 := 1) (As := [.int (nI t), .int (nI i)]) (rest := []) (is := [1, 3]) (ir := [0, 2]) (ip := [0, 2, 1, 3]) (wc := [(a0, .inr (1, [.ref a1, .ref a2, .ref a3, .int (nI tr)])), fk_ai E a2 300 ev]) (wr := [(x0, .inr (0, [.ref a0, .ref n0, .ref m0, .ref i0, .ref r0, .ref p0])), fk_ai E a1 20 len]) (w2 := fun _ => [(x0, .inr (0, [.ref a0, .ref n0, .ref m0, .ref i0, .ref r0, .ref p0])), (a0, .inr (1, [.ref a1, .ref a2, .ref a3, .int (nI tr)])), fk_ai E a1 20 len, fk_ai E a2 300 ev]) (cL_activityAt E a0 a1 a2 a3 tr ev t i (by first | omega | assumption)) d_F_at_18 fz_Lg_activityAt fw_212 rfl rfl fw_177 fw_178 ⟨Nat.le_of_ble_eq_true rfl, Nat.le_of_ble_eq_true rfl⟩ rfl (Nat.le_of_ble_eq_true rfl) ⟨Nat.zero_le _, Nat.zero_le _⟩ ⟨rfl, rfl, rfl, rfl, by decide, fun _ => rfl, rfl⟩ (fun u hu18 => ?_)
    show fk_V E _ K (0, 0) [(x0, .inr (0, [.ref a0, .ref n0, .ref m0, .ref i0, .ref r0, .ref p0])), (a0, .inr (1, [.ref a1, .ref a2, .ref a3, .int (nI tr)])), fk_ai E a1 20 len, fk_ai E a2 300 ev] 21 [(0, .ref x0), (1, .int (nI t)), (2, .int (nI i))] [.int (nI (ev (15 * t + i)))]
    refine fk_goto d_F_at_21 rfl ?_
    exact hret (0, 0) _ 25 _ () d_F_at_25 (trivial) (rfl)
set_option maxRecDepth 20000 in
set_option maxHeartbeats 4000000 in
theorem cX_atO (E : fk_E) (x0 : Nat) (a0 : Nat) (n0 : Nat) (m0 : Nat) (i0 : Nat) (r0 : Nat) (p0 : Nat) (a1 : Nat) (a2 : Nat) (a3 : Nat) (tr : Nat) (len : Nat → Nat) (ev : Nat → Nat) (t : Nat) (i : Nat) (ht : tr ≤ 20) (h3 : ∀ k, k < 20 → len k ≤ 15) (h1 : ¬ (t < tr ∧ i < len t)) (h2 : t < 2 ^ 31) (h4 : i < 2 ^ 31) : fk_C E fy_F_at prog_1_method_6_code 3 (some .int) 2 0 0 [.ref x0, .int (nI t), .int (nI i)] [(x0, .inr (0, [.ref a0, .ref n0, .ref m0, .ref i0, .ref r0, .ref p0])), (a0, .inr (1, [.ref a1, .ref a2, .ref a3, .int (nI tr)])), fk_ai E a1 20 len, fk_ai E a2 300 ev] (S := Unit) (fun _ => some (.int (nI 0 - 1))) (fun _ => True) (fun _ => [(x0, .inr (0, [.ref a0, .ref n0, .ref m0, .ref i0, .ref r0, .ref p0])), (a0, .inr (1, [.ref a1, .ref a2, .ref a3, .int (nI tr)])), fk_ai E a1 20 len, fk_ai E a2 300 ev]) := by
  refine fk_enterI (v := fun _ => (nI 0 - 1)) (by decide) (Nat.le_of_ble_eq_true rfl) (lv0 := [(0, .ref x0), (1, .int (nI t)), (2, .int (nI i))]) rfl ?_
  intro K hini hret
  refine fk_aload_n 0 d_F_at_0 rfl ?_
  refine fk_get 0 0 rfl rfl fh_F (Nat.le_of_ble_eq_true rfl) fw_134 rfl d_F_at_1 ?_
  refine fk_iload_n 1 d_F_at_4 rfl ?_
  refine fk_iload_n 2 d_F_at_5 rfl ?_
  refine fk_callV (q0 := 1) (As := [.int (nI t), .int (nI i)]) (rest := []) (is := [1, 2]) (ir := [0, 3]) (ip := [0, 2, 3, 1]) (wc := [(a0, .inr (1, [.ref a1, .ref a2, .ref a3, .int (nI tr)])), fk_ai E a1 20 len]) (wr := [(x0, .inr (0, [.ref a0, .ref n0, .ref m0, .ref i0, .ref r0, .ref p0])), fk_ai E a2 300 ev]) (w2 := fun _ => [(x0, .inr (0, [.ref a0, .ref n0, .ref m0, .ref i0, .ref r0, .ref p0])), (a0, .inr (1, [.ref a1, .ref a2, .ref a3, .int (nI tr)])), fk_ai E a1 20 len, fk_ai E a2 300 ev]) (cL_hasEvent E a0 a1 a2 a3 tr len t i (by first | omega | assumption) (by first | omega | assumption) (by first | omega | assumption) (by first | omega | assumption)) d_F_at_6 fz_Lg_hasEvent fw_207 rfl rfl fw_208 fw_209 ⟨Nat.le_of_ble_eq_true rfl, Nat.le_of_ble_eq_true rfl⟩ rfl (Nat.le_of_ble_eq_true rfl) ⟨Nat.zero_le _, Nat.zero_le _⟩ ⟨rfl, rfl, rfl, rfl, by decide, fun _ => rfl, rfl⟩ (fun u hu6 => ?_)
  show fk_V E _ K (0, 0) [(x0, .inr (0, [.ref a0, .ref n0, .ref m0, .ref i0, .ref r0, .ref p0])), (a0, .inr (1, [.ref a1, .ref a2, .ref a3, .int (nI tr)])), fk_ai E a1 20 len, fk_ai E a2 300 ev] 9 [(0, .ref x0), (1, .int (nI t)), (2, .int (nI i))] [.int (nI (Bool.toNat (decide (t < tr ∧ i < len t))))]
  refine fk_if_eqB (b := (decide (t < tr ∧ i < len t))) d_F_at_9 rfl (fun h9t => ?_) (fun h9f => ?_)
  · refine fk_iconst (v := nI 0 - 1) d_F_at_24 (by decide +kernel) ?_
    exact hret (0, 0) _ 25 _ () d_F_at_25 (trivial) (rfl)
  · exact absurd (of_decide_eq_true h9f) h1
set_option maxRecDepth 20000 in
set_option maxHeartbeats 4000000 in
theorem cX_atM (E : fk_E) (x0 : Nat) (a0 : Nat) (n0 : Nat) (m0 : Nat) (i0 : Nat) (r0 : Nat) (p0 : Nat) (a1 : Nat) (a2 : Nat) (a3 : Nat) (tr : Nat) (len : Nat → Nat) (ev : Nat → Nat) (t : Nat) (y : Int32) (ht : tr ≤ 20) (h2 : t < 2 ^ 31) (hx : y < 0) : fk_C E fy_F_at prog_1_method_6_code 3 (some .int) 2 0 0 [.ref x0, .int (nI t), .int y] [(x0, .inr (0, [.ref a0, .ref n0, .ref m0, .ref i0, .ref r0, .ref p0])), (a0, .inr (1, [.ref a1, .ref a2, .ref a3, .int (nI tr)])), fk_ai E a1 20 len, fk_ai E a2 300 ev] (S := Unit) (fun _ => some (.int (nI 0 - 1))) (fun _ => True) (fun _ => [(x0, .inr (0, [.ref a0, .ref n0, .ref m0, .ref i0, .ref r0, .ref p0])), (a0, .inr (1, [.ref a1, .ref a2, .ref a3, .int (nI tr)])), fk_ai E a1 20 len, fk_ai E a2 300 ev]) := by
  refine fk_enterI (v := fun _ => (nI 0 - 1)) (by decide) (Nat.le_of_ble_eq_true rfl) (lv0 := [(0, .ref x0), (1, .int (nI t)), (2, .int y)]) rfl ?_
  intro K hini hret
  refine fk_aload_n 0 d_F_at_0 rfl ?_
  refine fk_get 0 0 rfl rfl fh_F (Nat.le_of_ble_eq_true rfl) fw_134 rfl d_F_at_1 ?_
  refine fk_iload_n 1 d_F_at_4 rfl ?_
  refine fk_iload_n 2 d_F_at_5 rfl ?_
  refine fk_callV (q0 := 1) (As := [.int (nI t), .int y]) (rest := []) (is := [1, 2]) (ir := [0, 3]) (ip := [0, 2, 3, 1]) (wc := [(a0, .inr (1, [.ref a1, .ref a2, .ref a3, .int (nI tr)])), fk_ai E a1 20 len]) (wr := [(x0, .inr (0, [.ref a0, .ref n0, .ref m0, .ref i0, .ref r0, .ref p0])), fk_ai E a2 300 ev]) (w2 := fun _ => [(x0, .inr (0, [.ref a0, .ref n0, .ref m0, .ref i0, .ref r0, .ref p0])), (a0, .inr (1, [.ref a1, .ref a2, .ref a3, .int (nI tr)])), fk_ai E a1 20 len, fk_ai E a2 300 ev]) (cL_hasEventM E a0 a1 a2 a3 tr len t y (by first | omega | assumption) (by first | omega | assumption) (by first | omega | assumption)) d_F_at_6 fz_Lg_hasEvent fw_207 rfl rfl fw_208 fw_209 ⟨Nat.le_of_ble_eq_true rfl, Nat.le_of_ble_eq_true rfl⟩ rfl (Nat.le_of_ble_eq_true rfl) ⟨Nat.zero_le _, Nat.zero_le _⟩ ⟨rfl, rfl, rfl, rfl, by decide, fun _ => rfl, rfl⟩ (fun u hu6 => ?_)
  show fk_V E _ K (0, 0) [(x0, .inr (0, [.ref a0, .ref n0, .ref m0, .ref i0, .ref r0, .ref p0])), (a0, .inr (1, [.ref a1, .ref a2, .ref a3, .int (nI tr)])), fk_ai E a1 20 len, fk_ai E a2 300 ev] 9 [(0, .ref x0), (1, .int (nI t)), (2, .int y)] [.int (nI (Bool.toNat false))]
  refine fk_if_eqB (b := false) d_F_at_9 rfl (fun h9t => ?_) (fun h9f => ?_)
  · refine fk_iconst (v := nI 0 - 1) d_F_at_24 (by decide +kernel) ?_
    exact hret (0, 0) _ 25 _ () d_F_at_25 (trivial) (rfl)
  · exact absurd h9f (by decide)
set_option maxRecDepth 20000 in
set_option maxHeartbeats 4000000 in
theorem cX_atN (E : fk_E) (x0 : Nat) (a0 : Nat) (n0 : Nat) (m0 : Nat) (i0 : Nat) (r0 : Nat) (p0 : Nat) (a1 : Nat) (a2 : Nat) (a3 : Nat) (tr : Nat) (len : Nat → Nat) (ev : Nat → Nat) (x : Int32) (y : Int32) (hx : x < 0) : fk_C E fy_F_at prog_1_method_6_code 3 (some .int) 2 0 0 [.ref x0, .int x, .int y] [(x0, .inr (0, [.ref a0, .ref n0, .ref m0, .ref i0, .ref r0, .ref p0])), (a0, .inr (1, [.ref a1, .ref a2, .ref a3, .int (nI tr)])), fk_ai E a1 20 len, fk_ai E a2 300 ev] (S := Unit) (fun _ => some (.int (nI 0 - 1))) (fun _ => True) (fun _ => [(x0, .inr (0, [.ref a0, .ref n0, .ref m0, .ref i0, .ref r0, .ref p0])), (a0, .inr (1, [.ref a1, .ref a2, .ref a3, .int (nI tr)])), fk_ai E a1 20 len, fk_ai E a2 300 ev]) := by
  refine fk_enterI (v := fun _ => (nI 0 - 1)) (by decide) (Nat.le_of_ble_eq_true rfl) (lv0 := [(0, .ref x0), (1, .int x), (2, .int y)]) rfl ?_
  intro K hini hret
  refine fk_aload_n 0 d_F_at_0 rfl ?_
  refine fk_get 0 0 rfl rfl fh_F (Nat.le_of_ble_eq_true rfl) fw_134 rfl d_F_at_1 ?_
  refine fk_iload_n 1 d_F_at_4 rfl ?_
  refine fk_iload_n 2 d_F_at_5 rfl ?_
  refine fk_callV (q0 := 1) (As := [.int x, .int y]) (rest := []) (is := [1, 2]) (ir := [0, 3]) (ip := [0, 2, 3, 1]) (wc := [(a0, .inr (1, [.ref a1, .ref a2, .ref a3, .int (nI tr)])), fk_ai E a1 20 len]) (wr := [(x0, .inr (0, [.ref a0, .ref n0, .ref m0, .ref i0, .ref r0, .ref p0])), fk_ai E a2 300 ev]) (w2 := fun _ => [(x0, .inr (0, [.ref a0, .ref n0, .ref m0, .ref i0, .ref r0, .ref p0])), (a0, .inr (1, [.ref a1, .ref a2, .ref a3, .int (nI tr)])), fk_ai E a1 20 len, fk_ai E a2 300 ev]) (cL_hasEventN E a0 a1 a2 a3 tr len x y (by first | omega | assumption)) d_F_at_6 fz_Lg_hasEvent fw_207 rfl rfl fw_208 fw_209 ⟨Nat.le_of_ble_eq_true rfl, Nat.le_of_ble_eq_true rfl⟩ rfl (Nat.le_of_ble_eq_true rfl) ⟨Nat.zero_le _, Nat.zero_le _⟩ ⟨rfl, rfl, rfl, rfl, by decide, fun _ => rfl, rfl⟩ (fun u hu6 => ?_)
  show fk_V E _ K (0, 0) [(x0, .inr (0, [.ref a0, .ref n0, .ref m0, .ref i0, .ref r0, .ref p0])), (a0, .inr (1, [.ref a1, .ref a2, .ref a3, .int (nI tr)])), fk_ai E a1 20 len, fk_ai E a2 300 ev] 9 [(0, .ref x0), (1, .int x), (2, .int y)] [.int (nI (Bool.toNat false))]
  refine fk_if_eqB (b := false) d_F_at_9 rfl (fun h9t => ?_) (fun h9f => ?_)
  · refine fk_iconst (v := nI 0 - 1) d_F_at_24 (by decide +kernel) ?_
    exact hret (0, 0) _ 25 _ () d_F_at_25 (trivial) (rfl)
  · exact absurd h9f (by decide)
theorem d_F_relation_0 : decode prog_1_method_7_code 0 = .ok (.iload_n 1, 1) := by decide +kernel
theorem d_F_relation_1 : decode prog_1_method_7_code 1 = .ok (.invokestatic 73, 3) := by decide +kernel
theorem d_F_relation_4 : decode prog_1_method_7_code 4 = .ok (.ifCond .eq 10, 3) := by decide +kernel
theorem d_F_relation_7 : decode prog_1_method_7_code 7 = .ok (.iload_n 2, 1) := by decide +kernel
theorem d_F_relation_8 : decode prog_1_method_7_code 8 = .ok (.invokestatic 73, 3) := by decide +kernel
theorem d_F_relation_11 : decode prog_1_method_7_code 11 = .ok (.ifCond .ne 5, 3) := by decide +kernel
theorem d_F_relation_14 : decode prog_1_method_7_code 14 = .ok (.iconst (-1), 1) := by decide +kernel
theorem d_F_relation_15 : decode prog_1_method_7_code 15 = .ok (.ireturn, 1) := by decide +kernel
theorem d_F_relation_16 : decode prog_1_method_7_code 16 = .ok (.aload_n 0, 1) := by decide +kernel
theorem d_F_relation_17 : decode prog_1_method_7_code 17 = .ok (.getfield 12, 3) := by decide +kernel
theorem d_F_relation_20 : decode prog_1_method_7_code 20 = .ok (.iload_n 1, 1) := by decide +kernel
theorem d_F_relation_21 : decode prog_1_method_7_code 21 = .ok (.iload_n 2, 1) := by decide +kernel
theorem d_F_relation_22 : decode prog_1_method_7_code 22 = .ok (.invokevirtual 76, 3) := by decide +kernel
theorem d_F_relation_25 : decode prog_1_method_7_code 25 = .ok (.ifCond .eq 7, 3) := by decide +kernel
theorem d_F_relation_28 : decode prog_1_method_7_code 28 = .ok (.iconst 1, 1) := by decide +kernel
theorem d_F_relation_29 : decode prog_1_method_7_code 29 = .ok (.goto 4, 3) := by decide +kernel
theorem d_F_relation_32 : decode prog_1_method_7_code 32 = .ok (.iconst 0, 1) := by decide +kernel
theorem d_F_relation_33 : decode prog_1_method_7_code 33 = .ok (.istore_n 3, 1) := by decide +kernel
theorem d_F_relation_34 : decode prog_1_method_7_code 34 = .ok (.aload_n 0, 1) := by decide +kernel
theorem d_F_relation_35 : decode prog_1_method_7_code 35 = .ok (.getfield 12, 3) := by decide +kernel
theorem d_F_relation_38 : decode prog_1_method_7_code 38 = .ok (.iload_n 2, 1) := by decide +kernel
theorem d_F_relation_39 : decode prog_1_method_7_code 39 = .ok (.iload_n 1, 1) := by decide +kernel
theorem d_F_relation_40 : decode prog_1_method_7_code 40 = .ok (.invokevirtual 76, 3) := by decide +kernel
theorem d_F_relation_43 : decode prog_1_method_7_code 43 = .ok (.ifCond .eq 7, 3) := by decide +kernel
theorem d_F_relation_46 : decode prog_1_method_7_code 46 = .ok (.iconst 2, 1) := by decide +kernel
theorem d_F_relation_47 : decode prog_1_method_7_code 47 = .ok (.goto 4, 3) := by decide +kernel
theorem d_F_relation_50 : decode prog_1_method_7_code 50 = .ok (.iconst 0, 1) := by decide +kernel
theorem d_F_relation_51 : decode prog_1_method_7_code 51 = .ok (.istore 4, 2) := by decide +kernel
theorem d_F_relation_53 : decode prog_1_method_7_code 53 = .ok (.iload_n 3, 1) := by decide +kernel
theorem d_F_relation_54 : decode prog_1_method_7_code 54 = .ok (.iload 4, 2) := by decide +kernel
theorem d_F_relation_56 : decode prog_1_method_7_code 56 = .ok (.iadd, 1) := by decide +kernel
theorem d_F_relation_57 : decode prog_1_method_7_code 57 = .ok (.ireturn, 1) := by decide +kernel
set_option maxRecDepth 20000 in
set_option maxHeartbeats 4000000 in
theorem cX_relation (E : fk_E) (x0 : Nat) (a0 : Nat) (n0 : Nat) (m0 : Nat) (i0 : Nat) (r0 : Nat) (p0 : Nat) (a1 : Nat) (a2 : Nat) (a3 : Nat) (tr : Nat) (fo : Nat → Nat) (a : Nat) (b : Nat) (ha : a < 7) (hb : b < 7) (hf : ∀ k, k < 7 → fo k < 128) : fk_C E fy_F_relation prog_1_method_7_code 5 (some .int) 2 0 0 [.ref x0, .int (nI a), .int (nI b)] [(x0, .inr (0, [.ref a0, .ref n0, .ref m0, .ref i0, .ref r0, .ref p0])), (a0, .inr (1, [.ref a1, .ref a2, .ref a3, .int (nI tr)])), fk_ai E a3 7 fo] (S := Unit) (fun _ => some (.int (nI (Bool.toNat (Nat.testBit (fo a) b) + 2 * Bool.toNat (Nat.testBit (fo b) a))))) (fun _ => True) (fun _ => [(x0, .inr (0, [.ref a0, .ref n0, .ref m0, .ref i0, .ref r0, .ref p0])), (a0, .inr (1, [.ref a1, .ref a2, .ref a3, .int (nI tr)])), fk_ai E a3 7 fo]) := by
  refine fk_enterI (v := fun _ => (nI (Bool.toNat (Nat.testBit (fo a) b) + 2 * Bool.toNat (Nat.testBit (fo b) a)))) (by decide) (Nat.le_of_ble_eq_true rfl) (lv0 := [(0, .ref x0), (1, .int (nI a)), (2, .int (nI b))]) rfl ?_
  intro K hini hret
  refine fk_iload_n 1 d_F_relation_0 rfl ?_
  refine fk_callS (As := [.int (nI a)]) (rest := []) (is := []) (ir := [0, 1, 2]) (ip := [0, 1, 2]) (wc := []) (wr := [(x0, .inr (0, [.ref a0, .ref n0, .ref m0, .ref i0, .ref r0, .ref p0])), (a0, .inr (1, [.ref a1, .ref a2, .ref a3, .int (nI tr)])), fk_ai E a3 7 fo]) (w2 := fun _ => [(x0, .inr (0, [.ref a0, .ref n0, .ref m0, .ref i0, .ref r0, .ref p0])), (a0, .inr (1, [.ref a1, .ref a2, .ref a3, .int (nI tr)])), fk_ai E a3 7 fo]) (cF_isActivity E a (by first | omega | assumption)) d_F_relation_1 fz_F_isActivity fw_217 fw_174 ⟨Nat.le_of_ble_eq_true rfl, Nat.le_of_ble_eq_true rfl⟩ rfl (Nat.le_of_ble_eq_true rfl) ⟨Nat.zero_le _, Nat.zero_le _⟩ ⟨rfl, rfl, rfl, rfl, by decide, fun _ => rfl, rfl⟩ (fun u hu1 => ?_)
  show fk_V E _ K (0, 0) [(x0, .inr (0, [.ref a0, .ref n0, .ref m0, .ref i0, .ref r0, .ref p0])), (a0, .inr (1, [.ref a1, .ref a2, .ref a3, .int (nI tr)])), fk_ai E a3 7 fo] 4 [(0, .ref x0), (1, .int (nI a)), (2, .int (nI b))] [.int (nI (Bool.toNat (decide (a < 7))))]
  refine fk_if_eqB (b := (decide (a < 7))) d_F_relation_4 rfl (fun h4t => ?_) (fun h4f => ?_)
  · exact absurd (of_decide_eq_false h4t) (by omega)
  · refine fk_iload_n 2 d_F_relation_7 rfl ?_
    refine fk_callS (As := [.int (nI b)]) (rest := []) (is := []) (ir := [0, 1, 2]) (ip := [0, 1, 2]) (wc := []) (wr := [(x0, .inr (0, [.ref a0, .ref n0, .ref m0, .ref i0, .ref r0, .ref p0])), (a0, .inr (1, [.ref a1, .ref a2, .ref a3, .int (nI tr)])), fk_ai E a3 7 fo]) (w2 := fun _ => [(x0, .inr (0, [.ref a0, .ref n0, .ref m0, .ref i0, .ref r0, .ref p0])), (a0, .inr (1, [.ref a1, .ref a2, .ref a3, .int (nI tr)])), fk_ai E a3 7 fo]) (cF_isActivity E b (by first | omega | assumption)) d_F_relation_8 fz_F_isActivity fw_217 fw_174 ⟨Nat.le_of_ble_eq_true rfl, Nat.le_of_ble_eq_true rfl⟩ rfl (Nat.le_of_ble_eq_true rfl) ⟨Nat.zero_le _, Nat.zero_le _⟩ ⟨rfl, rfl, rfl, rfl, by decide, fun _ => rfl, rfl⟩ (fun u hu8 => ?_)
    show fk_V E _ K (0, 0) [(x0, .inr (0, [.ref a0, .ref n0, .ref m0, .ref i0, .ref r0, .ref p0])), (a0, .inr (1, [.ref a1, .ref a2, .ref a3, .int (nI tr)])), fk_ai E a3 7 fo] 11 [(0, .ref x0), (1, .int (nI a)), (2, .int (nI b))] [.int (nI (Bool.toNat (decide (b < 7))))]
    refine fk_if_neB (b := (decide (b < 7))) d_F_relation_11 rfl (fun h11t => ?_) (fun h11f => ?_)
    · refine fk_aload_n 0 d_F_relation_16 rfl ?_
      refine fk_get 0 0 rfl rfl fh_F (Nat.le_of_ble_eq_true rfl) fw_134 rfl d_F_relation_17 ?_
      refine fk_iload_n 1 d_F_relation_20 rfl ?_
      refine fk_iload_n 2 d_F_relation_21 rfl ?_
      refine fk_callV (q0 := 1) (As := [.int (nI a), .int (nI b)]) (rest := []) (is := [1, 2]) (ir := [0]) (ip := [0, 1, 2]) (wc := [(a0, .inr (1, [.ref a1, .ref a2, .ref a3, .int (nI tr)])), fk_ai E a3 7 fo]) (wr := [(x0, .inr (0, [.ref a0, .ref n0, .ref m0, .ref i0, .ref r0, .ref p0]))]) (w2 := fun _ => [(x0, .inr (0, [.ref a0, .ref n0, .ref m0, .ref i0, .ref r0, .ref p0])), (a0, .inr (1, [.ref a1, .ref a2, .ref a3, .int (nI tr)])), fk_ai E a3 7 fo]) (cL_isFollowed E a0 a1 a2 a3 tr fo a b (by first | omega | assumption) (by first | omega | assumption) (by first | omega | assumption)) d_F_relation_22 fz_Lg_isFollowed fw_218 rfl rfl fw_219 fw_220 ⟨Nat.le_of_ble_eq_true rfl, Nat.le_of_ble_eq_true rfl⟩ rfl (Nat.le_of_ble_eq_true rfl) ⟨Nat.zero_le _, Nat.zero_le _⟩ ⟨rfl, rfl, rfl, rfl, by decide, fun _ => rfl, rfl⟩ (fun u hu22 => ?_)
      show fk_V E _ K (0, 0) [(x0, .inr (0, [.ref a0, .ref n0, .ref m0, .ref i0, .ref r0, .ref p0])), (a0, .inr (1, [.ref a1, .ref a2, .ref a3, .int (nI tr)])), fk_ai E a3 7 fo] 25 [(0, .ref x0), (1, .int (nI a)), (2, .int (nI b))] [.int (nI (Bool.toNat (Nat.testBit (fo a) b)))]
      refine fk_if_eqB (b := (Nat.testBit (fo a) b)) d_F_relation_25 rfl (fun h25t => ?_) (fun h25f => ?_)
      · refine fk_iconst (v := nI 0) d_F_relation_32 (by decide +kernel) ?_
        refine fk_istore_n (lv' := [(0, .ref x0), (1, .int (nI a)), (2, .int (nI b)), (3, .int (nI 0))]) d_F_relation_33 rfl (Nat.le_of_ble_eq_true rfl) [1, 2, 3, 0] rfl ?_
        refine fk_aload_n 0 d_F_relation_34 rfl ?_
        refine fk_get 0 0 rfl rfl fh_F (Nat.le_of_ble_eq_true rfl) fw_134 rfl d_F_relation_35 ?_
        refine fk_iload_n 2 d_F_relation_38 rfl ?_
        refine fk_iload_n 1 d_F_relation_39 rfl ?_
        refine fk_callV (q0 := 1) (As := [.int (nI b), .int (nI a)]) (rest := []) (is := [1, 2]) (ir := [0]) (ip := [0, 1, 2]) (wc := [(a0, .inr (1, [.ref a1, .ref a2, .ref a3, .int (nI tr)])), fk_ai E a3 7 fo]) (wr := [(x0, .inr (0, [.ref a0, .ref n0, .ref m0, .ref i0, .ref r0, .ref p0]))]) (w2 := fun _ => [(x0, .inr (0, [.ref a0, .ref n0, .ref m0, .ref i0, .ref r0, .ref p0])), (a0, .inr (1, [.ref a1, .ref a2, .ref a3, .int (nI tr)])), fk_ai E a3 7 fo]) (cL_isFollowed E a0 a1 a2 a3 tr fo b a (by first | omega | assumption) (by first | omega | assumption) (by first | omega | assumption)) d_F_relation_40 fz_Lg_isFollowed fw_218 rfl rfl fw_219 fw_220 ⟨Nat.le_of_ble_eq_true rfl, Nat.le_of_ble_eq_true rfl⟩ rfl (Nat.le_of_ble_eq_true rfl) ⟨Nat.zero_le _, Nat.zero_le _⟩ ⟨rfl, rfl, rfl, rfl, by decide, fun _ => rfl, rfl⟩ (fun u hu40 => ?_)
        show fk_V E _ K (0, 0) [(x0, .inr (0, [.ref a0, .ref n0, .ref m0, .ref i0, .ref r0, .ref p0])), (a0, .inr (1, [.ref a1, .ref a2, .ref a3, .int (nI tr)])), fk_ai E a3 7 fo] 43 [(0, .ref x0), (1, .int (nI a)), (2, .int (nI b)), (3, .int (nI 0))] [.int (nI (Bool.toNat (Nat.testBit (fo b) a)))]
        refine fk_if_eqB (b := (Nat.testBit (fo b) a)) d_F_relation_43 rfl (fun h43t => ?_) (fun h43f => ?_)
        · refine fk_iconst (v := nI 0) d_F_relation_50 (by decide +kernel) ?_
          refine fk_istore (lv' := [(0, .ref x0), (1, .int (nI a)), (2, .int (nI b)), (3, .int (nI 0)), (4, .int (nI 0))]) d_F_relation_51 (Nat.le_of_ble_eq_true rfl) [1, 2, 3, 4, 0] rfl ?_
          refine fk_iload_n 3 d_F_relation_53 rfl ?_
          refine fk_iload 4 d_F_relation_54 rfl ?_
          refine fk_iadd (a := 0) (b := 0) d_F_relation_56 ?_
          refine fk_top (show nI (0 + 0) = nI 0 by decide +kernel) ?_
          refine fk_top (congrArg nI (show 0 = Bool.toNat (Nat.testBit (fo a) b) + 2 * Bool.toNat (Nat.testBit (fo b) a) from by rw [h25t, h43t]; rfl)) ?_
          exact hret (0, 0) _ 57 _ () d_F_relation_57 (trivial) (rfl)
        · refine fk_iconst (v := nI 2) d_F_relation_46 (by decide +kernel) ?_
          refine fk_goto d_F_relation_47 rfl ?_
          refine fk_istore (lv' := [(0, .ref x0), (1, .int (nI a)), (2, .int (nI b)), (3, .int (nI 0)), (4, .int (nI 2))]) d_F_relation_51 (Nat.le_of_ble_eq_true rfl) [1, 2, 3, 4, 0] rfl ?_
          refine fk_iload_n 3 d_F_relation_53 rfl ?_
          refine fk_iload 4 d_F_relation_54 rfl ?_
          refine fk_iadd (a := 0) (b := 2) d_F_relation_56 ?_
          refine fk_top (show nI (0 + 2) = nI 2 by decide +kernel) ?_
          refine fk_top (congrArg nI (show 2 = Bool.toNat (Nat.testBit (fo a) b) + 2 * Bool.toNat (Nat.testBit (fo b) a) from by rw [h25t, h43f]; rfl)) ?_
          exact hret (0, 0) _ 57 _ () d_F_relation_57 (trivial) (rfl)
      · refine fk_iconst (v := nI 1) d_F_relation_28 (by decide +kernel) ?_
        refine fk_goto d_F_relation_29 rfl ?_
        refine fk_istore_n (lv' := [(0, .ref x0), (1, .int (nI a)), (2, .int (nI b)), (3, .int (nI 1))]) d_F_relation_33 rfl (Nat.le_of_ble_eq_true rfl) [1, 2, 3, 0] rfl ?_
        refine fk_aload_n 0 d_F_relation_34 rfl ?_
        refine fk_get 0 0 rfl rfl fh_F (Nat.le_of_ble_eq_true rfl) fw_134 rfl d_F_relation_35 ?_
        refine fk_iload_n 2 d_F_relation_38 rfl ?_
        refine fk_iload_n 1 d_F_relation_39 rfl ?_
        refine fk_callV (q0 := 1) (As := [.int (nI b), .int (nI a)]) (rest := []) (is := [1, 2]) (ir := [0]) (ip := [0, 1, 2]) (wc := [(a0, .inr (1, [.ref a1, .ref a2, .ref a3, .int (nI tr)])), fk_ai E a3 7 fo]) (wr := [(x0, .inr (0, [.ref a0, .ref n0, .ref m0, .ref i0, .ref r0, .ref p0]))]) (w2 := fun _ => [(x0, .inr (0, [.ref a0, .ref n0, .ref m0, .ref i0, .ref r0, .ref p0])), (a0, .inr (1, [.ref a1, .ref a2, .ref a3, .int (nI tr)])), fk_ai E a3 7 fo]) (cL_isFollowed E a0 a1 a2 a3 tr fo b a (by first | omega | assumption) (by first | omega | assumption) (by first | omega | assumption)) d_F_relation_40 fz_Lg_isFollowed fw_218 rfl rfl fw_219 fw_220 ⟨Nat.le_of_ble_eq_true rfl, Nat.le_of_ble_eq_true rfl⟩ rfl (Nat.le_of_ble_eq_true rfl) ⟨Nat.zero_le _, Nat.zero_le _⟩ ⟨rfl, rfl, rfl, rfl, by decide, fun _ => rfl, rfl⟩ (fun u hu40 => ?_)
        show fk_V E _ K (0, 0) [(x0, .inr (0, [.ref a0, .ref n0, .ref m0, .ref i0, .ref r0, .ref p0])), (a0, .inr (1, [.ref a1, .ref a2, .ref a3, .int (nI tr)])), fk_ai E a3 7 fo] 43 [(0, .ref x0), (1, .int (nI a)), (2, .int (nI b)), (3, .int (nI 1))] [.int (nI (Bool.toNat (Nat.testBit (fo b) a)))]
        refine fk_if_eqB (b := (Nat.testBit (fo b) a)) d_F_relation_43 rfl (fun h43t => ?_) (fun h43f => ?_)
        · refine fk_iconst (v := nI 0) d_F_relation_50 (by decide +kernel) ?_
          refine fk_istore (lv' := [(0, .ref x0), (1, .int (nI a)), (2, .int (nI b)), (3, .int (nI 1)), (4, .int (nI 0))]) d_F_relation_51 (Nat.le_of_ble_eq_true rfl) [1, 2, 3, 4, 0] rfl ?_
          refine fk_iload_n 3 d_F_relation_53 rfl ?_
          refine fk_iload 4 d_F_relation_54 rfl ?_
          refine fk_iadd (a := 1) (b := 0) d_F_relation_56 ?_
          refine fk_top (show nI (1 + 0) = nI 1 by decide +kernel) ?_
          refine fk_top (congrArg nI (show 1 = Bool.toNat (Nat.testBit (fo a) b) + 2 * Bool.toNat (Nat.testBit (fo b) a) from by rw [h25f, h43t]; rfl)) ?_
          exact hret (0, 0) _ 57 _ () d_F_relation_57 (trivial) (rfl)
        · refine fk_iconst (v := nI 2) d_F_relation_46 (by decide +kernel) ?_
          refine fk_goto d_F_relation_47 rfl ?_
          refine fk_istore (lv' := [(0, .ref x0), (1, .int (nI a)), (2, .int (nI b)), (3, .int (nI 1)), (4, .int (nI 2))]) d_F_relation_51 (Nat.le_of_ble_eq_true rfl) [1, 2, 3, 4, 0] rfl ?_
          refine fk_iload_n 3 d_F_relation_53 rfl ?_
          refine fk_iload 4 d_F_relation_54 rfl ?_
          refine fk_iadd (a := 1) (b := 2) d_F_relation_56 ?_
          refine fk_top (show nI (1 + 2) = nI 3 by decide +kernel) ?_
          refine fk_top (congrArg nI (show 3 = Bool.toNat (Nat.testBit (fo a) b) + 2 * Bool.toNat (Nat.testBit (fo b) a) from by rw [h25f, h43f]; rfl)) ?_
          exact hret (0, 0) _ 57 _ () d_F_relation_57 (trivial) (rfl)
    · exact absurd (of_decide_eq_false h11f) (by omega)
set_option maxRecDepth 20000 in
set_option maxHeartbeats 4000000 in
theorem cX_relationO (E : fk_E) (x0 : Nat) (a0 : Nat) (n0 : Nat) (m0 : Nat) (i0 : Nat) (r0 : Nat) (p0 : Nat) (a1 : Nat) (a2 : Nat) (a3 : Nat) (tr : Nat) (fo : Nat → Nat) (a : Nat) (b : Nat) (h : 7 ≤ a ∨ 7 ≤ b) (ha : a < 2 ^ 31) (hb : b < 2 ^ 31) : fk_C E fy_F_relation prog_1_method_7_code 5 (some .int) 2 0 0 [.ref x0, .int (nI a), .int (nI b)] [(x0, .inr (0, [.ref a0, .ref n0, .ref m0, .ref i0, .ref r0, .ref p0])), (a0, .inr (1, [.ref a1, .ref a2, .ref a3, .int (nI tr)])), fk_ai E a3 7 fo] (S := Unit) (fun _ => some (.int (nI 0 - 1))) (fun _ => True) (fun _ => [(x0, .inr (0, [.ref a0, .ref n0, .ref m0, .ref i0, .ref r0, .ref p0])), (a0, .inr (1, [.ref a1, .ref a2, .ref a3, .int (nI tr)])), fk_ai E a3 7 fo]) := by
  refine fk_enterI (v := fun _ => (nI 0 - 1)) (by decide) (Nat.le_of_ble_eq_true rfl) (lv0 := [(0, .ref x0), (1, .int (nI a)), (2, .int (nI b))]) rfl ?_
  intro K hini hret
  refine fk_iload_n 1 d_F_relation_0 rfl ?_
  refine fk_callS (As := [.int (nI a)]) (rest := []) (is := []) (ir := [0, 1, 2]) (ip := [0, 1, 2]) (wc := []) (wr := [(x0, .inr (0, [.ref a0, .ref n0, .ref m0, .ref i0, .ref r0, .ref p0])), (a0, .inr (1, [.ref a1, .ref a2, .ref a3, .int (nI tr)])), fk_ai E a3 7 fo]) (w2 := fun _ => [(x0, .inr (0, [.ref a0, .ref n0, .ref m0, .ref i0, .ref r0, .ref p0])), (a0, .inr (1, [.ref a1, .ref a2, .ref a3, .int (nI tr)])), fk_ai E a3 7 fo]) (cF_isActivity E a (by first | omega | assumption)) d_F_relation_1 fz_F_isActivity fw_217 fw_174 ⟨Nat.le_of_ble_eq_true rfl, Nat.le_of_ble_eq_true rfl⟩ rfl (Nat.le_of_ble_eq_true rfl) ⟨Nat.zero_le _, Nat.zero_le _⟩ ⟨rfl, rfl, rfl, rfl, by decide, fun _ => rfl, rfl⟩ (fun u hu1 => ?_)
  show fk_V E _ K (0, 0) [(x0, .inr (0, [.ref a0, .ref n0, .ref m0, .ref i0, .ref r0, .ref p0])), (a0, .inr (1, [.ref a1, .ref a2, .ref a3, .int (nI tr)])), fk_ai E a3 7 fo] 4 [(0, .ref x0), (1, .int (nI a)), (2, .int (nI b))] [.int (nI (Bool.toNat (decide (a < 7))))]
  refine fk_if_eqB (b := (decide (a < 7))) d_F_relation_4 rfl (fun h4t => ?_) (fun h4f => ?_)
  · refine fk_iconst (v := nI 0 - 1) d_F_relation_14 (by decide +kernel) ?_
    exact hret (0, 0) _ 15 _ () d_F_relation_15 (trivial) (rfl)
  · refine fk_iload_n 2 d_F_relation_7 rfl ?_
    refine fk_callS (As := [.int (nI b)]) (rest := []) (is := []) (ir := [0, 1, 2]) (ip := [0, 1, 2]) (wc := []) (wr := [(x0, .inr (0, [.ref a0, .ref n0, .ref m0, .ref i0, .ref r0, .ref p0])), (a0, .inr (1, [.ref a1, .ref a2, .ref a3, .int (nI tr)])), fk_ai E a3 7 fo]) (w2 := fun _ => [(x0, .inr (0, [.ref a0, .ref n0, .ref m0, .ref i0, .ref r0, .ref p0])), (a0, .inr (1, [.ref a1, .ref a2, .ref a3, .int (nI tr)])), fk_ai E a3 7 fo]) (cF_isActivity E b (by first | omega | assumption)) d_F_relation_8 fz_F_isActivity fw_217 fw_174 ⟨Nat.le_of_ble_eq_true rfl, Nat.le_of_ble_eq_true rfl⟩ rfl (Nat.le_of_ble_eq_true rfl) ⟨Nat.zero_le _, Nat.zero_le _⟩ ⟨rfl, rfl, rfl, rfl, by decide, fun _ => rfl, rfl⟩ (fun u hu8 => ?_)
    show fk_V E _ K (0, 0) [(x0, .inr (0, [.ref a0, .ref n0, .ref m0, .ref i0, .ref r0, .ref p0])), (a0, .inr (1, [.ref a1, .ref a2, .ref a3, .int (nI tr)])), fk_ai E a3 7 fo] 11 [(0, .ref x0), (1, .int (nI a)), (2, .int (nI b))] [.int (nI (Bool.toNat (decide (b < 7))))]
    refine fk_if_neB (b := (decide (b < 7))) d_F_relation_11 rfl (fun h11t => ?_) (fun h11f => ?_)
    · have q1 := of_decide_eq_true h4f
      have q2 := of_decide_eq_true h11t
      omega
    · refine fk_iconst (v := nI 0 - 1) d_F_relation_14 (by decide +kernel) ?_
      exact hret (0, 0) _ 15 _ () d_F_relation_15 (trivial) (rfl)
set_option maxRecDepth 20000 in
set_option maxHeartbeats 4000000 in
theorem cX_relationM (E : fk_E) (x0 : Nat) (a0 : Nat) (n0 : Nat) (m0 : Nat) (i0 : Nat) (r0 : Nat) (p0 : Nat) (a1 : Nat) (a2 : Nat) (a3 : Nat) (tr : Nat) (fo : Nat → Nat) (x : Int32) (y : Int32) (hx : x < 0) : fk_C E fy_F_relation prog_1_method_7_code 5 (some .int) 2 0 0 [.ref x0, .int x, .int y] [(x0, .inr (0, [.ref a0, .ref n0, .ref m0, .ref i0, .ref r0, .ref p0])), (a0, .inr (1, [.ref a1, .ref a2, .ref a3, .int (nI tr)])), fk_ai E a3 7 fo] (S := Unit) (fun _ => some (.int (nI 0 - 1))) (fun _ => True) (fun _ => [(x0, .inr (0, [.ref a0, .ref n0, .ref m0, .ref i0, .ref r0, .ref p0])), (a0, .inr (1, [.ref a1, .ref a2, .ref a3, .int (nI tr)])), fk_ai E a3 7 fo]) := by
  refine fk_enterI (v := fun _ => (nI 0 - 1)) (by decide) (Nat.le_of_ble_eq_true rfl) (lv0 := [(0, .ref x0), (1, .int x), (2, .int y)]) rfl ?_
  intro K hini hret
  refine fk_iload_n 1 d_F_relation_0 rfl ?_
  refine fk_callS (As := [.int x]) (rest := []) (is := []) (ir := [0, 1, 2]) (ip := [0, 1, 2]) (wc := []) (wr := [(x0, .inr (0, [.ref a0, .ref n0, .ref m0, .ref i0, .ref r0, .ref p0])), (a0, .inr (1, [.ref a1, .ref a2, .ref a3, .int (nI tr)])), fk_ai E a3 7 fo]) (w2 := fun _ => [(x0, .inr (0, [.ref a0, .ref n0, .ref m0, .ref i0, .ref r0, .ref p0])), (a0, .inr (1, [.ref a1, .ref a2, .ref a3, .int (nI tr)])), fk_ai E a3 7 fo]) (cF_isActivityM E x (by first | omega | assumption)) d_F_relation_1 fz_F_isActivity fw_217 fw_174 ⟨Nat.le_of_ble_eq_true rfl, Nat.le_of_ble_eq_true rfl⟩ rfl (Nat.le_of_ble_eq_true rfl) ⟨Nat.zero_le _, Nat.zero_le _⟩ ⟨rfl, rfl, rfl, rfl, by decide, fun _ => rfl, rfl⟩ (fun u hu1 => ?_)
  show fk_V E _ K (0, 0) [(x0, .inr (0, [.ref a0, .ref n0, .ref m0, .ref i0, .ref r0, .ref p0])), (a0, .inr (1, [.ref a1, .ref a2, .ref a3, .int (nI tr)])), fk_ai E a3 7 fo] 4 [(0, .ref x0), (1, .int x), (2, .int y)] [.int (nI (Bool.toNat false))]
  refine fk_if_eqB (b := false) d_F_relation_4 rfl (fun h4t => ?_) (fun h4f => ?_)
  · refine fk_iconst (v := nI 0 - 1) d_F_relation_14 (by decide +kernel) ?_
    exact hret (0, 0) _ 15 _ () d_F_relation_15 (trivial) (rfl)
  · exact absurd h4f (by decide)
set_option maxRecDepth 20000 in
set_option maxHeartbeats 4000000 in
theorem cX_relationN (E : fk_E) (x0 : Nat) (a0 : Nat) (n0 : Nat) (m0 : Nat) (i0 : Nat) (r0 : Nat) (p0 : Nat) (a1 : Nat) (a2 : Nat) (a3 : Nat) (tr : Nat) (fo : Nat → Nat) (a : Nat) (y : Int32) (ha : a < 2 ^ 31) (hx : y < 0) : fk_C E fy_F_relation prog_1_method_7_code 5 (some .int) 2 0 0 [.ref x0, .int (nI a), .int y] [(x0, .inr (0, [.ref a0, .ref n0, .ref m0, .ref i0, .ref r0, .ref p0])), (a0, .inr (1, [.ref a1, .ref a2, .ref a3, .int (nI tr)])), fk_ai E a3 7 fo] (S := Unit) (fun _ => some (.int (nI 0 - 1))) (fun _ => True) (fun _ => [(x0, .inr (0, [.ref a0, .ref n0, .ref m0, .ref i0, .ref r0, .ref p0])), (a0, .inr (1, [.ref a1, .ref a2, .ref a3, .int (nI tr)])), fk_ai E a3 7 fo]) := by
  refine fk_enterI (v := fun _ => (nI 0 - 1)) (by decide) (Nat.le_of_ble_eq_true rfl) (lv0 := [(0, .ref x0), (1, .int (nI a)), (2, .int y)]) rfl ?_
  intro K hini hret
  refine fk_iload_n 1 d_F_relation_0 rfl ?_
  refine fk_callS (As := [.int (nI a)]) (rest := []) (is := []) (ir := [0, 1, 2]) (ip := [0, 1, 2]) (wc := []) (wr := [(x0, .inr (0, [.ref a0, .ref n0, .ref m0, .ref i0, .ref r0, .ref p0])), (a0, .inr (1, [.ref a1, .ref a2, .ref a3, .int (nI tr)])), fk_ai E a3 7 fo]) (w2 := fun _ => [(x0, .inr (0, [.ref a0, .ref n0, .ref m0, .ref i0, .ref r0, .ref p0])), (a0, .inr (1, [.ref a1, .ref a2, .ref a3, .int (nI tr)])), fk_ai E a3 7 fo]) (cF_isActivity E a (by first | omega | assumption)) d_F_relation_1 fz_F_isActivity fw_217 fw_174 ⟨Nat.le_of_ble_eq_true rfl, Nat.le_of_ble_eq_true rfl⟩ rfl (Nat.le_of_ble_eq_true rfl) ⟨Nat.zero_le _, Nat.zero_le _⟩ ⟨rfl, rfl, rfl, rfl, by decide, fun _ => rfl, rfl⟩ (fun u hu1 => ?_)
  show fk_V E _ K (0, 0) [(x0, .inr (0, [.ref a0, .ref n0, .ref m0, .ref i0, .ref r0, .ref p0])), (a0, .inr (1, [.ref a1, .ref a2, .ref a3, .int (nI tr)])), fk_ai E a3 7 fo] 4 [(0, .ref x0), (1, .int (nI a)), (2, .int y)] [.int (nI (Bool.toNat (decide (a < 7))))]
  refine fk_if_eqB (b := (decide (a < 7))) d_F_relation_4 rfl (fun h4t => ?_) (fun h4f => ?_)
  · refine fk_iconst (v := nI 0 - 1) d_F_relation_14 (by decide +kernel) ?_
    exact hret (0, 0) _ 15 _ () d_F_relation_15 (trivial) (rfl)
  · refine fk_iload_n 2 d_F_relation_7 rfl ?_
    refine fk_callS (As := [.int y]) (rest := []) (is := []) (ir := [0, 1, 2]) (ip := [0, 1, 2]) (wc := []) (wr := [(x0, .inr (0, [.ref a0, .ref n0, .ref m0, .ref i0, .ref r0, .ref p0])), (a0, .inr (1, [.ref a1, .ref a2, .ref a3, .int (nI tr)])), fk_ai E a3 7 fo]) (w2 := fun _ => [(x0, .inr (0, [.ref a0, .ref n0, .ref m0, .ref i0, .ref r0, .ref p0])), (a0, .inr (1, [.ref a1, .ref a2, .ref a3, .int (nI tr)])), fk_ai E a3 7 fo]) (cF_isActivityM E y (by first | omega | assumption)) d_F_relation_8 fz_F_isActivity fw_217 fw_174 ⟨Nat.le_of_ble_eq_true rfl, Nat.le_of_ble_eq_true rfl⟩ rfl (Nat.le_of_ble_eq_true rfl) ⟨Nat.zero_le _, Nat.zero_le _⟩ ⟨rfl, rfl, rfl, rfl, by decide, fun _ => rfl, rfl⟩ (fun u hu8 => ?_)
    show fk_V E _ K (0, 0) [(x0, .inr (0, [.ref a0, .ref n0, .ref m0, .ref i0, .ref r0, .ref p0])), (a0, .inr (1, [.ref a1, .ref a2, .ref a3, .int (nI tr)])), fk_ai E a3 7 fo] 11 [(0, .ref x0), (1, .int (nI a)), (2, .int y)] [.int (nI (Bool.toNat false))]
    refine fk_if_neB (b := false) d_F_relation_11 rfl (fun h11t => ?_) (fun h11f => ?_)
    · exact absurd h11t (by decide)
    · refine fk_iconst (v := nI 0 - 1) d_F_relation_14 (by decide +kernel) ?_
      exact hret (0, 0) _ 15 _ () d_F_relation_15 (trivial) (rfl)
end
