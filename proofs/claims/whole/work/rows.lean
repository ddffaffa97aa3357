section
-- ===== PART A: goes FIRST, ahead of the names: the tables' words, and 'selects' of the private methods out of them =====
/-- a private method of a class that the tables say can be made, by its rows of tables_1 -/
def lw_okq (q : MethodName × Nat) : Prop := (q.1.cls ≠ "java/lang/invoke/MethodHandle" ∧ q.1.cls ≠ "java/lang/invoke/VarHandle") ∧ Cond.instantiable q.1.cls q.2 ∈ tables_1 ∧ Cond.privateMethod q.1 ∈ tables_1 ∧ Cond.instanceMethod q.1 ∈ tables_1
theorem lw_p0 : lw_okq (⟨"SpeakHall", "finding", "(I)I"⟩, 10) := ⟨⟨by decide +kernel, by decide +kernel⟩, List.mem_of_getElem? (i := 13) (by decide +kernel), List.mem_of_getElem? (i := 236) (by decide +kernel), List.mem_of_getElem? (i := 237) (by decide +kernel)⟩
theorem lw_p1 : lw_okq (⟨"SpeakHall", "isAsking", "(II)Z"⟩, 10) := ⟨⟨by decide +kernel, by decide +kernel⟩, List.mem_of_getElem? (i := 13) (by decide +kernel), List.mem_of_getElem? (i := 316) (by decide +kernel), List.mem_of_getElem? (i := 317) (by decide +kernel)⟩
theorem lw_p2 : lw_okq (⟨"SpeakHall$Rule", "rankBy", "(ILSpeakHall$Standing;I)I"⟩, 3) := ⟨⟨by decide +kernel, by decide +kernel⟩, List.mem_of_getElem? (i := 73) (by decide +kernel), List.mem_of_getElem? (i := 400) (by decide +kernel), List.mem_of_getElem? (i := 401) (by decide +kernel)⟩
theorem lw_p3 : lw_okq (⟨"SpeakHall", "ticksFor", "(II)I"⟩, 10) := ⟨⟨by decide +kernel, by decide +kernel⟩, List.mem_of_getElem? (i := 13) (by decide +kernel), List.mem_of_getElem? (i := 456) (by decide +kernel), List.mem_of_getElem? (i := 457) (by decide +kernel)⟩
theorem lw_p4 : lw_okq (⟨"SpeakHall", "takeFloor", "(I)I"⟩, 10) := ⟨⟨by decide +kernel, by decide +kernel⟩, List.mem_of_getElem? (i := 13) (by decide +kernel), List.mem_of_getElem? (i := 485) (by decide +kernel), List.mem_of_getElem? (i := 486) (by decide +kernel)⟩
theorem lw_p5 : lw_okq (⟨"SpeakHall", "endHolding", "()V"⟩, 10) := ⟨⟨by decide +kernel, by decide +kernel⟩, List.mem_of_getElem? (i := 13) (by decide +kernel), List.mem_of_getElem? (i := 527) (by decide +kernel), List.mem_of_getElem? (i := 528) (by decide +kernel)⟩
theorem lw_p6 : lw_okq (⟨"SpeakHall", "gapsOfPairs", "()I"⟩, 10) := ⟨⟨by decide +kernel, by decide +kernel⟩, List.mem_of_getElem? (i := 13) (by decide +kernel), List.mem_of_getElem? (i := 639) (by decide +kernel), List.mem_of_getElem? (i := 640) (by decide +kernel)⟩
theorem lw_p7 : lw_okq (⟨"SpeakHall", "peopledDelegations", "()I"⟩, 10) := ⟨⟨by decide +kernel, by decide +kernel⟩, List.mem_of_getElem? (i := 13) (by decide +kernel), List.mem_of_getElem? (i := 646) (by decide +kernel), List.mem_of_getElem? (i := 647) (by decide +kernel)⟩
theorem lw_p8 : lw_okq (⟨"SpeakHall", "allTime", "()I"⟩, 10) := ⟨⟨by decide +kernel, by decide +kernel⟩, List.mem_of_getElem? (i := 13) (by decide +kernel), List.mem_of_getElem? (i := 650) (by decide +kernel), List.mem_of_getElem? (i := 651) (by decide +kernel)⟩
theorem lw_p9 : lw_okq (⟨"SpeakHall$Minutes", "slotOf", "(I)I"⟩, 7) := ⟨⟨by decide +kernel, by decide +kernel⟩, List.mem_of_getElem? (i := 152) (by decide +kernel), List.mem_of_getElem? (i := 674) (by decide +kernel), List.mem_of_getElem? (i := 675) (by decide +kernel)⟩
theorem lw_p10 : lw_okq (⟨"SpeakHall$Minutes", "rowWritten", "(I)I"⟩, 7) := ⟨⟨by decide +kernel, by decide +kernel⟩, List.mem_of_getElem? (i := 152) (by decide +kernel), List.mem_of_getElem? (i := 678) (by decide +kernel), List.mem_of_getElem? (i := 679) (by decide +kernel)⟩
theorem lw_p11 : lw_okq (⟨"SpeakHall", "sheetAt", "(I)LSpeakHall$Sheet;"⟩, 10) := ⟨⟨by decide +kernel, by decide +kernel⟩, List.mem_of_getElem? (i := 13) (by decide +kernel), List.mem_of_getElem? (i := 722) (by decide +kernel), List.mem_of_getElem? (i := 723) (by decide +kernel)⟩
theorem lw_p12 : lw_okq (⟨"SpeakHall$Sheet", "lowestBits", "(I)I"⟩, 3) := ⟨⟨by decide +kernel, by decide +kernel⟩, List.mem_of_getElem? (i := 181) (by decide +kernel), List.mem_of_getElem? (i := 750) (by decide +kernel), List.mem_of_getElem? (i := 751) (by decide +kernel)⟩
theorem lw_p13 : lw_okq (⟨"SpeakHallModel", "finding", "(I)I"⟩, 39) := ⟨⟨by decide +kernel, by decide +kernel⟩, List.mem_of_getElem? (i := 794) (by decide +kernel), List.mem_of_getElem? (i := 926) (by decide +kernel), List.mem_of_getElem? (i := 927) (by decide +kernel)⟩
theorem lw_p14 : lw_okq (⟨"SpeakHallModel", "isMember", "(I)Z"⟩, 39) := ⟨⟨by decide +kernel, by decide +kernel⟩, List.mem_of_getElem? (i := 794) (by decide +kernel), List.mem_of_getElem? (i := 935) (by decide +kernel), List.mem_of_getElem? (i := 936) (by decide +kernel)⟩
theorem lw_p15 : lw_okq (⟨"SpeakHallModel", "isGuest", "(I)Z"⟩, 39) := ⟨⟨by decide +kernel, by decide +kernel⟩, List.mem_of_getElem? (i := 794) (by decide +kernel), List.mem_of_getElem? (i := 939) (by decide +kernel), List.mem_of_getElem? (i := 940) (by decide +kernel)⟩
def lw_privs_1 : List (MethodName × Nat) := [(⟨"SpeakHall", "finding", "(I)I"⟩, 10), (⟨"SpeakHall", "isAsking", "(II)Z"⟩, 10), (⟨"SpeakHall$Rule", "rankBy", "(ILSpeakHall$Standing;I)I"⟩, 3), (⟨"SpeakHall", "ticksFor", "(II)I"⟩, 10), (⟨"SpeakHall", "takeFloor", "(I)I"⟩, 10), (⟨"SpeakHall", "endHolding", "()V"⟩, 10), (⟨"SpeakHall", "gapsOfPairs", "()I"⟩, 10), (⟨"SpeakHall", "peopledDelegations", "()I"⟩, 10), (⟨"SpeakHall", "allTime", "()I"⟩, 10), (⟨"SpeakHall$Minutes", "slotOf", "(I)I"⟩, 7), (⟨"SpeakHall$Minutes", "rowWritten", "(I)I"⟩, 7), (⟨"SpeakHall", "sheetAt", "(I)LSpeakHall$Sheet;"⟩, 10), (⟨"SpeakHall$Sheet", "lowestBits", "(I)I"⟩, 3), (⟨"SpeakHallModel", "finding", "(I)I"⟩, 39), (⟨"SpeakHallModel", "isMember", "(I)Z"⟩, 39), (⟨"SpeakHallModel", "isGuest", "(I)Z"⟩, 39)]
theorem lw_r1 : ∀ q ∈ lw_privs_1, lw_okq q := List.forall_mem_cons.mpr ⟨lw_p0, List.forall_mem_cons.mpr ⟨lw_p1, List.forall_mem_cons.mpr ⟨lw_p2, List.forall_mem_cons.mpr ⟨lw_p3, List.forall_mem_cons.mpr ⟨lw_p4, List.forall_mem_cons.mpr ⟨lw_p5, List.forall_mem_cons.mpr ⟨lw_p6, List.forall_mem_cons.mpr ⟨lw_p7, List.forall_mem_cons.mpr ⟨lw_p8, List.forall_mem_cons.mpr ⟨lw_p9, List.forall_mem_cons.mpr ⟨lw_p10, List.forall_mem_cons.mpr ⟨lw_p11, List.forall_mem_cons.mpr ⟨lw_p12, List.forall_mem_cons.mpr ⟨lw_p13, List.forall_mem_cons.mpr ⟨lw_p14, List.forall_mem_cons.mpr ⟨lw_p15, fun _ h => absurd h List.not_mem_nil⟩⟩⟩⟩⟩⟩⟩⟩⟩⟩⟩⟩⟩⟩⟩⟩
theorem lw_p16 : lw_okq (⟨"SpeakHallModel", "timeOf", "(I)I"⟩, 39) := ⟨⟨by decide +kernel, by decide +kernel⟩, List.mem_of_getElem? (i := 794) (by decide +kernel), List.mem_of_getElem? (i := 956) (by decide +kernel), List.mem_of_getElem? (i := 957) (by decide +kernel)⟩
theorem lw_p17 : lw_okq (⟨"SpeakHallModel", "askingOf", "(II)I"⟩, 39) := ⟨⟨by decide +kernel, by decide +kernel⟩, List.mem_of_getElem? (i := 794) (by decide +kernel), List.mem_of_getElem? (i := 967) (by decide +kernel), List.mem_of_getElem? (i := 968) (by decide +kernel)⟩
theorem lw_p18 : lw_okq (⟨"SpeakHallModel", "comes", "(II)V"⟩, 39) := ⟨⟨by decide +kernel, by decide +kernel⟩, List.mem_of_getElem? (i := 794) (by decide +kernel), List.mem_of_getElem? (i := 972) (by decide +kernel), List.mem_of_getElem? (i := 973) (by decide +kernel)⟩
theorem lw_p19 : lw_okq (⟨"SpeakHallModel", "goes", "(I)V"⟩, 39) := ⟨⟨by decide +kernel, by decide +kernel⟩, List.mem_of_getElem? (i := 794) (by decide +kernel), List.mem_of_getElem? (i := 981) (by decide +kernel), List.mem_of_getElem? (i := 982) (by decide +kernel)⟩
theorem lw_p20 : lw_okq (⟨"SpeakHallModel", "hasKey", "(I)Z"⟩, 39) := ⟨⟨by decide +kernel, by decide +kernel⟩, List.mem_of_getElem? (i := 794) (by decide +kernel), List.mem_of_getElem? (i := 989) (by decide +kernel), List.mem_of_getElem? (i := 990) (by decide +kernel)⟩
theorem lw_p21 : lw_okq (⟨"SpeakHallModel", "tellList", "()V"⟩, 39) := ⟨⟨by decide +kernel, by decide +kernel⟩, List.mem_of_getElem? (i := 794) (by decide +kernel), List.mem_of_getElem? (i := 1001) (by decide +kernel), List.mem_of_getElem? (i := 1002) (by decide +kernel)⟩
theorem lw_p22 : lw_okq (⟨"SpeakHallModel", "isAhead", "(II)Z"⟩, 39) := ⟨⟨by decide +kernel, by decide +kernel⟩, List.mem_of_getElem? (i := 794) (by decide +kernel), List.mem_of_getElem? (i := 1005) (by decide +kernel), List.mem_of_getElem? (i := 1006) (by decide +kernel)⟩
theorem lw_p23 : lw_okq (⟨"SpeakHallModel", "rank", "(II)I"⟩, 39) := ⟨⟨by decide +kernel, by decide +kernel⟩, List.mem_of_getElem? (i := 794) (by decide +kernel), List.mem_of_getElem? (i := 1009) (by decide +kernel), List.mem_of_getElem? (i := 1010) (by decide +kernel)⟩
theorem lw_p24 : lw_okq (⟨"SpeakHallModel", "firstOf", "(I)I"⟩, 39) := ⟨⟨by decide +kernel, by decide +kernel⟩, List.mem_of_getElem? (i := 794) (by decide +kernel), List.mem_of_getElem? (i := 1021) (by decide +kernel), List.mem_of_getElem? (i := 1022) (by decide +kernel)⟩
theorem lw_p25 : lw_okq (⟨"SpeakHallModel", "limitOf", "(II)I"⟩, 39) := ⟨⟨by decide +kernel, by decide +kernel⟩, List.mem_of_getElem? (i := 794) (by decide +kernel), List.mem_of_getElem? (i := 1025) (by decide +kernel), List.mem_of_getElem? (i := 1026) (by decide +kernel)⟩
theorem lw_p26 : lw_okq (⟨"SpeakHallModel", "take", "(I)I"⟩, 39) := ⟨⟨by decide +kernel, by decide +kernel⟩, List.mem_of_getElem? (i := 794) (by decide +kernel), List.mem_of_getElem? (i := 1039) (by decide +kernel), List.mem_of_getElem? (i := 1040) (by decide +kernel)⟩
theorem lw_p27 : lw_okq (⟨"SpeakHallModel", "end", "()V"⟩, 39) := ⟨⟨by decide +kernel, by decide +kernel⟩, List.mem_of_getElem? (i := 794) (by decide +kernel), List.mem_of_getElem? (i := 1051) (by decide +kernel), List.mem_of_getElem? (i := 1052) (by decide +kernel)⟩
theorem lw_p28 : lw_okq (⟨"SpeakHallModel", "mayVote", "(I)Z"⟩, 39) := ⟨⟨by decide +kernel, by decide +kernel⟩, List.mem_of_getElem? (i := 794) (by decide +kernel), List.mem_of_getElem? (i := 1075) (by decide +kernel), List.mem_of_getElem? (i := 1076) (by decide +kernel)⟩
theorem lw_p29 : lw_okq (⟨"SpeakHallModel", "votesOf", "(I)I"⟩, 39) := ⟨⟨by decide +kernel, by decide +kernel⟩, List.mem_of_getElem? (i := 794) (by decide +kernel), List.mem_of_getElem? (i := 1083) (by decide +kernel), List.mem_of_getElem? (i := 1084) (by decide +kernel)⟩
theorem lw_p30 : lw_okq (⟨"SpeakHallModel", "hasMember", "(I)Z"⟩, 39) := ⟨⟨by decide +kernel, by decide +kernel⟩, List.mem_of_getElem? (i := 794) (by decide +kernel), List.mem_of_getElem? (i := 1102) (by decide +kernel), List.mem_of_getElem? (i := 1103) (by decide +kernel)⟩
theorem lw_p31 : lw_okq (⟨"SpeakHallModel", "ticksOf", "(II)I"⟩, 39) := ⟨⟨by decide +kernel, by decide +kernel⟩, List.mem_of_getElem? (i := 794) (by decide +kernel), List.mem_of_getElem? (i := 1117) (by decide +kernel), List.mem_of_getElem? (i := 1118) (by decide +kernel)⟩
def lw_privs_2 : List (MethodName × Nat) := [(⟨"SpeakHallModel", "timeOf", "(I)I"⟩, 39), (⟨"SpeakHallModel", "askingOf", "(II)I"⟩, 39), (⟨"SpeakHallModel", "comes", "(II)V"⟩, 39), (⟨"SpeakHallModel", "goes", "(I)V"⟩, 39), (⟨"SpeakHallModel", "hasKey", "(I)Z"⟩, 39), (⟨"SpeakHallModel", "tellList", "()V"⟩, 39), (⟨"SpeakHallModel", "isAhead", "(II)Z"⟩, 39), (⟨"SpeakHallModel", "rank", "(II)I"⟩, 39), (⟨"SpeakHallModel", "firstOf", "(I)I"⟩, 39), (⟨"SpeakHallModel", "limitOf", "(II)I"⟩, 39), (⟨"SpeakHallModel", "take", "(I)I"⟩, 39), (⟨"SpeakHallModel", "end", "()V"⟩, 39), (⟨"SpeakHallModel", "mayVote", "(I)Z"⟩, 39), (⟨"SpeakHallModel", "votesOf", "(I)I"⟩, 39), (⟨"SpeakHallModel", "hasMember", "(I)Z"⟩, 39), (⟨"SpeakHallModel", "ticksOf", "(II)I"⟩, 39)]
theorem lw_r2 : ∀ q ∈ lw_privs_2, lw_okq q := List.forall_mem_cons.mpr ⟨lw_p16, List.forall_mem_cons.mpr ⟨lw_p17, List.forall_mem_cons.mpr ⟨lw_p18, List.forall_mem_cons.mpr ⟨lw_p19, List.forall_mem_cons.mpr ⟨lw_p20, List.forall_mem_cons.mpr ⟨lw_p21, List.forall_mem_cons.mpr ⟨lw_p22, List.forall_mem_cons.mpr ⟨lw_p23, List.forall_mem_cons.mpr ⟨lw_p24, List.forall_mem_cons.mpr ⟨lw_p25, List.forall_mem_cons.mpr ⟨lw_p26, List.forall_mem_cons.mpr ⟨lw_p27, List.forall_mem_cons.mpr ⟨lw_p28, List.forall_mem_cons.mpr ⟨lw_p29, List.forall_mem_cons.mpr ⟨lw_p30, List.forall_mem_cons.mpr ⟨lw_p31, fun _ h => absurd h List.not_mem_nil⟩⟩⟩⟩⟩⟩⟩⟩⟩⟩⟩⟩⟩⟩⟩⟩
theorem lw_p32 : lw_okq (⟨"SpeakHallModel", "hasPart", "(III)Z"⟩, 39) := ⟨⟨by decide +kernel, by decide +kernel⟩, List.mem_of_getElem? (i := 794) (by decide +kernel), List.mem_of_getElem? (i := 1145) (by decide +kernel), List.mem_of_getElem? (i := 1146) (by decide +kernel)⟩
def lw_privs_3 : List (MethodName × Nat) := [(⟨"SpeakHallModel", "hasPart", "(III)Z"⟩, 39)]
theorem lw_r3 : ∀ q ∈ lw_privs_3, lw_okq q := List.forall_mem_cons.mpr ⟨lw_p32, fun _ h => absurd h List.not_mem_nil⟩
def lw_privs : List (MethodName × Nat) := lw_privs_1 ++ (lw_privs_2 ++ (lw_privs_3))
def lw_tbl : List Cond := k2_sels lw_privs ++ tables_1
theorem lw_privs_ok : ∀ q ∈ lw_privs, lw_okq q := by
  show ∀ q ∈ lw_privs_1 ++ (lw_privs_2 ++ (lw_privs_3)), lw_okq q
  exact List.forall_mem_append.mpr ⟨lw_r1, List.forall_mem_append.mpr ⟨lw_r2, lw_r3⟩⟩
end
section
def RX0 : String := "SpeakHall$Ballot"
def TX0 : u_T := fun k => match k with
  | 0 => ("SpeakHall$Ballot", "roster", "LSpeakHall$Roster;", true)
  | 1 => ("SpeakHall$Ballot", "said", "[I", true)
  | _ => ("SpeakHall$Ballot", "open", "Z", false)
def tyX0 : Nat → FieldType := fun k => match k with
  | 0 => .object "SpeakHall$Roster"
  | 1 => .array .int
  | _ => .boolean
abbrev wsX00 : List Cond := u_ws RX0 TX0 3
theorem nmX0 : ∀ a, a < 3 → ∀ b, b < 3 → a ≠ b → (TX0 a).2.1 ≠ (TX0 b).2.1 := by decide +kernel
theorem tyX0_ok : ∀ k, k < 3 → parseFieldDescriptor (TX0 k).2.2.1 = some (tyX0 k) := by decide +kernel
abbrev cX0_init : ByteArray := prog_2_method_1_code
def yX0_init : MethodName := ⟨RX0, "<init>", "(LSpeakHall$Roster;)V"⟩
abbrev cX0_isOpen : ByteArray := prog_2_method_2_code
def yX0_isOpen : MethodName := ⟨RX0, "isOpen", "()Z"⟩
abbrev cX0_open : ByteArray := prog_2_method_3_code
def yX0_open : MethodName := ⟨RX0, "open", "()V"⟩
abbrev cX0_shut : ByteArray := prog_2_method_4_code
def yX0_shut : MethodName := ⟨RX0, "shut", "()V"⟩
abbrev cX0_saidBy : ByteArray := prog_2_method_5_code
def yX0_saidBy : MethodName := ⟨RX0, "saidBy", "(I)I"⟩
abbrev cX0_mark : ByteArray := prog_2_method_6_code
def yX0_mark : MethodName := ⟨RX0, "mark", "(II)V"⟩
abbrev cX0_count : ByteArray := prog_2_method_7_code
def yX0_count : MethodName := ⟨RX0, "count", "(I)I"⟩
def RX1 : String := "SpeakHall$Floor"
def TX1 : u_T := fun k => match k with
  | 0 => ("SpeakHall$Floor", "holders", "[I", true)
  | 1 => ("SpeakHall$Floor", "sorts", "[I", true)
  | 2 => ("SpeakHall$Floor", "left", "[I", true)
  | 3 => ("SpeakHall$Floor", "had", "[I", true)
  | 4 => ("SpeakHall$Floor", "limits", "[I", true)
  | _ => ("SpeakHall$Floor", "depth", "I", false)
def tyX1 : Nat → FieldType := fun k => match k with
  | 0 => .array .int
  | 1 => .array .int
  | 2 => .array .int
  | 3 => .array .int
  | 4 => .array .int
  | _ => .int
abbrev wsX10 : List Cond := u_ws RX1 TX1 6
theorem nmX1 : ∀ a, a < 6 → ∀ b, b < 6 → a ≠ b → (TX1 a).2.1 ≠ (TX1 b).2.1 := by decide +kernel
theorem tyX1_ok : ∀ k, k < 6 → parseFieldDescriptor (TX1 k).2.2.1 = some (tyX1 k) := by decide +kernel
abbrev cX1_init : ByteArray := prog_3_method_1_code
def yX1_init : MethodName := ⟨RX1, "<init>", "()V"⟩
abbrev cX1_isHeld : ByteArray := prog_3_method_2_code
def yX1_isHeld : MethodName := ⟨RX1, "isHeld", "()Z"⟩
abbrev cX1_behind : ByteArray := prog_3_method_3_code
def yX1_behind : MethodName := ⟨RX1, "behind", "()I"⟩
abbrev cX1_holder : ByteArray := prog_3_method_4_code
def yX1_holder : MethodName := ⟨RX1, "holder", "()I"⟩
abbrev cX1_sortHeld : ByteArray := prog_3_method_5_code
def yX1_sortHeld : MethodName := ⟨RX1, "sortHeld", "()I"⟩
abbrev cX1_ticksLeft : ByteArray := prog_3_method_6_code
def yX1_ticksLeft : MethodName := ⟨RX1, "ticksLeft", "()I"⟩
abbrev cX1_ticksHad : ByteArray := prog_3_method_7_code
def yX1_ticksHad : MethodName := ⟨RX1, "ticksHad", "()I"⟩
abbrev cX1_limitOf : ByteArray := prog_3_method_8_code
def yX1_limitOf : MethodName := ⟨RX1, "limitOf", "(I)I"⟩
abbrev cX1_setLimit : ByteArray := prog_3_method_9_code
def yX1_setLimit : MethodName := ⟨RX1, "setLimit", "(II)V"⟩
abbrev cX1_push : ByteArray := prog_3_method_10_code
def yX1_push : MethodName := ⟨RX1, "push", "(III)V"⟩
abbrev cX1_pop : ByteArray := prog_3_method_11_code
def yX1_pop : MethodName := ⟨RX1, "pop", "()V"⟩
abbrev cX1_spendTick : ByteArray := prog_3_method_12_code
def yX1_spendTick : MethodName := ⟨RX1, "spendTick", "()V"⟩
def RX2 : String := "SpeakHall$Listing"
def TX2 : u_T := fun k => match k with
  | 0 => ("SpeakHall$Listing", "roster", "LSpeakHall$Roster;", true)
  | 1 => ("SpeakHall$Listing", "rule", "LSpeakHall$Rule;", true)
  | 2 => ("SpeakHall$Listing", "standing", "LSpeakHall$Standing;", true)
  | 3 => ("SpeakHall$Listing", "order", "[I", true)
  | _ => ("SpeakHall$Listing", "size", "I", false)
def tyX2 : Nat → FieldType := fun k => match k with
  | 0 => .object "SpeakHall$Roster"
  | 1 => .object "SpeakHall$Rule"
  | 2 => .object "SpeakHall$Standing"
  | 3 => .array .int
  | _ => .int
abbrev wsX20 : List Cond := u_ws RX2 TX2 5
theorem nmX2 : ∀ a, a < 5 → ∀ b, b < 5 → a ≠ b → (TX2 a).2.1 ≠ (TX2 b).2.1 := by decide +kernel
theorem tyX2_ok : ∀ k, k < 5 → parseFieldDescriptor (TX2 k).2.2.1 = some (tyX2 k) := by decide +kernel
abbrev cX2_init : ByteArray := prog_4_method_1_code
def yX2_init : MethodName := ⟨RX2, "<init>", "(LSpeakHall$Roster;LSpeakHall$Rule;LSpeakHall$Standing;)V"⟩
abbrev cX2_size : ByteArray := prog_4_method_2_code
def yX2_size : MethodName := ⟨RX2, "size", "()I"⟩
abbrev cX2_askingAt : ByteArray := prog_4_method_3_code
def yX2_askingAt : MethodName := ⟨RX2, "askingAt", "(I)I"⟩
abbrev cX2_placeOf : ByteArray := prog_4_method_4_code
def yX2_placeOf : MethodName := ⟨RX2, "placeOf", "(I)I"⟩
abbrev cX2_lay : ByteArray := prog_4_method_5_code
def yX2_lay : MethodName := ⟨RX2, "lay", "()V"⟩
def RX3 : String := "SpeakHall$Minutes"
def TX3 : u_T := fun k => match k with
  | 0 => ("SpeakHall$Minutes", "members", "[I", true)
  | 1 => ("SpeakHall$Minutes", "sorts", "[I", true)
  | 2 => ("SpeakHall$Minutes", "firstTicks", "[I", true)
  | 3 => ("SpeakHall$Minutes", "rightRows", "[I", true)
  | 4 => ("SpeakHall$Minutes", "rightTicks", "[I", true)
  | 5 => ("SpeakHall$Minutes", "written", "I", false)
  | _ => ("SpeakHall$Minutes", "rights", "I", false)
def tyX3 : Nat → FieldType := fun k => match k with
  | 0 => .array .int
  | 1 => .array .int
  | 2 => .array .int
  | 3 => .array .int
  | 4 => .array .int
  | 5 => .int
  | _ => .int
abbrev wsX30 : List Cond := u_ws RX3 TX3 7
theorem nmX3 : ∀ a, a < 7 → ∀ b, b < 7 → a ≠ b → (TX3 a).2.1 ≠ (TX3 b).2.1 := by decide +kernel
theorem tyX3_ok : ∀ k, k < 7 → parseFieldDescriptor (TX3 k).2.2.1 = some (tyX3 k) := by decide +kernel
abbrev cX3_init : ByteArray := prog_5_method_1_code
def yX3_init : MethodName := ⟨RX3, "<init>", "()V"⟩
abbrev cX3_size : ByteArray := prog_5_method_2_code
def yX3_size : MethodName := ⟨RX3, "size", "()I"⟩
abbrev cX3_has : ByteArray := prog_5_method_3_code
def yX3_has : MethodName := ⟨RX3, "has", "(I)Z"⟩
abbrev cX3_latestCount : ByteArray := prog_5_method_4_code
def yX3_latestCount : MethodName := ⟨RX3, "latestCount", "()I"⟩
abbrev cX3_write : ByteArray := prog_5_method_5_code
def yX3_write : MethodName := ⟨RX3, "write", "(III)V"⟩
abbrev cX3_memberAt : ByteArray := prog_5_method_6_code
def yX3_memberAt : MethodName := ⟨RX3, "memberAt", "(I)I"⟩
abbrev cX3_sortAt : ByteArray := prog_5_method_7_code
def yX3_sortAt : MethodName := ⟨RX3, "sortAt", "(I)I"⟩
abbrev cX3_firstTicksAt : ByteArray := prog_5_method_8_code
def yX3_firstTicksAt : MethodName := ⟨RX3, "firstTicksAt", "(I)I"⟩
abbrev cX3_ticksAsOf : ByteArray := prog_5_method_9_code
def yX3_ticksAsOf : MethodName := ⟨RX3, "ticksAsOf", "(II)I"⟩
abbrev cX3_correct : ByteArray := prog_5_method_10_code
def yX3_correct : MethodName := ⟨RX3, "correct", "(II)V"⟩
abbrev cX3_ticksOfMember : ByteArray := prog_5_method_11_code
def yX3_ticksOfMember : MethodName := ⟨RX3, "ticksOfMember", "(II)I"⟩
abbrev cX3_rowWritten : ByteArray := prog_5_method_12_code
def yX3_rowWritten : MethodName := ⟨RX3, "rowWritten", "(I)I"⟩
abbrev cX3_slotOf : ByteArray := prog_5_method_13_code
def yX3_slotOf : MethodName := ⟨RX3, "slotOf", "(I)I"⟩
def RX4 : String := "SpeakHall$Roster"
def TX4 : u_T := fun k => match k with
  | 0 => ("SpeakHall$Roster", "kinds", "[I", true)
  | 1 => ("SpeakHall$Roster", "delegations", "[I", true)
  | 2 => ("SpeakHall$Roster", "here", "[Z", true)
  | _ => ("SpeakHall$Roster", "size", "I", false)
def tyX4 : Nat → FieldType := fun k => match k with
  | 0 => .array .int
  | 1 => .array .int
  | 2 => .array .boolean
  | _ => .int
abbrev wsX40 : List Cond := u_ws RX4 TX4 4
theorem nmX4 : ∀ a, a < 4 → ∀ b, b < 4 → a ≠ b → (TX4 a).2.1 ≠ (TX4 b).2.1 := by decide +kernel
theorem tyX4_ok : ∀ k, k < 4 → parseFieldDescriptor (TX4 k).2.2.1 = some (tyX4 k) := by decide +kernel
abbrev cX4_init : ByteArray := prog_6_method_1_code
def yX4_init : MethodName := ⟨RX4, "<init>", "()V"⟩
abbrev cX4_size : ByteArray := prog_6_method_2_code
def yX4_size : MethodName := ⟨RX4, "size", "()I"⟩
abbrev cX4_has : ByteArray := prog_6_method_3_code
def yX4_has : MethodName := ⟨RX4, "has", "(I)Z"⟩
abbrev cX4_enter : ByteArray := prog_6_method_4_code
def yX4_enter : MethodName := ⟨RX4, "enter", "(II)I"⟩
abbrev cX4_kindOf : ByteArray := prog_6_method_5_code
def yX4_kindOf : MethodName := ⟨RX4, "kindOf", "(I)I"⟩
abbrev cX4_delegationOf : ByteArray := prog_6_method_6_code
def yX4_delegationOf : MethodName := ⟨RX4, "delegationOf", "(I)I"⟩
abbrev cX4_isHere : ByteArray := prog_6_method_7_code
def yX4_isHere : MethodName := ⟨RX4, "isHere", "(I)Z"⟩
abbrev cX4_setHere : ByteArray := prog_6_method_8_code
def yX4_setHere : MethodName := ⟨RX4, "setHere", "(IZ)V"⟩
abbrev cX4_isOfKind : ByteArray := prog_6_method_9_code
def yX4_isOfKind : MethodName := ⟨RX4, "isOfKind", "(II)Z"⟩
abbrev cX4_mayVote : ByteArray := prog_6_method_10_code
def yX4_mayVote : MethodName := ⟨RX4, "mayVote", "(I)Z"⟩
abbrev cX4_isPeopled : ByteArray := prog_6_method_11_code
def yX4_isPeopled : MethodName := ⟨RX4, "isPeopled", "(I)Z"⟩
def RX5 : String := "SpeakHall$Rule"
def TX5 : u_T := fun k => match k with
  | 0 => ("SpeakHall$Rule", "roster", "LSpeakHall$Roster;", true)
  | 1 => ("SpeakHall$Rule", "keys", "[I", true)
  | _ => ("SpeakHall$Rule", "size", "I", false)
def tyX5 : Nat → FieldType := fun k => match k with
  | 0 => .object "SpeakHall$Roster"
  | 1 => .array .int
  | _ => .int
abbrev wsX50 : List Cond := u_ws RX5 TX5 3
theorem nmX5 : ∀ a, a < 3 → ∀ b, b < 3 → a ≠ b → (TX5 a).2.1 ≠ (TX5 b).2.1 := by decide +kernel
theorem tyX5_ok : ∀ k, k < 3 → parseFieldDescriptor (TX5 k).2.2.1 = some (tyX5 k) := by decide +kernel
abbrev cX5_init : ByteArray := prog_7_method_1_code
def yX5_init : MethodName := ⟨RX5, "<init>", "(LSpeakHall$Roster;)V"⟩
abbrev cX5_size : ByteArray := prog_7_method_2_code
def yX5_size : MethodName := ⟨RX5, "size", "()I"⟩
abbrev cX5_has : ByteArray := prog_7_method_3_code
def yX5_has : MethodName := ⟨RX5, "has", "(I)Z"⟩
abbrev cX5_append : ByteArray := prog_7_method_4_code
def yX5_append : MethodName := ⟨RX5, "append", "(I)V"⟩
abbrev cX5_clear : ByteArray := prog_7_method_5_code
def yX5_clear : MethodName := ⟨RX5, "clear", "()V"⟩
abbrev cX5_firstOf : ByteArray := prog_7_method_6_code
def yX5_firstOf : MethodName := ⟨RX5, "firstOf", "(LSpeakHall$Standing;I)I"⟩
abbrev cX5_isAhead : ByteArray := prog_7_method_7_code
def yX5_isAhead : MethodName := ⟨RX5, "isAhead", "(LSpeakHall$Standing;II)Z"⟩
abbrev cX5_rankBy : ByteArray := prog_7_method_8_code
def yX5_rankBy : MethodName := ⟨RX5, "rankBy", "(ILSpeakHall$Standing;I)I"⟩
def RX6 : String := "SpeakHall$Sheet"
def TX6 : u_T := fun k => match k with
  | 0 => ("SpeakHall$Sheet", "numbers", "[I", true)
  | 1 => ("SpeakHall$Sheet", "bits", "I", false)
  | _ => ("SpeakHall$Sheet", "size", "I", false)
def tyX6 : Nat → FieldType := fun k => match k with
  | 0 => .array .int
  | 1 => .int
  | _ => .int
abbrev wsX60 : List Cond := u_ws RX6 TX6 3
theorem nmX6 : ∀ a, a < 3 → ∀ b, b < 3 → a ≠ b → (TX6 a).2.1 ≠ (TX6 b).2.1 := by decide +kernel
theorem tyX6_ok : ∀ k, k < 3 → parseFieldDescriptor (TX6 k).2.2.1 = some (tyX6 k) := by decide +kernel
abbrev cX6_init : ByteArray := prog_8_method_1_code
def yX6_init : MethodName := ⟨RX6, "<init>", "()V"⟩
abbrev cX6_isMissing : ByteArray := prog_8_method_2_code
def yX6_isMissing : MethodName := ⟨RX6, "isMissing", "()Z"⟩
abbrev cX6_width : ByteArray := prog_8_method_3_code
def yX6_width : MethodName := ⟨RX6, "width", "()I"⟩
abbrev cX6_size : ByteArray := prog_8_method_4_code
def yX6_size : MethodName := ⟨RX6, "size", "()I"⟩
abbrev cX6_numberAt : ByteArray := prog_8_method_5_code
def yX6_numberAt : MethodName := ⟨RX6, "numberAt", "(I)I"⟩
abbrev cX6_lay : ByteArray := prog_8_method_6_code
def yX6_lay : MethodName := ⟨RX6, "lay", "(II)V"⟩
abbrev cX6_store : ByteArray := prog_8_method_7_code
def yX6_store : MethodName := ⟨RX6, "store", "(II)V"⟩
abbrev cX6_lowestBits : ByteArray := prog_8_method_8_code
def yX6_lowestBits : MethodName := ⟨RX6, "lowestBits", "(I)I"⟩
abbrev cX6_spans : ByteArray := prog_8_method_9_code
def yX6_spans : MethodName := ⟨RX6, "spans", "(II)Z"⟩
abbrev cX6_take : ByteArray := prog_8_method_10_code
def yX6_take : MethodName := ⟨RX6, "take", "(ILSpeakHall$Sheet;II)V"⟩
abbrev cX6_lengthToZero : ByteArray := prog_8_method_11_code
def yX6_lengthToZero : MethodName := ⟨RX6, "lengthToZero", "()I"⟩
def RX7 : String := "SpeakHall$Standing"
def TX7 : u_T := fun k => match k with
  | 0 => ("SpeakHall$Standing", "roster", "LSpeakHall$Roster;", true)
  | 1 => ("SpeakHall$Standing", "askers", "[I", true)
  | 2 => ("SpeakHall$Standing", "sorts", "[I", true)
  | 3 => ("SpeakHall$Standing", "times", "[I", true)
  | 4 => ("SpeakHall$Standing", "speeches", "[I", true)
  | 5 => ("SpeakHall$Standing", "delegationTimes", "[I", true)
  | 6 => ("SpeakHall$Standing", "size", "I", false)
  | _ => ("SpeakHall$Standing", "latestDelegation", "I", false)
def tyX7 : Nat → FieldType := fun k => match k with
  | 0 => .object "SpeakHall$Roster"
  | 1 => .array .int
  | 2 => .array .int
  | 3 => .array .int
  | 4 => .array .int
  | 5 => .array .int
  | 6 => .int
  | _ => .int
abbrev wsX70 : List Cond := u_ws RX7 TX7 8
theorem nmX7 : ∀ a, a < 8 → ∀ b, b < 8 → a ≠ b → (TX7 a).2.1 ≠ (TX7 b).2.1 := by decide +kernel
theorem tyX7_ok : ∀ k, k < 8 → parseFieldDescriptor (TX7 k).2.2.1 = some (tyX7 k) := by decide +kernel
abbrev cX7_init : ByteArray := prog_9_method_1_code
def yX7_init : MethodName := ⟨RX7, "<init>", "(LSpeakHall$Roster;)V"⟩
abbrev cX7_become : ByteArray := prog_9_method_2_code
def yX7_become : MethodName := ⟨RX7, "become", "(LSpeakHall$Standing;)V"⟩
abbrev cX7_refill : ByteArray := prog_9_method_3_code
def yX7_refill : MethodName := ⟨RX7, "refill", "([I[I)V"⟩
abbrev cX7_size : ByteArray := prog_9_method_4_code
def yX7_size : MethodName := ⟨RX7, "size", "()I"⟩
abbrev cX7_memberAt : ByteArray := prog_9_method_5_code
def yX7_memberAt : MethodName := ⟨RX7, "memberAt", "(I)I"⟩
abbrev cX7_sortAt : ByteArray := prog_9_method_6_code
def yX7_sortAt : MethodName := ⟨RX7, "sortAt", "(I)I"⟩
abbrev cX7_timeOf : ByteArray := prog_9_method_7_code
def yX7_timeOf : MethodName := ⟨RX7, "timeOf", "(I)I"⟩
abbrev cX7_speechesOf : ByteArray := prog_9_method_8_code
def yX7_speechesOf : MethodName := ⟨RX7, "speechesOf", "(I)I"⟩
abbrev cX7_delegationTime : ByteArray := prog_9_method_9_code
def yX7_delegationTime : MethodName := ⟨RX7, "delegationTime", "(I)I"⟩
abbrev cX7_latestDelegation : ByteArray := prog_9_method_10_code
def yX7_latestDelegation : MethodName := ⟨RX7, "latestDelegation", "()I"⟩
abbrev cX7_find : ByteArray := prog_9_method_11_code
def yX7_find : MethodName := ⟨RX7, "find", "(II)I"⟩
abbrev cX7_append : ByteArray := prog_9_method_12_code
def yX7_append : MethodName := ⟨RX7, "append", "(II)V"⟩
abbrev cX7_drop : ByteArray := prog_9_method_13_code
def yX7_drop : MethodName := ⟨RX7, "drop", "(I)V"⟩
abbrev cX7_take : ByteArray := prog_9_method_14_code
def yX7_take : MethodName := ⟨RX7, "take", "(I)V"⟩
abbrev cX7_addTime : ByteArray := prog_9_method_15_code
def yX7_addTime : MethodName := ⟨RX7, "addTime", "(II)V"⟩
def RX8 : String := "SpeakHall"
def TX8 : u_T := fun k => match k with
  | 0 => ("SpeakHall", "roster", "LSpeakHall$Roster;", true)
  | 1 => ("SpeakHall", "standing", "LSpeakHall$Standing;", true)
  | 2 => ("SpeakHall", "supposed", "LSpeakHall$Standing;", true)
  | 3 => ("SpeakHall", "rule", "LSpeakHall$Rule;", true)
  | 4 => ("SpeakHall", "list", "LSpeakHall$Listing;", true)
  | 5 => ("SpeakHall", "floor", "LSpeakHall$Floor;", true)
  | 6 => ("SpeakHall", "ballot", "LSpeakHall$Ballot;", true)
  | 7 => ("SpeakHall", "minutes", "LSpeakHall$Minutes;", true)
  | 8 => ("SpeakHall", "sheets", "[LSpeakHall$Sheet;", true)
  | _ => ("SpeakHall", "findings", "I", false)
def tyX8 : Nat → FieldType := fun k => match k with
  | 0 => .object "SpeakHall$Roster"
  | 1 => .object "SpeakHall$Standing"
  | 2 => .object "SpeakHall$Standing"
  | 3 => .object "SpeakHall$Rule"
  | 4 => .object "SpeakHall$Listing"
  | 5 => .object "SpeakHall$Floor"
  | 6 => .object "SpeakHall$Ballot"
  | 7 => .object "SpeakHall$Minutes"
  | 8 => .array (.object "SpeakHall$Sheet")
  | _ => .int
abbrev wsX80 : List Cond := u_ws RX8 TX8 10
theorem nmX8 : ∀ a, a < 10 → ∀ b, b < 10 → a ≠ b → (TX8 a).2.1 ≠ (TX8 b).2.1 := by decide +kernel
theorem tyX8_ok : ∀ k, k < 10 → parseFieldDescriptor (TX8 k).2.2.1 = some (tyX8 k) := by decide +kernel
abbrev cX8_init : ByteArray := prog_1_method_1_code
def yX8_init : MethodName := ⟨RX8, "<init>", "()V"⟩
abbrev cX8_member : ByteArray := prog_1_method_2_code
def yX8_member : MethodName := ⟨RX8, "member", "(II)I"⟩
abbrev cX8_as : ByteArray := prog_1_method_3_code
def yX8_as : MethodName := ⟨RX8, "as", "(II)I"⟩
abbrev cX8_present : ByteArray := prog_1_method_4_code
def yX8_present : MethodName := ⟨RX8, "present", "(IZ)I"⟩
abbrev cX8_of : ByteArray := prog_1_method_5_code
def yX8_of : MethodName := ⟨RX8, "of", "(II)I"⟩
abbrev cX8_time : ByteArray := prog_1_method_6_code
def yX8_time : MethodName := ⟨RX8, "time", "(I)I"⟩
abbrev cX8_ask : ByteArray := prog_1_method_7_code
def yX8_ask : MethodName := ⟨RX8, "ask", "(II)I"⟩
abbrev cX8_withdraw : ByteArray := prog_1_method_8_code
def yX8_withdraw : MethodName := ⟨RX8, "withdraw", "(II)I"⟩
abbrev cX8_key : ByteArray := prog_1_method_9_code
def yX8_key : MethodName := ⟨RX8, "key", "(I)I"⟩
abbrev cX8_noKeys : ByteArray := prog_1_method_10_code
def yX8_noKeys : MethodName := ⟨RX8, "noKeys", "()I"⟩
abbrev cX8_listed : ByteArray := prog_1_method_11_code
def yX8_listed : MethodName := ⟨RX8, "listed", "(IZ)I"⟩
abbrev cX8_place : ByteArray := prog_1_method_12_code
def yX8_place : MethodName := ⟨RX8, "place", "(II)I"⟩
abbrev cX8_wait : ByteArray := prog_1_method_13_code
def yX8_wait : MethodName := ⟨RX8, "wait", "(I)I"⟩
abbrev cX8_fits : ByteArray := prog_1_method_14_code
def yX8_fits : MethodName := ⟨RX8, "fits", "(IZ)I"⟩
abbrev cX8_begin : ByteArray := prog_1_method_15_code
def yX8_begin : MethodName := ⟨RX8, "begin", "()I"⟩
abbrev cX8_cut : ByteArray := prog_1_method_16_code
def yX8_cut : MethodName := ⟨RX8, "cut", "()I"⟩
abbrev cX8_tick : ByteArray := prog_1_method_17_code
def yX8_tick : MethodName := ⟨RX8, "tick", "(I)I"⟩
abbrev cX8_yield : ByteArray := prog_1_method_18_code
def yX8_yield : MethodName := ⟨RX8, "yield", "()I"⟩
abbrev cX8_floor : ByteArray := prog_1_method_19_code
def yX8_floor : MethodName := ⟨RX8, "floor", "(I)I"⟩
abbrev cX8_limit : ByteArray := prog_1_method_20_code
def yX8_limit : MethodName := ⟨RX8, "limit", "(II)I"⟩
abbrev cX8_vote : ByteArray := prog_1_method_21_code
def yX8_vote : MethodName := ⟨RX8, "vote", "()I"⟩
abbrev cX8_say : ByteArray := prog_1_method_22_code
def yX8_say : MethodName := ⟨RX8, "say", "(II)I"⟩
abbrev cX8_votes : ByteArray := prog_1_method_23_code
def yX8_votes : MethodName := ⟨RX8, "votes", "(I)I"⟩
abbrev cX8_close : ByteArray := prog_1_method_24_code
def yX8_close : MethodName := ⟨RX8, "close", "(I)I"⟩
abbrev cX8_hands : ByteArray := prog_1_method_25_code
def yX8_hands : MethodName := ⟨RX8, "hands", "(IIII)I"⟩
abbrev cX8_apart : ByteArray := prog_1_method_26_code
def yX8_apart : MethodName := ⟨RX8, "apart", "()I"⟩
abbrev cX8_uneven : ByteArray := prog_1_method_27_code
def yX8_uneven : MethodName := ⟨RX8, "uneven", "(Z)I"⟩
abbrev cX8_minutes : ByteArray := prog_1_method_28_code
def yX8_minutes : MethodName := ⟨RX8, "minutes", "(II)I"⟩
abbrev cX8_right : ByteArray := prog_1_method_29_code
def yX8_right : MethodName := ⟨RX8, "right", "(II)I"⟩
abbrev cX8_sum : ByteArray := prog_1_method_30_code
def yX8_sum : MethodName := ⟨RX8, "sum", "(II)I"⟩
abbrev cX8_sheet : ByteArray := prog_1_method_31_code
def yX8_sheet : MethodName := ⟨RX8, "sheet", "(III)I"⟩
abbrev cX8_put : ByteArray := prog_1_method_32_code
def yX8_put : MethodName := ⟨RX8, "put", "(III)I"⟩
abbrev cX8_copy : ByteArray := prog_1_method_33_code
def yX8_copy : MethodName := ⟨RX8, "copy", "(IIIII)I"⟩
abbrev cX8_read : ByteArray := prog_1_method_34_code
def yX8_read : MethodName := ⟨RX8, "read", "(I)I"⟩
abbrev cX8_told : ByteArray := prog_1_method_35_code
def yX8_told : MethodName := ⟨RX8, "told", "(I)I"⟩
abbrev cX8_finding : ByteArray := prog_1_method_36_code
def yX8_finding : MethodName := ⟨RX8, "finding", "(I)I"⟩
abbrev cX8_isAsking : ByteArray := prog_1_method_37_code
def yX8_isAsking : MethodName := ⟨RX8, "isAsking", "(II)Z"⟩
abbrev cX8_ticksFor : ByteArray := prog_1_method_38_code
def yX8_ticksFor : MethodName := ⟨RX8, "ticksFor", "(II)I"⟩
abbrev cX8_takeFloor : ByteArray := prog_1_method_39_code
def yX8_takeFloor : MethodName := ⟨RX8, "takeFloor", "(I)I"⟩
abbrev cX8_endHolding : ByteArray := prog_1_method_40_code
def yX8_endHolding : MethodName := ⟨RX8, "endHolding", "()V"⟩
abbrev cX8_gapsOfPairs : ByteArray := prog_1_method_41_code
def yX8_gapsOfPairs : MethodName := ⟨RX8, "gapsOfPairs", "()I"⟩
abbrev cX8_peopledDelegations : ByteArray := prog_1_method_42_code
def yX8_peopledDelegations : MethodName := ⟨RX8, "peopledDelegations", "()I"⟩
abbrev cX8_allTime : ByteArray := prog_1_method_43_code
def yX8_allTime : MethodName := ⟨RX8, "allTime", "()I"⟩
abbrev cX8_sheetAt : ByteArray := prog_1_method_44_code
def yX8_sheetAt : MethodName := ⟨RX8, "sheetAt", "(I)LSpeakHall$Sheet;"⟩
abbrev cX8_faultOfKeys : ByteArray := prog_1_method_45_code
def yX8_faultOfKeys : MethodName := ⟨RX8, "faultOfKeys", "(LSpeakHall$Sheet;I)I"⟩
abbrev cX8_isKey : ByteArray := prog_1_method_46_code
def yX8_isKey : MethodName := ⟨RX8, "isKey", "(I)Z"⟩
abbrev cX8_isNeed : ByteArray := prog_1_method_47_code
def yX8_isNeed : MethodName := ⟨RX8, "isNeed", "(I)Z"⟩
abbrev cX8_isWidth : ByteArray := prog_1_method_48_code
def yX8_isWidth : MethodName := ⟨RX8, "isWidth", "(I)Z"⟩
abbrev cX8_passes : ByteArray := prog_1_method_49_code
def yX8_passes : MethodName := ⟨RX8, "passes", "(III)Z"⟩
abbrev cX8_greatestDivisor : ByteArray := prog_1_method_50_code
def yX8_greatestDivisor : MethodName := ⟨RX8, "greatestDivisor", "(II)I"⟩
abbrev cX8_isWithin : ByteArray := prog_1_method_51_code
def yX8_isWithin : MethodName := ⟨RX8, "isWithin", "(III)Z"⟩
abbrev cX8_at : ByteArray := prog_1_method_52_code
def yX8_at : MethodName := ⟨RX8, "at", "([II)I"⟩
abbrev cX8_set : ByteArray := prog_1_method_53_code
def yX8_set : MethodName := ⟨RX8, "set", "([III)V"⟩
def RX9 : String := "SpeakHallModel"
def TX9 : u_T := fun k => match k with
  | 0 => ("SpeakHallModel", "members", "I", false)
  | 1 => ("SpeakHallModel", "kind", "[I", true)
  | 2 => ("SpeakHallModel", "delegation", "[I", true)
  | 3 => ("SpeakHallModel", "isPresent", "[Z", true)
  | 4 => ("SpeakHallModel", "time", "[I", true)
  | 5 => ("SpeakHallModel", "speeches", "[I", true)
  | 6 => ("SpeakHallModel", "askings", "I", false)
  | 7 => ("SpeakHallModel", "asker", "[I", true)
  | 8 => ("SpeakHallModel", "sort", "[I", true)
  | 9 => ("SpeakHallModel", "keys", "I", false)
  | 10 => ("SpeakHallModel", "key", "[I", true)
  | 11 => ("SpeakHallModel", "latest", "I", false)
  | 12 => ("SpeakHallModel", "floors", "I", false)
  | 13 => ("SpeakHallModel", "speaker", "[I", true)
  | 14 => ("SpeakHallModel", "floorSort", "[I", true)
  | 15 => ("SpeakHallModel", "left", "[I", true)
  | 16 => ("SpeakHallModel", "had", "[I", true)
  | 17 => ("SpeakHallModel", "limit", "[I", true)
  | 18 => ("SpeakHallModel", "isOpen", "Z", false)
  | 19 => ("SpeakHallModel", "said", "[I", true)
  | 20 => ("SpeakHallModel", "rows", "I", false)
  | 21 => ("SpeakHallModel", "rowsGone", "I", false)
  | 22 => ("SpeakHallModel", "rowMember", "[I", true)
  | 23 => ("SpeakHallModel", "rowSort", "[I", true)
  | 24 => ("SpeakHallModel", "rowTicks", "[I", true)
  | 25 => ("SpeakHallModel", "rights", "I", false)
  | 26 => ("SpeakHallModel", "rightRow", "[I", true)
  | 27 => ("SpeakHallModel", "rightTicks", "[I", true)
  | 28 => ("SpeakHallModel", "sheetBits", "[I", true)
  | 29 => ("SpeakHallModel", "sheetSize", "[I", true)
  | 30 => ("SpeakHallModel", "sheet", "[I", true)
  | 31 => ("SpeakHallModel", "found", "I", false)
  | 32 => ("SpeakHallModel", "list", "[I", true)
  | 33 => ("SpeakHallModel", "listMany", "I", false)
  | 34 => ("SpeakHallModel", "keptAsker", "[I", true)
  | 35 => ("SpeakHallModel", "keptSort", "[I", true)
  | 36 => ("SpeakHallModel", "keptTime", "[I", true)
  | 37 => ("SpeakHallModel", "keptSpeeches", "[I", true)
  | _ => ("SpeakHallModel", "carried", "[I", true)
def tyX9 : Nat → FieldType := fun k => match k with
  | 0 => .int
  | 1 => .array .int
  | 2 => .array .int
  | 3 => .array .boolean
  | 4 => .array .int
  | 5 => .array .int
  | 6 => .int
  | 7 => .array .int
  | 8 => .array .int
  | 9 => .int
  | 10 => .array .int
  | 11 => .int
  | 12 => .int
  | 13 => .array .int
  | 14 => .array .int
  | 15 => .array .int
  | 16 => .array .int
  | 17 => .array .int
  | 18 => .boolean
  | 19 => .array .int
  | 20 => .int
  | 21 => .int
  | 22 => .array .int
  | 23 => .array .int
  | 24 => .array .int
  | 25 => .int
  | 26 => .array .int
  | 27 => .array .int
  | 28 => .array .int
  | 29 => .array .int
  | 30 => .array .int
  | 31 => .int
  | 32 => .array .int
  | 33 => .int
  | 34 => .array .int
  | 35 => .array .int
  | 36 => .array .int
  | 37 => .array .int
  | _ => .array .int
abbrev wsX90 : List Cond := u_ws RX9 TX9 39
theorem nmX9 : ∀ a, a < 39 → ∀ b, b < 39 → a ≠ b → (TX9 a).2.1 ≠ (TX9 b).2.1 := by decide +kernel
theorem tyX9_ok : ∀ k, k < 39 → parseFieldDescriptor (TX9 k).2.2.1 = some (tyX9 k) := by decide +kernel
abbrev cX9_init : ByteArray := prog_11_method_1_code
def yX9_init : MethodName := ⟨RX9, "<init>", "()V"⟩
abbrev cX9_finding : ByteArray := prog_11_method_2_code
def yX9_finding : MethodName := ⟨RX9, "finding", "(I)I"⟩
abbrev cX9_isIn : ByteArray := prog_11_method_3_code
def yX9_isIn : MethodName := ⟨RX9, "isIn", "(III)Z"⟩
abbrev cX9_isMember : ByteArray := prog_11_method_4_code
def yX9_isMember : MethodName := ⟨RX9, "isMember", "(I)Z"⟩
abbrev cX9_isSort : ByteArray := prog_11_method_5_code
def yX9_isSort : MethodName := ⟨RX9, "isSort", "(I)Z"⟩
abbrev cX9_isGuest : ByteArray := prog_11_method_6_code
def yX9_isGuest : MethodName := ⟨RX9, "isGuest", "(I)Z"⟩
abbrev cX9_member : ByteArray := prog_11_method_7_code
def yX9_member : MethodName := ⟨RX9, "member", "(II)I"⟩
abbrev cX9_as : ByteArray := prog_11_method_8_code
def yX9_as : MethodName := ⟨RX9, "as", "(II)I"⟩
abbrev cX9_present : ByteArray := prog_11_method_9_code
def yX9_present : MethodName := ⟨RX9, "present", "(IZ)I"⟩
abbrev cX9_of : ByteArray := prog_11_method_10_code
def yX9_of : MethodName := ⟨RX9, "of", "(II)I"⟩
abbrev cX9_timeOf : ByteArray := prog_11_method_11_code
def yX9_timeOf : MethodName := ⟨RX9, "timeOf", "(I)I"⟩
abbrev cX9_time : ByteArray := prog_11_method_12_code
def yX9_time : MethodName := ⟨RX9, "time", "(I)I"⟩
abbrev cX9_askingOf : ByteArray := prog_11_method_13_code
def yX9_askingOf : MethodName := ⟨RX9, "askingOf", "(II)I"⟩
abbrev cX9_comes : ByteArray := prog_11_method_14_code
def yX9_comes : MethodName := ⟨RX9, "comes", "(II)V"⟩
abbrev cX9_goes : ByteArray := prog_11_method_15_code
def yX9_goes : MethodName := ⟨RX9, "goes", "(I)V"⟩
abbrev cX9_ask : ByteArray := prog_11_method_16_code
def yX9_ask : MethodName := ⟨RX9, "ask", "(II)I"⟩
abbrev cX9_withdraw : ByteArray := prog_11_method_17_code
def yX9_withdraw : MethodName := ⟨RX9, "withdraw", "(II)I"⟩
abbrev cX9_hasKey : ByteArray := prog_11_method_18_code
def yX9_hasKey : MethodName := ⟨RX9, "hasKey", "(I)Z"⟩
abbrev cX9_key : ByteArray := prog_11_method_19_code
def yX9_key : MethodName := ⟨RX9, "key", "(I)I"⟩
abbrev cX9_noKeys : ByteArray := prog_11_method_20_code
def yX9_noKeys : MethodName := ⟨RX9, "noKeys", "()I"⟩
abbrev cX9_rank : ByteArray := prog_11_method_21_code
def yX9_rank : MethodName := ⟨RX9, "rank", "(II)I"⟩
abbrev cX9_isAhead : ByteArray := prog_11_method_22_code
def yX9_isAhead : MethodName := ⟨RX9, "isAhead", "(II)Z"⟩
abbrev cX9_tellList : ByteArray := prog_11_method_23_code
def yX9_tellList : MethodName := ⟨RX9, "tellList", "()V"⟩
abbrev cX9_listed : ByteArray := prog_11_method_24_code
def yX9_listed : MethodName := ⟨RX9, "listed", "(IZ)I"⟩
abbrev cX9_place : ByteArray := prog_11_method_25_code
def yX9_place : MethodName := ⟨RX9, "place", "(II)I"⟩
abbrev cX9_firstOf : ByteArray := prog_11_method_26_code
def yX9_firstOf : MethodName := ⟨RX9, "firstOf", "(I)I"⟩
abbrev cX9_limitOf : ByteArray := prog_11_method_27_code
def yX9_limitOf : MethodName := ⟨RX9, "limitOf", "(II)I"⟩
abbrev cX9_wait : ByteArray := prog_11_method_28_code
def yX9_wait : MethodName := ⟨RX9, "wait", "(I)I"⟩
abbrev cX9_fits : ByteArray := prog_11_method_29_code
def yX9_fits : MethodName := ⟨RX9, "fits", "(IZ)I"⟩
abbrev cX9_take : ByteArray := prog_11_method_30_code
def yX9_take : MethodName := ⟨RX9, "take", "(I)I"⟩
abbrev cX9_end : ByteArray := prog_11_method_31_code
def yX9_end : MethodName := ⟨RX9, "end", "()V"⟩
abbrev cX9_begin : ByteArray := prog_11_method_32_code
def yX9_begin : MethodName := ⟨RX9, "begin", "()I"⟩
abbrev cX9_cut : ByteArray := prog_11_method_33_code
def yX9_cut : MethodName := ⟨RX9, "cut", "()I"⟩
abbrev cX9_tick : ByteArray := prog_11_method_34_code
def yX9_tick : MethodName := ⟨RX9, "tick", "(I)I"⟩
abbrev cX9_yield : ByteArray := prog_11_method_35_code
def yX9_yield : MethodName := ⟨RX9, "yield", "()I"⟩
abbrev cX9_floor : ByteArray := prog_11_method_36_code
def yX9_floor : MethodName := ⟨RX9, "floor", "(I)I"⟩
abbrev cX9_limit : ByteArray := prog_11_method_37_code
def yX9_limit : MethodName := ⟨RX9, "limit", "(II)I"⟩
abbrev cX9_vote : ByteArray := prog_11_method_38_code
def yX9_vote : MethodName := ⟨RX9, "vote", "()I"⟩
abbrev cX9_mayVote : ByteArray := prog_11_method_39_code
def yX9_mayVote : MethodName := ⟨RX9, "mayVote", "(I)Z"⟩
abbrev cX9_say : ByteArray := prog_11_method_40_code
def yX9_say : MethodName := ⟨RX9, "say", "(II)I"⟩
abbrev cX9_votesOf : ByteArray := prog_11_method_41_code
def yX9_votesOf : MethodName := ⟨RX9, "votesOf", "(I)I"⟩
abbrev cX9_votes : ByteArray := prog_11_method_42_code
def yX9_votes : MethodName := ⟨RX9, "votes", "(I)I"⟩
abbrev cX9_passes : ByteArray := prog_11_method_43_code
def yX9_passes : MethodName := ⟨RX9, "passes", "(III)Z"⟩
abbrev cX9_close : ByteArray := prog_11_method_44_code
def yX9_close : MethodName := ⟨RX9, "close", "(I)I"⟩
abbrev cX9_hands : ByteArray := prog_11_method_45_code
def yX9_hands : MethodName := ⟨RX9, "hands", "(IIII)I"⟩
abbrev cX9_hasMember : ByteArray := prog_11_method_46_code
def yX9_hasMember : MethodName := ⟨RX9, "hasMember", "(I)Z"⟩
abbrev cX9_apart : ByteArray := prog_11_method_47_code
def yX9_apart : MethodName := ⟨RX9, "apart", "()I"⟩
abbrev cX9_common : ByteArray := prog_11_method_48_code
def yX9_common : MethodName := ⟨RX9, "common", "(II)I"⟩
abbrev cX9_uneven : ByteArray := prog_11_method_49_code
def yX9_uneven : MethodName := ⟨RX9, "uneven", "(Z)I"⟩
abbrev cX9_ticksOf : ByteArray := prog_11_method_50_code
def yX9_ticksOf : MethodName := ⟨RX9, "ticksOf", "(II)I"⟩
abbrev cX9_minutes : ByteArray := prog_11_method_51_code
def yX9_minutes : MethodName := ⟨RX9, "minutes", "(II)I"⟩
abbrev cX9_right : ByteArray := prog_11_method_52_code
def yX9_right : MethodName := ⟨RX9, "right", "(II)I"⟩
abbrev cX9_sum : ByteArray := prog_11_method_53_code
def yX9_sum : MethodName := ⟨RX9, "sum", "(II)I"⟩
abbrev cX9_isSheet : ByteArray := prog_11_method_54_code
def yX9_isSheet : MethodName := ⟨RX9, "isSheet", "(I)Z"⟩
abbrev cX9_sheet : ByteArray := prog_11_method_55_code
def yX9_sheet : MethodName := ⟨RX9, "sheet", "(III)I"⟩
abbrev cX9_put : ByteArray := prog_11_method_56_code
def yX9_put : MethodName := ⟨RX9, "put", "(III)I"⟩
abbrev cX9_hasPart : ByteArray := prog_11_method_57_code
def yX9_hasPart : MethodName := ⟨RX9, "hasPart", "(III)Z"⟩
abbrev cX9_copy : ByteArray := prog_11_method_58_code
def yX9_copy : MethodName := ⟨RX9, "copy", "(IIIII)I"⟩
abbrev cX9_read : ByteArray := prog_11_method_59_code
def yX9_read : MethodName := ⟨RX9, "read", "(I)I"⟩
abbrev cX9_told : ByteArray := prog_11_method_60_code
def yX9_told : MethodName := ⟨RX9, "told", "(I)I"⟩
def RJ9 : String := "java/lang/Math"
def TJ9 : u_T := fun k => match k with
  | _ => ("", "", "", false)
def tyJ9 : Nat → FieldType := fun k => match k with
  | _ => .int
abbrev wsJ90 : List Cond := u_ws RJ9 TJ9 0
theorem nmJ9 : ∀ a, a < 0 → ∀ b, b < 0 → a ≠ b → (TJ9 a).2.1 ≠ (TJ9 b).2.1 := by decide +kernel
theorem tyJ9_ok : ∀ k, k < 0 → parseFieldDescriptor (TJ9 k).2.2.1 = some (tyJ9 k) := by decide +kernel
abbrev cJ9_abs_0f7a4 : ByteArray := prog_12_method_59_code
def yJ9_abs_0f7a4 : MethodName := ⟨RJ9, "abs", "(I)I"⟩
abbrev cJ9_max_7cf53 : ByteArray := prog_12_method_65_code
def yJ9_max_7cf53 : MethodName := ⟨RJ9, "max", "(II)I"⟩
abbrev cJ9_min_7cf53 : ByteArray := prog_12_method_69_code
def yJ9_min_7cf53 : MethodName := ⟨RJ9, "min", "(II)I"⟩
def RL : String := "SpeakHallLaw"
abbrev cL_law : ByteArray := code
def yL_law : MethodName := ⟨RL, "law", "([I)Z"⟩
abbrev vwCl : List vw_C := [(RX0, TX0, 3), (RX1, TX1, 6), (RX2, TX2, 5), (RX3, TX3, 7), (RX4, TX4, 4), (RX5, TX5, 3), (RX6, TX6, 3), (RX7, TX7, 8), (RX8, TX8, 10), (RX9, TX9, 39)]
end
section
def gw : List Cond := lw_tbl.filter goodWord
theorem gw_in {w : Cond} (i : Nat) (h : lw_tbl[i]? = some w) (hg : goodWord w = true) : w ∈ gw := List.mem_filter.mpr ⟨List.mem_of_getElem? h, hg⟩
theorem gw_good {w : Cond} (h : w ∈ gw) : goodWord w = true := (List.mem_filter.mp h).2
theorem gw_tbl {w : Cond} (h : w ∈ gw) : w ∈ lw_tbl := (List.mem_filter.mp h).1
theorem mS_X8_finding : Cond.selects RX8 yX8_finding yX8_finding ∈ gw := gw_in 0 (by decide +kernel) (by decide +kernel)
theorem mS_X8_isAsking : Cond.selects RX8 yX8_isAsking yX8_isAsking ∈ gw := gw_in 1 (by decide +kernel) (by decide +kernel)
theorem mS_X5_rankBy : Cond.selects RX5 yX5_rankBy yX5_rankBy ∈ gw := gw_in 2 (by decide +kernel) (by decide +kernel)
theorem mS_X8_ticksFor : Cond.selects RX8 yX8_ticksFor yX8_ticksFor ∈ gw := gw_in 3 (by decide +kernel) (by decide +kernel)
theorem mS_X8_takeFloor : Cond.selects RX8 yX8_takeFloor yX8_takeFloor ∈ gw := gw_in 4 (by decide +kernel) (by decide +kernel)
theorem mS_X8_endHolding : Cond.selects RX8 yX8_endHolding yX8_endHolding ∈ gw := gw_in 5 (by decide +kernel) (by decide +kernel)
theorem mS_X8_gapsOfPairs : Cond.selects RX8 yX8_gapsOfPairs yX8_gapsOfPairs ∈ gw := gw_in 6 (by decide +kernel) (by decide +kernel)
theorem mS_X8_peopledDelegations : Cond.selects RX8 yX8_peopledDelegations yX8_peopledDelegations ∈ gw := gw_in 7 (by decide +kernel) (by decide +kernel)
theorem mS_X8_allTime : Cond.selects RX8 yX8_allTime yX8_allTime ∈ gw := gw_in 8 (by decide +kernel) (by decide +kernel)
theorem mS_X3_slotOf : Cond.selects RX3 yX3_slotOf yX3_slotOf ∈ gw := gw_in 9 (by decide +kernel) (by decide +kernel)
theorem mS_X3_rowWritten : Cond.selects RX3 yX3_rowWritten yX3_rowWritten ∈ gw := gw_in 10 (by decide +kernel) (by decide +kernel)
theorem mS_X8_sheetAt : Cond.selects RX8 yX8_sheetAt yX8_sheetAt ∈ gw := gw_in 11 (by decide +kernel) (by decide +kernel)
theorem mS_X6_lowestBits : Cond.selects RX6 yX6_lowestBits yX6_lowestBits ∈ gw := gw_in 12 (by decide +kernel) (by decide +kernel)
theorem mS_X9_finding : Cond.selects RX9 yX9_finding yX9_finding ∈ gw := gw_in 13 (by decide +kernel) (by decide +kernel)
theorem mS_X9_isMember : Cond.selects RX9 yX9_isMember yX9_isMember ∈ gw := gw_in 14 (by decide +kernel) (by decide +kernel)
theorem mS_X9_isGuest : Cond.selects RX9 yX9_isGuest yX9_isGuest ∈ gw := gw_in 15 (by decide +kernel) (by decide +kernel)
theorem mS_X9_timeOf : Cond.selects RX9 yX9_timeOf yX9_timeOf ∈ gw := gw_in 16 (by decide +kernel) (by decide +kernel)
theorem mS_X9_askingOf : Cond.selects RX9 yX9_askingOf yX9_askingOf ∈ gw := gw_in 17 (by decide +kernel) (by decide +kernel)
theorem mS_X9_comes : Cond.selects RX9 yX9_comes yX9_comes ∈ gw := gw_in 18 (by decide +kernel) (by decide +kernel)
theorem mS_X9_goes : Cond.selects RX9 yX9_goes yX9_goes ∈ gw := gw_in 19 (by decide +kernel) (by decide +kernel)
theorem mS_X9_hasKey : Cond.selects RX9 yX9_hasKey yX9_hasKey ∈ gw := gw_in 20 (by decide +kernel) (by decide +kernel)
theorem mS_X9_tellList : Cond.selects RX9 yX9_tellList yX9_tellList ∈ gw := gw_in 21 (by decide +kernel) (by decide +kernel)
theorem mS_X9_isAhead : Cond.selects RX9 yX9_isAhead yX9_isAhead ∈ gw := gw_in 22 (by decide +kernel) (by decide +kernel)
theorem mS_X9_rank : Cond.selects RX9 yX9_rank yX9_rank ∈ gw := gw_in 23 (by decide +kernel) (by decide +kernel)
theorem mS_X9_firstOf : Cond.selects RX9 yX9_firstOf yX9_firstOf ∈ gw := gw_in 24 (by decide +kernel) (by decide +kernel)
theorem mS_X9_limitOf : Cond.selects RX9 yX9_limitOf yX9_limitOf ∈ gw := gw_in 25 (by decide +kernel) (by decide +kernel)
theorem mS_X9_take : Cond.selects RX9 yX9_take yX9_take ∈ gw := gw_in 26 (by decide +kernel) (by decide +kernel)
theorem mS_X9_end : Cond.selects RX9 yX9_end yX9_end ∈ gw := gw_in 27 (by decide +kernel) (by decide +kernel)
theorem mS_X9_mayVote : Cond.selects RX9 yX9_mayVote yX9_mayVote ∈ gw := gw_in 28 (by decide +kernel) (by decide +kernel)
theorem mS_X9_votesOf : Cond.selects RX9 yX9_votesOf yX9_votesOf ∈ gw := gw_in 29 (by decide +kernel) (by decide +kernel)
theorem mS_X9_hasMember : Cond.selects RX9 yX9_hasMember yX9_hasMember ∈ gw := gw_in 30 (by decide +kernel) (by decide +kernel)
theorem mS_X9_ticksOf : Cond.selects RX9 yX9_ticksOf yX9_ticksOf ∈ gw := gw_in 31 (by decide +kernel) (by decide +kernel)
theorem mS_X9_hasPart : Cond.selects RX9 yX9_hasPart yX9_hasPart ∈ gw := gw_in 32 (by decide +kernel) (by decide +kernel)
theorem mN_L : Cond.initialized RL ∈ gw := gw_in 33 (by decide +kernel) (by decide +kernel)
theorem mN_X8 : Cond.initialized RX8 ∈ gw := gw_in 34 (by decide +kernel) (by decide +kernel)
theorem mN_X4 : Cond.initialized RX4 ∈ gw := gw_in 35 (by decide +kernel) (by decide +kernel)
theorem mN_X7 : Cond.initialized RX7 ∈ gw := gw_in 36 (by decide +kernel) (by decide +kernel)
theorem mN_X5 : Cond.initialized RX5 ∈ gw := gw_in 37 (by decide +kernel) (by decide +kernel)
theorem mN_X2 : Cond.initialized RX2 ∈ gw := gw_in 38 (by decide +kernel) (by decide +kernel)
theorem mN_X1 : Cond.initialized RX1 ∈ gw := gw_in 39 (by decide +kernel) (by decide +kernel)
theorem mN_X0 : Cond.initialized RX0 ∈ gw := gw_in 40 (by decide +kernel) (by decide +kernel)
theorem mN_X3 : Cond.initialized RX3 ∈ gw := gw_in 41 (by decide +kernel) (by decide +kernel)
theorem mN_X6 : Cond.initialized RX6 ∈ gw := gw_in 42 (by decide +kernel) (by decide +kernel)
theorem mN_X9 : Cond.initialized RX9 ∈ gw := gw_in 43 (by decide +kernel) (by decide +kernel)
theorem mN_J9 : Cond.initialized RJ9 ∈ gw := gw_in 44 (by decide +kernel) (by decide +kernel)
theorem mA_L_7 : Cond.classLink RL 7 RX8 ∈ gw := gw_in 45 (by decide +kernel) (by decide +kernel)
theorem mB_X8 : Cond.instantiable RX8 10 ∈ gw := gw_in 46 (by decide +kernel) (by decide +kernel)
theorem mL_L_9 : Cond.methodLink RL 9 yX8_init ∈ gw := gw_in 47 (by decide +kernel) (by decide +kernel)
theorem mI_X8_init : Cond.instanceMethod yX8_init ∈ gw := gw_in 48 (by decide +kernel) (by decide +kernel)
theorem mC_X8_init : Cond.code yX8_init cX8_init 2 none ∈ gw := gw_in 49 (by decide +kernel) (by decide +kernel)
theorem mL_X8_1 : Cond.methodLink RX8 1 objectInit ∈ gw := gw_in 50 (by decide +kernel) (by decide +kernel)
theorem mI_objectInit : Cond.instanceMethod objectInit ∈ gw := gw_in 51 (by decide +kernel) (by decide +kernel)
theorem mC_objectInit : Cond.code objectInit ⟨#[0xb1]⟩ 1 none ∈ gw := gw_in 52 (by decide +kernel) (by decide +kernel)
theorem mA_X8_7 : Cond.classLink RX8 7 RX4 ∈ gw := gw_in 53 (by decide +kernel) (by decide +kernel)
theorem mB_X4 : Cond.instantiable RX4 4 ∈ gw := gw_in 54 (by decide +kernel) (by decide +kernel)
theorem mI_X4_init : Cond.instanceMethod yX4_init ∈ gw := gw_in 56 (by decide +kernel) (by decide +kernel)
theorem mC_X4_init : Cond.code yX4_init cX4_init 1 none ∈ gw := gw_in 57 (by decide +kernel) (by decide +kernel)
theorem mL_X4_3 : Cond.methodLink RX4 3 objectInit ∈ gw := gw_in 58 (by decide +kernel) (by decide +kernel)
theorem mF_X4_9 : Cond.fieldLink RX4 9 "SpeakHall$Roster" "kinds" "[I" ∈ gw := gw_in 59 (by decide +kernel) (by decide +kernel)
theorem mF_X4_15 : Cond.fieldLink RX4 15 "SpeakHall$Roster" "delegations" "[I" ∈ gw := gw_in 60 (by decide +kernel) (by decide +kernel)
theorem mF_X4_18 : Cond.fieldLink RX4 18 "SpeakHall$Roster" "here" "[Z" ∈ gw := gw_in 61 (by decide +kernel) (by decide +kernel)
theorem mF_X4_22 : Cond.fieldLink RX4 22 "SpeakHall$Roster" "size" "I" ∈ gw := gw_in 62 (by decide +kernel) (by decide +kernel)
theorem mY_int : Cond.arrayClass .int ∈ gw := gw_in 72 (by decide +kernel) (by decide +kernel)
theorem mY_boolean : Cond.arrayClass .boolean ∈ gw := gw_in 73 (by decide +kernel) (by decide +kernel)
theorem mA_X8_16 : Cond.classLink RX8 16 RX7 ∈ gw := gw_in 74 (by decide +kernel) (by decide +kernel)
theorem mB_X7 : Cond.instantiable RX7 8 ∈ gw := gw_in 75 (by decide +kernel) (by decide +kernel)
theorem mL_X8_18 : Cond.methodLink RX8 18 yX7_init ∈ gw := gw_in 76 (by decide +kernel) (by decide +kernel)
theorem mI_X7_init : Cond.instanceMethod yX7_init ∈ gw := gw_in 77 (by decide +kernel) (by decide +kernel)
theorem mC_X7_init : Cond.code yX7_init cX7_init 2 none ∈ gw := gw_in 78 (by decide +kernel) (by decide +kernel)
theorem mL_X7_3 : Cond.methodLink RX7 3 objectInit ∈ gw := gw_in 79 (by decide +kernel) (by decide +kernel)
theorem mF_X7_34 : Cond.fieldLink RX7 34 "SpeakHall$Standing" "roster" "LSpeakHall$Roster;" ∈ gw := gw_in 80 (by decide +kernel) (by decide +kernel)
theorem mF_X7_9 : Cond.fieldLink RX7 9 "SpeakHall$Standing" "askers" "[I" ∈ gw := gw_in 81 (by decide +kernel) (by decide +kernel)
theorem mF_X7_15 : Cond.fieldLink RX7 15 "SpeakHall$Standing" "sorts" "[I" ∈ gw := gw_in 82 (by decide +kernel) (by decide +kernel)
theorem mF_X7_18 : Cond.fieldLink RX7 18 "SpeakHall$Standing" "times" "[I" ∈ gw := gw_in 83 (by decide +kernel) (by decide +kernel)
theorem mF_X7_21 : Cond.fieldLink RX7 21 "SpeakHall$Standing" "speeches" "[I" ∈ gw := gw_in 84 (by decide +kernel) (by decide +kernel)
theorem mF_X7_24 : Cond.fieldLink RX7 24 "SpeakHall$Standing" "delegationTimes" "[I" ∈ gw := gw_in 85 (by decide +kernel) (by decide +kernel)
theorem mF_X7_27 : Cond.fieldLink RX7 27 "SpeakHall$Standing" "size" "I" ∈ gw := gw_in 86 (by decide +kernel) (by decide +kernel)
theorem mF_X7_31 : Cond.fieldLink RX7 31 "SpeakHall$Standing" "latestDelegation" "I" ∈ gw := gw_in 87 (by decide +kernel) (by decide +kernel)
theorem mA_X8_28 : Cond.classLink RX8 28 RX5 ∈ gw := gw_in 105 (by decide +kernel) (by decide +kernel)
theorem mB_X5 : Cond.instantiable RX5 3 ∈ gw := gw_in 106 (by decide +kernel) (by decide +kernel)
theorem mL_X8_30 : Cond.methodLink RX8 30 yX5_init ∈ gw := gw_in 107 (by decide +kernel) (by decide +kernel)
theorem mI_X5_init : Cond.instanceMethod yX5_init ∈ gw := gw_in 108 (by decide +kernel) (by decide +kernel)
theorem mC_X5_init : Cond.code yX5_init cX5_init 2 none ∈ gw := gw_in 109 (by decide +kernel) (by decide +kernel)
theorem mL_X5_3 : Cond.methodLink RX5 3 objectInit ∈ gw := gw_in 110 (by decide +kernel) (by decide +kernel)
theorem mF_X5_19 : Cond.fieldLink RX5 19 "SpeakHall$Rule" "roster" "LSpeakHall$Roster;" ∈ gw := gw_in 111 (by decide +kernel) (by decide +kernel)
theorem mF_X5_9 : Cond.fieldLink RX5 9 "SpeakHall$Rule" "keys" "[I" ∈ gw := gw_in 112 (by decide +kernel) (by decide +kernel)
theorem mF_X5_15 : Cond.fieldLink RX5 15 "SpeakHall$Rule" "size" "I" ∈ gw := gw_in 113 (by decide +kernel) (by decide +kernel)
theorem mA_X8_35 : Cond.classLink RX8 35 RX2 ∈ gw := gw_in 121 (by decide +kernel) (by decide +kernel)
theorem mB_X2 : Cond.instantiable RX2 5 ∈ gw := gw_in 122 (by decide +kernel) (by decide +kernel)
theorem mL_X8_37 : Cond.methodLink RX8 37 yX2_init ∈ gw := gw_in 123 (by decide +kernel) (by decide +kernel)
theorem mI_X2_init : Cond.instanceMethod yX2_init ∈ gw := gw_in 124 (by decide +kernel) (by decide +kernel)
theorem mC_X2_init : Cond.code yX2_init cX2_init 4 none ∈ gw := gw_in 125 (by decide +kernel) (by decide +kernel)
theorem mL_X2_3 : Cond.methodLink RX2 3 objectInit ∈ gw := gw_in 126 (by decide +kernel) (by decide +kernel)
theorem mF_X2_19 : Cond.fieldLink RX2 19 "SpeakHall$Listing" "roster" "LSpeakHall$Roster;" ∈ gw := gw_in 127 (by decide +kernel) (by decide +kernel)
theorem mF_X2_23 : Cond.fieldLink RX2 23 "SpeakHall$Listing" "rule" "LSpeakHall$Rule;" ∈ gw := gw_in 128 (by decide +kernel) (by decide +kernel)
theorem mF_X2_27 : Cond.fieldLink RX2 27 "SpeakHall$Listing" "standing" "LSpeakHall$Standing;" ∈ gw := gw_in 129 (by decide +kernel) (by decide +kernel)
theorem mF_X2_9 : Cond.fieldLink RX2 9 "SpeakHall$Listing" "order" "[I" ∈ gw := gw_in 130 (by decide +kernel) (by decide +kernel)
theorem mF_X2_15 : Cond.fieldLink RX2 15 "SpeakHall$Listing" "size" "I" ∈ gw := gw_in 131 (by decide +kernel) (by decide +kernel)
theorem mA_X8_44 : Cond.classLink RX8 44 RX1 ∈ gw := gw_in 143 (by decide +kernel) (by decide +kernel)
theorem mB_X1 : Cond.instantiable RX1 6 ∈ gw := gw_in 144 (by decide +kernel) (by decide +kernel)
theorem mI_X1_init : Cond.instanceMethod yX1_init ∈ gw := gw_in 146 (by decide +kernel) (by decide +kernel)
theorem mC_X1_init : Cond.code yX1_init cX1_init 1 none ∈ gw := gw_in 147 (by decide +kernel) (by decide +kernel)
theorem mL_X1_3 : Cond.methodLink RX1 3 objectInit ∈ gw := gw_in 148 (by decide +kernel) (by decide +kernel)
theorem mF_X1_9 : Cond.fieldLink RX1 9 "SpeakHall$Floor" "holders" "[I" ∈ gw := gw_in 149 (by decide +kernel) (by decide +kernel)
theorem mF_X1_15 : Cond.fieldLink RX1 15 "SpeakHall$Floor" "sorts" "[I" ∈ gw := gw_in 150 (by decide +kernel) (by decide +kernel)
theorem mF_X1_18 : Cond.fieldLink RX1 18 "SpeakHall$Floor" "left" "[I" ∈ gw := gw_in 151 (by decide +kernel) (by decide +kernel)
theorem mF_X1_21 : Cond.fieldLink RX1 21 "SpeakHall$Floor" "had" "[I" ∈ gw := gw_in 152 (by decide +kernel) (by decide +kernel)
theorem mF_X1_24 : Cond.fieldLink RX1 24 "SpeakHall$Floor" "limits" "[I" ∈ gw := gw_in 153 (by decide +kernel) (by decide +kernel)
theorem mF_X1_27 : Cond.fieldLink RX1 27 "SpeakHall$Floor" "depth" "I" ∈ gw := gw_in 154 (by decide +kernel) (by decide +kernel)
theorem mA_X8_51 : Cond.classLink RX8 51 RX0 ∈ gw := gw_in 168 (by decide +kernel) (by decide +kernel)
theorem mB_X0 : Cond.instantiable RX0 3 ∈ gw := gw_in 169 (by decide +kernel) (by decide +kernel)
theorem mL_X8_53 : Cond.methodLink RX8 53 yX0_init ∈ gw := gw_in 170 (by decide +kernel) (by decide +kernel)
theorem mI_X0_init : Cond.instanceMethod yX0_init ∈ gw := gw_in 171 (by decide +kernel) (by decide +kernel)
theorem mC_X0_init : Cond.code yX0_init cX0_init 2 none ∈ gw := gw_in 172 (by decide +kernel) (by decide +kernel)
theorem mL_X0_3 : Cond.methodLink RX0 3 objectInit ∈ gw := gw_in 173 (by decide +kernel) (by decide +kernel)
theorem mF_X0_19 : Cond.fieldLink RX0 19 "SpeakHall$Ballot" "roster" "LSpeakHall$Roster;" ∈ gw := gw_in 174 (by decide +kernel) (by decide +kernel)
theorem mF_X0_9 : Cond.fieldLink RX0 9 "SpeakHall$Ballot" "said" "[I" ∈ gw := gw_in 175 (by decide +kernel) (by decide +kernel)
theorem mF_X0_15 : Cond.fieldLink RX0 15 "SpeakHall$Ballot" "open" "Z" ∈ gw := gw_in 176 (by decide +kernel) (by decide +kernel)
theorem mA_X8_58 : Cond.classLink RX8 58 RX3 ∈ gw := gw_in 184 (by decide +kernel) (by decide +kernel)
theorem mB_X3 : Cond.instantiable RX3 7 ∈ gw := gw_in 185 (by decide +kernel) (by decide +kernel)
theorem mI_X3_init : Cond.instanceMethod yX3_init ∈ gw := gw_in 187 (by decide +kernel) (by decide +kernel)
theorem mC_X3_init : Cond.code yX3_init cX3_init 1 none ∈ gw := gw_in 188 (by decide +kernel) (by decide +kernel)
theorem mL_X3_3 : Cond.methodLink RX3 3 objectInit ∈ gw := gw_in 189 (by decide +kernel) (by decide +kernel)
theorem mF_X3_9 : Cond.fieldLink RX3 9 "SpeakHall$Minutes" "members" "[I" ∈ gw := gw_in 190 (by decide +kernel) (by decide +kernel)
theorem mF_X3_15 : Cond.fieldLink RX3 15 "SpeakHall$Minutes" "sorts" "[I" ∈ gw := gw_in 191 (by decide +kernel) (by decide +kernel)
theorem mF_X3_18 : Cond.fieldLink RX3 18 "SpeakHall$Minutes" "firstTicks" "[I" ∈ gw := gw_in 192 (by decide +kernel) (by decide +kernel)
theorem mF_X3_21 : Cond.fieldLink RX3 21 "SpeakHall$Minutes" "rightRows" "[I" ∈ gw := gw_in 193 (by decide +kernel) (by decide +kernel)
theorem mF_X3_24 : Cond.fieldLink RX3 24 "SpeakHall$Minutes" "rightTicks" "[I" ∈ gw := gw_in 194 (by decide +kernel) (by decide +kernel)
theorem mF_X3_27 : Cond.fieldLink RX3 27 "SpeakHall$Minutes" "written" "I" ∈ gw := gw_in 195 (by decide +kernel) (by decide +kernel)
theorem mF_X3_31 : Cond.fieldLink RX3 31 "SpeakHall$Minutes" "rights" "I" ∈ gw := gw_in 196 (by decide +kernel) (by decide +kernel)
theorem mA_X8_65 : Cond.classLink RX8 65 RX6 ∈ gw := gw_in 212 (by decide +kernel) (by decide +kernel)
theorem mB_X6 : Cond.instantiable RX6 3 ∈ gw := gw_in 214 (by decide +kernel) (by decide +kernel)
theorem mI_X6_init : Cond.instanceMethod yX6_init ∈ gw := gw_in 216 (by decide +kernel) (by decide +kernel)
theorem mC_X6_init : Cond.code yX6_init cX6_init 1 none ∈ gw := gw_in 217 (by decide +kernel) (by decide +kernel)
theorem mL_X6_3 : Cond.methodLink RX6 3 objectInit ∈ gw := gw_in 218 (by decide +kernel) (by decide +kernel)
theorem mF_X6_9 : Cond.fieldLink RX6 9 "SpeakHall$Sheet" "numbers" "[I" ∈ gw := gw_in 219 (by decide +kernel) (by decide +kernel)
theorem mF_X6_15 : Cond.fieldLink RX6 15 "SpeakHall$Sheet" "bits" "I" ∈ gw := gw_in 220 (by decide +kernel) (by decide +kernel)
theorem mF_X6_19 : Cond.fieldLink RX6 19 "SpeakHall$Sheet" "size" "I" ∈ gw := gw_in 221 (by decide +kernel) (by decide +kernel)
theorem mF_X8_10 : Cond.fieldLink RX8 10 "SpeakHall" "roster" "LSpeakHall$Roster;" ∈ gw := gw_in 229 (by decide +kernel) (by decide +kernel)
theorem mF_X8_21 : Cond.fieldLink RX8 21 "SpeakHall" "standing" "LSpeakHall$Standing;" ∈ gw := gw_in 230 (by decide +kernel) (by decide +kernel)
theorem mF_X8_25 : Cond.fieldLink RX8 25 "SpeakHall" "supposed" "LSpeakHall$Standing;" ∈ gw := gw_in 231 (by decide +kernel) (by decide +kernel)
theorem mF_X8_31 : Cond.fieldLink RX8 31 "SpeakHall" "rule" "LSpeakHall$Rule;" ∈ gw := gw_in 232 (by decide +kernel) (by decide +kernel)
theorem mF_X8_40 : Cond.fieldLink RX8 40 "SpeakHall" "list" "LSpeakHall$Listing;" ∈ gw := gw_in 233 (by decide +kernel) (by decide +kernel)
theorem mF_X8_47 : Cond.fieldLink RX8 47 "SpeakHall" "floor" "LSpeakHall$Floor;" ∈ gw := gw_in 234 (by decide +kernel) (by decide +kernel)
theorem mF_X8_54 : Cond.fieldLink RX8 54 "SpeakHall" "ballot" "LSpeakHall$Ballot;" ∈ gw := gw_in 235 (by decide +kernel) (by decide +kernel)
theorem mF_X8_61 : Cond.fieldLink RX8 61 "SpeakHall" "minutes" "LSpeakHall$Minutes;" ∈ gw := gw_in 236 (by decide +kernel) (by decide +kernel)
theorem mF_X8_67 : Cond.fieldLink RX8 67 "SpeakHall" "sheets" "[LSpeakHall$Sheet;" ∈ gw := gw_in 237 (by decide +kernel) (by decide +kernel)
theorem mF_X8_72 : Cond.fieldLink RX8 72 "SpeakHall" "findings" "I" ∈ gw := gw_in 238 (by decide +kernel) (by decide +kernel)
theorem mL_L_13 : Cond.methodLink RL 13 yX8_member ∈ gw := gw_in 260 (by decide +kernel) (by decide +kernel)
theorem mI_X8_member : Cond.instanceMethod yX8_member ∈ gw := gw_in 261 (by decide +kernel) (by decide +kernel)
theorem mS_X8_member : Cond.selects RX8 yX8_member yX8_member ∈ gw := gw_in 262 (by decide +kernel) (by decide +kernel)
theorem mC_X8_member : Cond.code yX8_member cX8_member 3 (some .int) ∈ gw := gw_in 263 (by decide +kernel) (by decide +kernel)
theorem mL_X8_76 : Cond.methodLink RX8 76 yX8_isWithin ∈ gw := gw_in 264 (by decide +kernel) (by decide +kernel)
theorem mT_X8_isWithin : Cond.static yX8_isWithin ∈ gw := gw_in 265 (by decide +kernel) (by decide +kernel)
theorem mC_X8_isWithin : Cond.code yX8_isWithin cX8_isWithin 3 (some .boolean) ∈ gw := gw_in 266 (by decide +kernel) (by decide +kernel)
theorem mK_X8_80 : Cond.constant RX8 80 (-100001) ∈ gw := gw_in 267 (by decide +kernel) (by decide +kernel)
theorem mL_X8_81 : Cond.methodLink RX8 81 yX8_finding ∈ gw := gw_in 268 (by decide +kernel) (by decide +kernel)
theorem mI_X8_finding : Cond.instanceMethod yX8_finding ∈ gw := gw_in 270 (by decide +kernel) (by decide +kernel)
theorem mC_X8_finding : Cond.code yX8_finding cX8_finding 2 (some .int) ∈ gw := gw_in 271 (by decide +kernel) (by decide +kernel)
theorem mL_X8_85 : Cond.methodLink RX8 85 yX4_size ∈ gw := gw_in 272 (by decide +kernel) (by decide +kernel)
theorem mI_X4_size : Cond.instanceMethod yX4_size ∈ gw := gw_in 273 (by decide +kernel) (by decide +kernel)
theorem mS_X4_size : Cond.selects RX4 yX4_size yX4_size ∈ gw := gw_in 274 (by decide +kernel) (by decide +kernel)
theorem mC_X4_size : Cond.code yX4_size cX4_size 1 (some .int) ∈ gw := gw_in 275 (by decide +kernel) (by decide +kernel)
theorem mK_X8_89 : Cond.constant RX8 89 (-100005) ∈ gw := gw_in 276 (by decide +kernel) (by decide +kernel)
theorem mL_X8_90 : Cond.methodLink RX8 90 yX4_enter ∈ gw := gw_in 277 (by decide +kernel) (by decide +kernel)
theorem mI_X4_enter : Cond.instanceMethod yX4_enter ∈ gw := gw_in 278 (by decide +kernel) (by decide +kernel)
theorem mS_X4_enter : Cond.selects RX4 yX4_enter yX4_enter ∈ gw := gw_in 279 (by decide +kernel) (by decide +kernel)
theorem mC_X4_enter : Cond.code yX4_enter cX4_enter 4 (some .int) ∈ gw := gw_in 280 (by decide +kernel) (by decide +kernel)
theorem mT_X8_set : Cond.static yX8_set ∈ gw := gw_in 282 (by decide +kernel) (by decide +kernel)
theorem mC_X8_set : Cond.code yX8_set cX8_set 3 none ∈ gw := gw_in 283 (by decide +kernel) (by decide +kernel)
theorem mL_X4_30 : Cond.methodLink RX4 30 yX4_setHere ∈ gw := gw_in 284 (by decide +kernel) (by decide +kernel)
theorem mI_X4_setHere : Cond.instanceMethod yX4_setHere ∈ gw := gw_in 285 (by decide +kernel) (by decide +kernel)
theorem mS_X4_setHere : Cond.selects RX4 yX4_setHere yX4_setHere ∈ gw := gw_in 286 (by decide +kernel) (by decide +kernel)
theorem mC_X4_setHere : Cond.code yX4_setHere cX4_setHere 3 none ∈ gw := gw_in 287 (by decide +kernel) (by decide +kernel)
theorem mL_L_18 : Cond.methodLink RL 18 yX8_as ∈ gw := gw_in 288 (by decide +kernel) (by decide +kernel)
theorem mI_X8_as : Cond.instanceMethod yX8_as ∈ gw := gw_in 289 (by decide +kernel) (by decide +kernel)
theorem mS_X8_as : Cond.selects RX8 yX8_as yX8_as ∈ gw := gw_in 290 (by decide +kernel) (by decide +kernel)
theorem mC_X8_as : Cond.code yX8_as cX8_as 3 (some .int) ∈ gw := gw_in 291 (by decide +kernel) (by decide +kernel)
theorem mL_X8_94 : Cond.methodLink RX8 94 yX4_has ∈ gw := gw_in 292 (by decide +kernel) (by decide +kernel)
theorem mI_X4_has : Cond.instanceMethod yX4_has ∈ gw := gw_in 293 (by decide +kernel) (by decide +kernel)
theorem mS_X4_has : Cond.selects RX4 yX4_has yX4_has ∈ gw := gw_in 294 (by decide +kernel) (by decide +kernel)
theorem mC_X4_has : Cond.code yX4_has cX4_has 2 (some .boolean) ∈ gw := gw_in 295 (by decide +kernel) (by decide +kernel)
theorem mL_X8_98 : Cond.methodLink RX8 98 yX4_isOfKind ∈ gw := gw_in 296 (by decide +kernel) (by decide +kernel)
theorem mI_X4_isOfKind : Cond.instanceMethod yX4_isOfKind ∈ gw := gw_in 297 (by decide +kernel) (by decide +kernel)
theorem mS_X4_isOfKind : Cond.selects RX4 yX4_isOfKind yX4_isOfKind ∈ gw := gw_in 298 (by decide +kernel) (by decide +kernel)
theorem mC_X4_isOfKind : Cond.code yX4_isOfKind cX4_isOfKind 5 (some .boolean) ∈ gw := gw_in 299 (by decide +kernel) (by decide +kernel)
theorem mT_X8_at : Cond.static yX8_at ∈ gw := gw_in 301 (by decide +kernel) (by decide +kernel)
theorem mC_X8_at : Cond.code yX8_at cX8_at 2 (some .int) ∈ gw := gw_in 302 (by decide +kernel) (by decide +kernel)
theorem mF_X4_38 : Cond.fieldLink RX4 38 "SpeakHall$Roster" "KIND_ABOVE" "[I" ∈ gw := gw_in 303 (by decide +kernel) (by decide +kernel)
theorem mK_X8_102 : Cond.constant RX8 102 (-100004) ∈ gw := gw_in 305 (by decide +kernel) (by decide +kernel)
theorem mL_L_22 : Cond.methodLink RL 22 yX8_present ∈ gw := gw_in 306 (by decide +kernel) (by decide +kernel)
theorem mI_X8_present : Cond.instanceMethod yX8_present ∈ gw := gw_in 307 (by decide +kernel) (by decide +kernel)
theorem mS_X8_present : Cond.selects RX8 yX8_present yX8_present ∈ gw := gw_in 308 (by decide +kernel) (by decide +kernel)
theorem mC_X8_present : Cond.code yX8_present cX8_present 3 (some .int) ∈ gw := gw_in 309 (by decide +kernel) (by decide +kernel)
theorem mL_X8_103 : Cond.methodLink RX8 103 yX4_isHere ∈ gw := gw_in 310 (by decide +kernel) (by decide +kernel)
theorem mI_X4_isHere : Cond.instanceMethod yX4_isHere ∈ gw := gw_in 311 (by decide +kernel) (by decide +kernel)
theorem mS_X4_isHere : Cond.selects RX4 yX4_isHere yX4_isHere ∈ gw := gw_in 312 (by decide +kernel) (by decide +kernel)
theorem mC_X4_isHere : Cond.code yX4_isHere cX4_isHere 2 (some .boolean) ∈ gw := gw_in 313 (by decide +kernel) (by decide +kernel)
theorem mL_X8_106 : Cond.methodLink RX8 106 yX4_setHere ∈ gw := gw_in 314 (by decide +kernel) (by decide +kernel)
theorem mL_L_27 : Cond.methodLink RL 27 yX8_of ∈ gw := gw_in 315 (by decide +kernel) (by decide +kernel)
theorem mI_X8_of : Cond.instanceMethod yX8_of ∈ gw := gw_in 316 (by decide +kernel) (by decide +kernel)
theorem mS_X8_of : Cond.selects RX8 yX8_of yX8_of ∈ gw := gw_in 317 (by decide +kernel) (by decide +kernel)
theorem mC_X8_of : Cond.code yX8_of cX8_of 3 (some .int) ∈ gw := gw_in 318 (by decide +kernel) (by decide +kernel)
theorem mL_X8_110 : Cond.methodLink RX8 110 yX4_kindOf ∈ gw := gw_in 319 (by decide +kernel) (by decide +kernel)
theorem mI_X4_kindOf : Cond.instanceMethod yX4_kindOf ∈ gw := gw_in 320 (by decide +kernel) (by decide +kernel)
theorem mS_X4_kindOf : Cond.selects RX4 yX4_kindOf yX4_kindOf ∈ gw := gw_in 321 (by decide +kernel) (by decide +kernel)
theorem mC_X4_kindOf : Cond.code yX4_kindOf cX4_kindOf 2 (some .int) ∈ gw := gw_in 322 (by decide +kernel) (by decide +kernel)
theorem mL_X8_113 : Cond.methodLink RX8 113 yX4_delegationOf ∈ gw := gw_in 323 (by decide +kernel) (by decide +kernel)
theorem mI_X4_delegationOf : Cond.instanceMethod yX4_delegationOf ∈ gw := gw_in 324 (by decide +kernel) (by decide +kernel)
theorem mS_X4_delegationOf : Cond.selects RX4 yX4_delegationOf yX4_delegationOf ∈ gw := gw_in 325 (by decide +kernel) (by decide +kernel)
theorem mC_X4_delegationOf : Cond.code yX4_delegationOf cX4_delegationOf 2 (some .int) ∈ gw := gw_in 326 (by decide +kernel) (by decide +kernel)
theorem mL_X8_116 : Cond.methodLink RX8 116 yX7_timeOf ∈ gw := gw_in 327 (by decide +kernel) (by decide +kernel)
theorem mI_X7_timeOf : Cond.instanceMethod yX7_timeOf ∈ gw := gw_in 328 (by decide +kernel) (by decide +kernel)
theorem mS_X7_timeOf : Cond.selects RX7 yX7_timeOf yX7_timeOf ∈ gw := gw_in 329 (by decide +kernel) (by decide +kernel)
theorem mC_X7_timeOf : Cond.code yX7_timeOf cX7_timeOf 2 (some .int) ∈ gw := gw_in 330 (by decide +kernel) (by decide +kernel)
theorem mL_X8_119 : Cond.methodLink RX8 119 yX7_speechesOf ∈ gw := gw_in 332 (by decide +kernel) (by decide +kernel)
theorem mI_X7_speechesOf : Cond.instanceMethod yX7_speechesOf ∈ gw := gw_in 333 (by decide +kernel) (by decide +kernel)
theorem mS_X7_speechesOf : Cond.selects RX7 yX7_speechesOf yX7_speechesOf ∈ gw := gw_in 334 (by decide +kernel) (by decide +kernel)
theorem mC_X7_speechesOf : Cond.code yX7_speechesOf cX7_speechesOf 2 (some .int) ∈ gw := gw_in 335 (by decide +kernel) (by decide +kernel)
theorem mL_L_31 : Cond.methodLink RL 31 yX8_time ∈ gw := gw_in 336 (by decide +kernel) (by decide +kernel)
theorem mI_X8_time : Cond.instanceMethod yX8_time ∈ gw := gw_in 337 (by decide +kernel) (by decide +kernel)
theorem mS_X8_time : Cond.selects RX8 yX8_time yX8_time ∈ gw := gw_in 338 (by decide +kernel) (by decide +kernel)
theorem mC_X8_time : Cond.code yX8_time cX8_time 2 (some .int) ∈ gw := gw_in 339 (by decide +kernel) (by decide +kernel)
theorem mL_X8_122 : Cond.methodLink RX8 122 yX7_delegationTime ∈ gw := gw_in 340 (by decide +kernel) (by decide +kernel)
theorem mI_X7_delegationTime : Cond.instanceMethod yX7_delegationTime ∈ gw := gw_in 341 (by decide +kernel) (by decide +kernel)
theorem mS_X7_delegationTime : Cond.selects RX7 yX7_delegationTime yX7_delegationTime ∈ gw := gw_in 342 (by decide +kernel) (by decide +kernel)
theorem mC_X7_delegationTime : Cond.code yX7_delegationTime cX7_delegationTime 2 (some .int) ∈ gw := gw_in 343 (by decide +kernel) (by decide +kernel)
theorem mL_L_36 : Cond.methodLink RL 36 yX8_ask ∈ gw := gw_in 344 (by decide +kernel) (by decide +kernel)
theorem mI_X8_ask : Cond.instanceMethod yX8_ask ∈ gw := gw_in 345 (by decide +kernel) (by decide +kernel)
theorem mS_X8_ask : Cond.selects RX8 yX8_ask yX8_ask ∈ gw := gw_in 346 (by decide +kernel) (by decide +kernel)
theorem mC_X8_ask : Cond.code yX8_ask cX8_ask 3 (some .int) ∈ gw := gw_in 347 (by decide +kernel) (by decide +kernel)
theorem mL_X8_125 : Cond.methodLink RX8 125 yX8_isAsking ∈ gw := gw_in 348 (by decide +kernel) (by decide +kernel)
theorem mI_X8_isAsking : Cond.instanceMethod yX8_isAsking ∈ gw := gw_in 350 (by decide +kernel) (by decide +kernel)
theorem mC_X8_isAsking : Cond.code yX8_isAsking cX8_isAsking 3 (some .boolean) ∈ gw := gw_in 351 (by decide +kernel) (by decide +kernel)
theorem mL_X8_128 : Cond.methodLink RX8 128 yX7_find ∈ gw := gw_in 352 (by decide +kernel) (by decide +kernel)
theorem mI_X7_find : Cond.instanceMethod yX7_find ∈ gw := gw_in 353 (by decide +kernel) (by decide +kernel)
theorem mS_X7_find : Cond.selects RX7 yX7_find yX7_find ∈ gw := gw_in 354 (by decide +kernel) (by decide +kernel)
theorem mC_X7_find : Cond.code yX7_find cX7_find 4 (some .int) ∈ gw := gw_in 355 (by decide +kernel) (by decide +kernel)
theorem mL_X7_46 : Cond.methodLink RX7 46 yX7_memberAt ∈ gw := gw_in 356 (by decide +kernel) (by decide +kernel)
theorem mI_X7_memberAt : Cond.instanceMethod yX7_memberAt ∈ gw := gw_in 357 (by decide +kernel) (by decide +kernel)
theorem mS_X7_memberAt : Cond.selects RX7 yX7_memberAt yX7_memberAt ∈ gw := gw_in 358 (by decide +kernel) (by decide +kernel)
theorem mC_X7_memberAt : Cond.code yX7_memberAt cX7_memberAt 2 (some .int) ∈ gw := gw_in 359 (by decide +kernel) (by decide +kernel)
theorem mL_X7_50 : Cond.methodLink RX7 50 yX7_sortAt ∈ gw := gw_in 360 (by decide +kernel) (by decide +kernel)
theorem mI_X7_sortAt : Cond.instanceMethod yX7_sortAt ∈ gw := gw_in 361 (by decide +kernel) (by decide +kernel)
theorem mS_X7_sortAt : Cond.selects RX7 yX7_sortAt yX7_sortAt ∈ gw := gw_in 362 (by decide +kernel) (by decide +kernel)
theorem mC_X7_sortAt : Cond.code yX7_sortAt cX7_sortAt 2 (some .int) ∈ gw := gw_in 363 (by decide +kernel) (by decide +kernel)
theorem mK_X8_131 : Cond.constant RX8 131 (-100003) ∈ gw := gw_in 364 (by decide +kernel) (by decide +kernel)
theorem mL_X8_132 : Cond.methodLink RX8 132 yX7_size ∈ gw := gw_in 365 (by decide +kernel) (by decide +kernel)
theorem mI_X7_size : Cond.instanceMethod yX7_size ∈ gw := gw_in 366 (by decide +kernel) (by decide +kernel)
theorem mS_X7_size : Cond.selects RX7 yX7_size yX7_size ∈ gw := gw_in 367 (by decide +kernel) (by decide +kernel)
theorem mC_X7_size : Cond.code yX7_size cX7_size 1 (some .int) ∈ gw := gw_in 368 (by decide +kernel) (by decide +kernel)
theorem mL_X8_133 : Cond.methodLink RX8 133 yX7_append ∈ gw := gw_in 369 (by decide +kernel) (by decide +kernel)
theorem mI_X7_append : Cond.instanceMethod yX7_append ∈ gw := gw_in 370 (by decide +kernel) (by decide +kernel)
theorem mS_X7_append : Cond.selects RX7 yX7_append yX7_append ∈ gw := gw_in 371 (by decide +kernel) (by decide +kernel)
theorem mC_X7_append : Cond.code yX7_append cX7_append 3 none ∈ gw := gw_in 372 (by decide +kernel) (by decide +kernel)
theorem mL_L_40 : Cond.methodLink RL 40 yX8_withdraw ∈ gw := gw_in 374 (by decide +kernel) (by decide +kernel)
theorem mI_X8_withdraw : Cond.instanceMethod yX8_withdraw ∈ gw := gw_in 375 (by decide +kernel) (by decide +kernel)
theorem mS_X8_withdraw : Cond.selects RX8 yX8_withdraw yX8_withdraw ∈ gw := gw_in 376 (by decide +kernel) (by decide +kernel)
theorem mC_X8_withdraw : Cond.code yX8_withdraw cX8_withdraw 4 (some .int) ∈ gw := gw_in 377 (by decide +kernel) (by decide +kernel)
theorem mK_X8_137 : Cond.constant RX8 137 (-100006) ∈ gw := gw_in 378 (by decide +kernel) (by decide +kernel)
theorem mL_X8_138 : Cond.methodLink RX8 138 yX7_drop ∈ gw := gw_in 379 (by decide +kernel) (by decide +kernel)
theorem mI_X7_drop : Cond.instanceMethod yX7_drop ∈ gw := gw_in 380 (by decide +kernel) (by decide +kernel)
theorem mS_X7_drop : Cond.selects RX7 yX7_drop yX7_drop ∈ gw := gw_in 381 (by decide +kernel) (by decide +kernel)
theorem mC_X7_drop : Cond.code yX7_drop cX7_drop 3 none ∈ gw := gw_in 382 (by decide +kernel) (by decide +kernel)
theorem mL_L_44 : Cond.methodLink RL 44 yX8_key ∈ gw := gw_in 383 (by decide +kernel) (by decide +kernel)
theorem mI_X8_key : Cond.instanceMethod yX8_key ∈ gw := gw_in 384 (by decide +kernel) (by decide +kernel)
theorem mS_X8_key : Cond.selects RX8 yX8_key yX8_key ∈ gw := gw_in 385 (by decide +kernel) (by decide +kernel)
theorem mC_X8_key : Cond.code yX8_key cX8_key 2 (some .int) ∈ gw := gw_in 386 (by decide +kernel) (by decide +kernel)
theorem mL_X8_142 : Cond.methodLink RX8 142 yX8_isKey ∈ gw := gw_in 387 (by decide +kernel) (by decide +kernel)
theorem mT_X8_isKey : Cond.static yX8_isKey ∈ gw := gw_in 388 (by decide +kernel) (by decide +kernel)
theorem mC_X8_isKey : Cond.code yX8_isKey cX8_isKey 1 (some .boolean) ∈ gw := gw_in 389 (by decide +kernel) (by decide +kernel)
theorem mL_X8_145 : Cond.methodLink RX8 145 yX5_has ∈ gw := gw_in 390 (by decide +kernel) (by decide +kernel)
theorem mI_X5_has : Cond.instanceMethod yX5_has ∈ gw := gw_in 391 (by decide +kernel) (by decide +kernel)
theorem mS_X5_has : Cond.selects RX5 yX5_has yX5_has ∈ gw := gw_in 392 (by decide +kernel) (by decide +kernel)
theorem mC_X5_has : Cond.code yX5_has cX5_has 3 (some .boolean) ∈ gw := gw_in 393 (by decide +kernel) (by decide +kernel)
theorem mL_X8_146 : Cond.methodLink RX8 146 yX5_size ∈ gw := gw_in 395 (by decide +kernel) (by decide +kernel)
theorem mI_X5_size : Cond.instanceMethod yX5_size ∈ gw := gw_in 396 (by decide +kernel) (by decide +kernel)
theorem mS_X5_size : Cond.selects RX5 yX5_size yX5_size ∈ gw := gw_in 397 (by decide +kernel) (by decide +kernel)
theorem mC_X5_size : Cond.code yX5_size cX5_size 1 (some .int) ∈ gw := gw_in 398 (by decide +kernel) (by decide +kernel)
theorem mL_X8_147 : Cond.methodLink RX8 147 yX5_append ∈ gw := gw_in 399 (by decide +kernel) (by decide +kernel)
theorem mI_X5_append : Cond.instanceMethod yX5_append ∈ gw := gw_in 400 (by decide +kernel) (by decide +kernel)
theorem mS_X5_append : Cond.selects RX5 yX5_append yX5_append ∈ gw := gw_in 401 (by decide +kernel) (by decide +kernel)
theorem mC_X5_append : Cond.code yX5_append cX5_append 2 none ∈ gw := gw_in 402 (by decide +kernel) (by decide +kernel)
theorem mL_L_48 : Cond.methodLink RL 48 yX8_noKeys ∈ gw := gw_in 404 (by decide +kernel) (by decide +kernel)
theorem mI_X8_noKeys : Cond.instanceMethod yX8_noKeys ∈ gw := gw_in 405 (by decide +kernel) (by decide +kernel)
theorem mS_X8_noKeys : Cond.selects RX8 yX8_noKeys yX8_noKeys ∈ gw := gw_in 406 (by decide +kernel) (by decide +kernel)
theorem mC_X8_noKeys : Cond.code yX8_noKeys cX8_noKeys 2 (some .int) ∈ gw := gw_in 407 (by decide +kernel) (by decide +kernel)
theorem mL_X8_149 : Cond.methodLink RX8 149 yX5_clear ∈ gw := gw_in 408 (by decide +kernel) (by decide +kernel)
theorem mI_X5_clear : Cond.instanceMethod yX5_clear ∈ gw := gw_in 409 (by decide +kernel) (by decide +kernel)
theorem mS_X5_clear : Cond.selects RX5 yX5_clear yX5_clear ∈ gw := gw_in 410 (by decide +kernel) (by decide +kernel)
theorem mC_X5_clear : Cond.code yX5_clear cX5_clear 1 none ∈ gw := gw_in 411 (by decide +kernel) (by decide +kernel)
theorem mL_L_53 : Cond.methodLink RL 53 yX8_listed ∈ gw := gw_in 412 (by decide +kernel) (by decide +kernel)
theorem mI_X8_listed : Cond.instanceMethod yX8_listed ∈ gw := gw_in 413 (by decide +kernel) (by decide +kernel)
theorem mS_X8_listed : Cond.selects RX8 yX8_listed yX8_listed ∈ gw := gw_in 414 (by decide +kernel) (by decide +kernel)
theorem mC_X8_listed : Cond.code yX8_listed cX8_listed 4 (some .int) ∈ gw := gw_in 415 (by decide +kernel) (by decide +kernel)
theorem mL_X8_152 : Cond.methodLink RX8 152 yX2_lay ∈ gw := gw_in 416 (by decide +kernel) (by decide +kernel)
theorem mI_X2_lay : Cond.instanceMethod yX2_lay ∈ gw := gw_in 417 (by decide +kernel) (by decide +kernel)
theorem mS_X2_lay : Cond.selects RX2 yX2_lay yX2_lay ∈ gw := gw_in 418 (by decide +kernel) (by decide +kernel)
theorem mC_X2_lay : Cond.code yX2_lay cX2_lay 3 none ∈ gw := gw_in 419 (by decide +kernel) (by decide +kernel)
theorem mL_X2_39 : Cond.methodLink RX2 39 yX7_size ∈ gw := gw_in 420 (by decide +kernel) (by decide +kernel)
theorem mL_X2_44 : Cond.methodLink RX2 44 yX7_memberAt ∈ gw := gw_in 421 (by decide +kernel) (by decide +kernel)
theorem mL_X2_47 : Cond.methodLink RX2 47 yX4_isHere ∈ gw := gw_in 422 (by decide +kernel) (by decide +kernel)
theorem mL_X2_35 : Cond.methodLink RX2 35 yX2_askingAt ∈ gw := gw_in 423 (by decide +kernel) (by decide +kernel)
theorem mI_X2_askingAt : Cond.instanceMethod yX2_askingAt ∈ gw := gw_in 424 (by decide +kernel) (by decide +kernel)
theorem mS_X2_askingAt : Cond.selects RX2 yX2_askingAt yX2_askingAt ∈ gw := gw_in 425 (by decide +kernel) (by decide +kernel)
theorem mC_X2_askingAt : Cond.code yX2_askingAt cX2_askingAt 2 (some .int) ∈ gw := gw_in 426 (by decide +kernel) (by decide +kernel)
theorem mL_X2_53 : Cond.methodLink RX2 53 yX5_isAhead ∈ gw := gw_in 428 (by decide +kernel) (by decide +kernel)
theorem mI_X5_isAhead : Cond.instanceMethod yX5_isAhead ∈ gw := gw_in 429 (by decide +kernel) (by decide +kernel)
theorem mS_X5_isAhead : Cond.selects RX5 yX5_isAhead yX5_isAhead ∈ gw := gw_in 430 (by decide +kernel) (by decide +kernel)
theorem mC_X5_isAhead : Cond.code yX5_isAhead cX5_isAhead 8 (some .boolean) ∈ gw := gw_in 431 (by decide +kernel) (by decide +kernel)
theorem mL_X5_53 : Cond.methodLink RX5 53 yX5_rankBy ∈ gw := gw_in 432 (by decide +kernel) (by decide +kernel)
theorem mI_X5_rankBy : Cond.instanceMethod yX5_rankBy ∈ gw := gw_in 434 (by decide +kernel) (by decide +kernel)
theorem mC_X5_rankBy : Cond.code yX5_rankBy cX5_rankBy 5 (some .int) ∈ gw := gw_in 435 (by decide +kernel) (by decide +kernel)
theorem mL_X5_40 : Cond.methodLink RX5 40 yX7_memberAt ∈ gw := gw_in 436 (by decide +kernel) (by decide +kernel)
theorem mL_X5_36 : Cond.methodLink RX5 36 yX7_sortAt ∈ gw := gw_in 437 (by decide +kernel) (by decide +kernel)
theorem mL_X5_57 : Cond.methodLink RX5 57 yX7_speechesOf ∈ gw := gw_in 438 (by decide +kernel) (by decide +kernel)
theorem mL_X5_60 : Cond.methodLink RX5 60 yX7_timeOf ∈ gw := gw_in 439 (by decide +kernel) (by decide +kernel)
theorem mL_X5_63 : Cond.methodLink RX5 63 yX4_delegationOf ∈ gw := gw_in 440 (by decide +kernel) (by decide +kernel)
theorem mL_X5_66 : Cond.methodLink RX5 66 yX7_delegationTime ∈ gw := gw_in 441 (by decide +kernel) (by decide +kernel)
theorem mL_X5_69 : Cond.methodLink RX5 69 yX7_latestDelegation ∈ gw := gw_in 442 (by decide +kernel) (by decide +kernel)
theorem mI_X7_latestDelegation : Cond.instanceMethod yX7_latestDelegation ∈ gw := gw_in 443 (by decide +kernel) (by decide +kernel)
theorem mS_X7_latestDelegation : Cond.selects RX7 yX7_latestDelegation yX7_latestDelegation ∈ gw := gw_in 444 (by decide +kernel) (by decide +kernel)
theorem mC_X7_latestDelegation : Cond.code yX7_latestDelegation cX7_latestDelegation 1 (some .int) ∈ gw := gw_in 445 (by decide +kernel) (by decide +kernel)
theorem mL_X5_72 : Cond.methodLink RX5 72 yX4_isOfKind ∈ gw := gw_in 446 (by decide +kernel) (by decide +kernel)
theorem mL_X8_155 : Cond.methodLink RX8 155 yX2_size ∈ gw := gw_in 448 (by decide +kernel) (by decide +kernel)
theorem mI_X2_size : Cond.instanceMethod yX2_size ∈ gw := gw_in 449 (by decide +kernel) (by decide +kernel)
theorem mS_X2_size : Cond.selects RX2 yX2_size yX2_size ∈ gw := gw_in 450 (by decide +kernel) (by decide +kernel)
theorem mC_X2_size : Cond.code yX2_size cX2_size 1 (some .int) ∈ gw := gw_in 451 (by decide +kernel) (by decide +kernel)
theorem mL_X8_156 : Cond.methodLink RX8 156 yX2_askingAt ∈ gw := gw_in 452 (by decide +kernel) (by decide +kernel)
theorem mL_X8_159 : Cond.methodLink RX8 159 yX7_sortAt ∈ gw := gw_in 453 (by decide +kernel) (by decide +kernel)
theorem mL_X8_162 : Cond.methodLink RX8 162 yX7_memberAt ∈ gw := gw_in 454 (by decide +kernel) (by decide +kernel)
theorem mL_L_57 : Cond.methodLink RL 57 yX8_place ∈ gw := gw_in 455 (by decide +kernel) (by decide +kernel)
theorem mI_X8_place : Cond.instanceMethod yX8_place ∈ gw := gw_in 456 (by decide +kernel) (by decide +kernel)
theorem mS_X8_place : Cond.selects RX8 yX8_place yX8_place ∈ gw := gw_in 457 (by decide +kernel) (by decide +kernel)
theorem mC_X8_place : Cond.code yX8_place cX8_place 4 (some .int) ∈ gw := gw_in 458 (by decide +kernel) (by decide +kernel)
theorem mL_X8_165 : Cond.methodLink RX8 165 yX2_placeOf ∈ gw := gw_in 459 (by decide +kernel) (by decide +kernel)
theorem mI_X2_placeOf : Cond.instanceMethod yX2_placeOf ∈ gw := gw_in 460 (by decide +kernel) (by decide +kernel)
theorem mS_X2_placeOf : Cond.selects RX2 yX2_placeOf yX2_placeOf ∈ gw := gw_in 461 (by decide +kernel) (by decide +kernel)
theorem mC_X2_placeOf : Cond.code yX2_placeOf cX2_placeOf 3 (some .int) ∈ gw := gw_in 462 (by decide +kernel) (by decide +kernel)
theorem mL_L_61 : Cond.methodLink RL 61 yX8_wait ∈ gw := gw_in 463 (by decide +kernel) (by decide +kernel)
theorem mI_X8_wait : Cond.instanceMethod yX8_wait ∈ gw := gw_in 464 (by decide +kernel) (by decide +kernel)
theorem mS_X8_wait : Cond.selects RX8 yX8_wait yX8_wait ∈ gw := gw_in 465 (by decide +kernel) (by decide +kernel)
theorem mC_X8_wait : Cond.code yX8_wait cX8_wait 5 (some .int) ∈ gw := gw_in 466 (by decide +kernel) (by decide +kernel)
theorem mL_X8_168 : Cond.methodLink RX8 168 yX7_become ∈ gw := gw_in 467 (by decide +kernel) (by decide +kernel)
theorem mI_X7_become : Cond.instanceMethod yX7_become ∈ gw := gw_in 468 (by decide +kernel) (by decide +kernel)
theorem mS_X7_become : Cond.selects RX7 yX7_become yX7_become ∈ gw := gw_in 469 (by decide +kernel) (by decide +kernel)
theorem mC_X7_become : Cond.code yX7_become cX7_become 2 none ∈ gw := gw_in 470 (by decide +kernel) (by decide +kernel)
theorem mL_X7_38 : Cond.methodLink RX7 38 yX7_refill ∈ gw := gw_in 471 (by decide +kernel) (by decide +kernel)
theorem mT_X7_refill : Cond.static yX7_refill ∈ gw := gw_in 472 (by decide +kernel) (by decide +kernel)
theorem mC_X7_refill : Cond.code yX7_refill cX7_refill 3 none ∈ gw := gw_in 473 (by decide +kernel) (by decide +kernel)
theorem mL_X8_172 : Cond.methodLink RX8 172 yX5_firstOf ∈ gw := gw_in 474 (by decide +kernel) (by decide +kernel)
theorem mI_X5_firstOf : Cond.instanceMethod yX5_firstOf ∈ gw := gw_in 475 (by decide +kernel) (by decide +kernel)
theorem mS_X5_firstOf : Cond.selects RX5 yX5_firstOf yX5_firstOf ∈ gw := gw_in 476 (by decide +kernel) (by decide +kernel)
theorem mC_X5_firstOf : Cond.code yX5_firstOf cX5_firstOf 6 (some .int) ∈ gw := gw_in 477 (by decide +kernel) (by decide +kernel)
theorem mL_X5_31 : Cond.methodLink RX5 31 yX7_size ∈ gw := gw_in 478 (by decide +kernel) (by decide +kernel)
theorem mL_X5_43 : Cond.methodLink RX5 43 yX4_isHere ∈ gw := gw_in 479 (by decide +kernel) (by decide +kernel)
theorem mL_X5_49 : Cond.methodLink RX5 49 yX5_isAhead ∈ gw := gw_in 480 (by decide +kernel) (by decide +kernel)
theorem mL_X8_176 : Cond.methodLink RX8 176 yX7_take ∈ gw := gw_in 481 (by decide +kernel) (by decide +kernel)
theorem mI_X7_take : Cond.instanceMethod yX7_take ∈ gw := gw_in 482 (by decide +kernel) (by decide +kernel)
theorem mS_X7_take : Cond.selects RX7 yX7_take yX7_take ∈ gw := gw_in 483 (by decide +kernel) (by decide +kernel)
theorem mC_X7_take : Cond.code yX7_take cX7_take 3 none ∈ gw := gw_in 484 (by decide +kernel) (by decide +kernel)
theorem mL_X7_57 : Cond.methodLink RX7 57 yX7_speechesOf ∈ gw := gw_in 485 (by decide +kernel) (by decide +kernel)
theorem mL_X7_60 : Cond.methodLink RX7 60 yX4_delegationOf ∈ gw := gw_in 486 (by decide +kernel) (by decide +kernel)
theorem mL_X7_65 : Cond.methodLink RX7 65 yX7_drop ∈ gw := gw_in 487 (by decide +kernel) (by decide +kernel)
theorem mL_X8_179 : Cond.methodLink RX8 179 yX8_ticksFor ∈ gw := gw_in 488 (by decide +kernel) (by decide +kernel)
theorem mI_X8_ticksFor : Cond.instanceMethod yX8_ticksFor ∈ gw := gw_in 490 (by decide +kernel) (by decide +kernel)
theorem mC_X8_ticksFor : Cond.code yX8_ticksFor cX8_ticksFor 4 (some .int) ∈ gw := gw_in 491 (by decide +kernel) (by decide +kernel)
theorem mL_X8_212 : Cond.methodLink RX8 212 yX1_limitOf ∈ gw := gw_in 492 (by decide +kernel) (by decide +kernel)
theorem mI_X1_limitOf : Cond.instanceMethod yX1_limitOf ∈ gw := gw_in 493 (by decide +kernel) (by decide +kernel)
theorem mS_X1_limitOf : Cond.selects RX1 yX1_limitOf yX1_limitOf ∈ gw := gw_in 494 (by decide +kernel) (by decide +kernel)
theorem mC_X1_limitOf : Cond.code yX1_limitOf cX1_limitOf 2 (some .int) ∈ gw := gw_in 495 (by decide +kernel) (by decide +kernel)
theorem mL_X8_182 : Cond.methodLink RX8 182 yX7_addTime ∈ gw := gw_in 497 (by decide +kernel) (by decide +kernel)
theorem mI_X7_addTime : Cond.instanceMethod yX7_addTime ∈ gw := gw_in 498 (by decide +kernel) (by decide +kernel)
theorem mS_X7_addTime : Cond.selects RX7 yX7_addTime yX7_addTime ∈ gw := gw_in 499 (by decide +kernel) (by decide +kernel)
theorem mC_X7_addTime : Cond.code yX7_addTime cX7_addTime 4 none ∈ gw := gw_in 500 (by decide +kernel) (by decide +kernel)
theorem mL_X7_69 : Cond.methodLink RX7 69 yX7_timeOf ∈ gw := gw_in 501 (by decide +kernel) (by decide +kernel)
theorem mL_X7_72 : Cond.methodLink RX7 72 yX7_delegationTime ∈ gw := gw_in 502 (by decide +kernel) (by decide +kernel)
theorem mK_X8_185 : Cond.constant RX8 185 (-100008) ∈ gw := gw_in 503 (by decide +kernel) (by decide +kernel)
theorem mL_L_65 : Cond.methodLink RL 65 yX8_fits ∈ gw := gw_in 504 (by decide +kernel) (by decide +kernel)
theorem mI_X8_fits : Cond.instanceMethod yX8_fits ∈ gw := gw_in 505 (by decide +kernel) (by decide +kernel)
theorem mS_X8_fits : Cond.selects RX8 yX8_fits yX8_fits ∈ gw := gw_in 506 (by decide +kernel) (by decide +kernel)
theorem mC_X8_fits : Cond.code yX8_fits cX8_fits 8 (some .int) ∈ gw := gw_in 507 (by decide +kernel) (by decide +kernel)
theorem mL_L_69 : Cond.methodLink RL 69 yX8_begin ∈ gw := gw_in 508 (by decide +kernel) (by decide +kernel)
theorem mI_X8_begin : Cond.instanceMethod yX8_begin ∈ gw := gw_in 509 (by decide +kernel) (by decide +kernel)
theorem mS_X8_begin : Cond.selects RX8 yX8_begin yX8_begin ∈ gw := gw_in 510 (by decide +kernel) (by decide +kernel)
theorem mC_X8_begin : Cond.code yX8_begin cX8_begin 2 (some .int) ∈ gw := gw_in 511 (by decide +kernel) (by decide +kernel)
theorem mL_X8_186 : Cond.methodLink RX8 186 yX1_isHeld ∈ gw := gw_in 512 (by decide +kernel) (by decide +kernel)
theorem mI_X1_isHeld : Cond.instanceMethod yX1_isHeld ∈ gw := gw_in 513 (by decide +kernel) (by decide +kernel)
theorem mS_X1_isHeld : Cond.selects RX1 yX1_isHeld yX1_isHeld ∈ gw := gw_in 514 (by decide +kernel) (by decide +kernel)
theorem mC_X1_isHeld : Cond.code yX1_isHeld cX1_isHeld 1 (some .boolean) ∈ gw := gw_in 515 (by decide +kernel) (by decide +kernel)
theorem mK_X8_190 : Cond.constant RX8 190 (-100007) ∈ gw := gw_in 516 (by decide +kernel) (by decide +kernel)
theorem mL_X8_191 : Cond.methodLink RX8 191 yX8_takeFloor ∈ gw := gw_in 517 (by decide +kernel) (by decide +kernel)
theorem mI_X8_takeFloor : Cond.instanceMethod yX8_takeFloor ∈ gw := gw_in 519 (by decide +kernel) (by decide +kernel)
theorem mC_X8_takeFloor : Cond.code yX8_takeFloor cX8_takeFloor 4 (some .int) ∈ gw := gw_in 520 (by decide +kernel) (by decide +kernel)
theorem mL_X8_323 : Cond.methodLink RX8 323 yX1_push ∈ gw := gw_in 521 (by decide +kernel) (by decide +kernel)
theorem mI_X1_push : Cond.instanceMethod yX1_push ∈ gw := gw_in 522 (by decide +kernel) (by decide +kernel)
theorem mS_X1_push : Cond.selects RX1 yX1_push yX1_push ∈ gw := gw_in 523 (by decide +kernel) (by decide +kernel)
theorem mC_X1_push : Cond.code yX1_push cX1_push 4 none ∈ gw := gw_in 524 (by decide +kernel) (by decide +kernel)
theorem mL_L_73 : Cond.methodLink RL 73 yX8_cut ∈ gw := gw_in 526 (by decide +kernel) (by decide +kernel)
theorem mI_X8_cut : Cond.instanceMethod yX8_cut ∈ gw := gw_in 527 (by decide +kernel) (by decide +kernel)
theorem mS_X8_cut : Cond.selects RX8 yX8_cut yX8_cut ∈ gw := gw_in 528 (by decide +kernel) (by decide +kernel)
theorem mC_X8_cut : Cond.code yX8_cut cX8_cut 2 (some .int) ∈ gw := gw_in 529 (by decide +kernel) (by decide +kernel)
theorem mL_X8_194 : Cond.methodLink RX8 194 yX1_behind ∈ gw := gw_in 530 (by decide +kernel) (by decide +kernel)
theorem mI_X1_behind : Cond.instanceMethod yX1_behind ∈ gw := gw_in 531 (by decide +kernel) (by decide +kernel)
theorem mS_X1_behind : Cond.selects RX1 yX1_behind yX1_behind ∈ gw := gw_in 532 (by decide +kernel) (by decide +kernel)
theorem mC_X1_behind : Cond.code yX1_behind cX1_behind 1 (some .int) ∈ gw := gw_in 533 (by decide +kernel) (by decide +kernel)
theorem mL_X1_31 : Cond.methodLink RX1 31 yJ9_max_7cf53 ∈ gw := gw_in 534 (by decide +kernel) (by decide +kernel)
theorem mT_J9_max_7cf53 : Cond.static yJ9_max_7cf53 ∈ gw := gw_in 535 (by decide +kernel) (by decide +kernel)
theorem mC_J9_max_7cf53 : Cond.code yJ9_max_7cf53 cJ9_max_7cf53 2 (some .int) ∈ gw := gw_in 536 (by decide +kernel) (by decide +kernel)
theorem mL_L_77 : Cond.methodLink RL 77 yX8_tick ∈ gw := gw_in 537 (by decide +kernel) (by decide +kernel)
theorem mI_X8_tick : Cond.instanceMethod yX8_tick ∈ gw := gw_in 538 (by decide +kernel) (by decide +kernel)
theorem mS_X8_tick : Cond.selects RX8 yX8_tick yX8_tick ∈ gw := gw_in 539 (by decide +kernel) (by decide +kernel)
theorem mC_X8_tick : Cond.code yX8_tick cX8_tick 4 (some .int) ∈ gw := gw_in 540 (by decide +kernel) (by decide +kernel)
theorem mL_X8_197 : Cond.methodLink RX8 197 yX1_holder ∈ gw := gw_in 541 (by decide +kernel) (by decide +kernel)
theorem mI_X1_holder : Cond.instanceMethod yX1_holder ∈ gw := gw_in 542 (by decide +kernel) (by decide +kernel)
theorem mS_X1_holder : Cond.selects RX1 yX1_holder yX1_holder ∈ gw := gw_in 543 (by decide +kernel) (by decide +kernel)
theorem mC_X1_holder : Cond.code yX1_holder cX1_holder 1 (some .int) ∈ gw := gw_in 544 (by decide +kernel) (by decide +kernel)
theorem mL_X1_37 : Cond.methodLink RX1 37 yX1_isHeld ∈ gw := gw_in 545 (by decide +kernel) (by decide +kernel)
theorem mL_X8_200 : Cond.methodLink RX8 200 yX1_spendTick ∈ gw := gw_in 546 (by decide +kernel) (by decide +kernel)
theorem mI_X1_spendTick : Cond.instanceMethod yX1_spendTick ∈ gw := gw_in 547 (by decide +kernel) (by decide +kernel)
theorem mS_X1_spendTick : Cond.selects RX1 yX1_spendTick yX1_spendTick ∈ gw := gw_in 548 (by decide +kernel) (by decide +kernel)
theorem mC_X1_spendTick : Cond.code yX1_spendTick cX1_spendTick 1 none ∈ gw := gw_in 549 (by decide +kernel) (by decide +kernel)
theorem mL_X1_49 : Cond.methodLink RX1 49 yX1_ticksLeft ∈ gw := gw_in 550 (by decide +kernel) (by decide +kernel)
theorem mI_X1_ticksLeft : Cond.instanceMethod yX1_ticksLeft ∈ gw := gw_in 551 (by decide +kernel) (by decide +kernel)
theorem mS_X1_ticksLeft : Cond.selects RX1 yX1_ticksLeft yX1_ticksLeft ∈ gw := gw_in 552 (by decide +kernel) (by decide +kernel)
theorem mC_X1_ticksLeft : Cond.code yX1_ticksLeft cX1_ticksLeft 1 (some .int) ∈ gw := gw_in 553 (by decide +kernel) (by decide +kernel)
theorem mL_X1_53 : Cond.methodLink RX1 53 yX1_ticksHad ∈ gw := gw_in 554 (by decide +kernel) (by decide +kernel)
theorem mI_X1_ticksHad : Cond.instanceMethod yX1_ticksHad ∈ gw := gw_in 555 (by decide +kernel) (by decide +kernel)
theorem mS_X1_ticksHad : Cond.selects RX1 yX1_ticksHad yX1_ticksHad ∈ gw := gw_in 556 (by decide +kernel) (by decide +kernel)
theorem mC_X1_ticksHad : Cond.code yX1_ticksHad cX1_ticksHad 1 (some .int) ∈ gw := gw_in 557 (by decide +kernel) (by decide +kernel)
theorem mL_X8_203 : Cond.methodLink RX8 203 yX1_ticksLeft ∈ gw := gw_in 558 (by decide +kernel) (by decide +kernel)
theorem mL_X8_206 : Cond.methodLink RX8 206 yX8_endHolding ∈ gw := gw_in 559 (by decide +kernel) (by decide +kernel)
theorem mI_X8_endHolding : Cond.instanceMethod yX8_endHolding ∈ gw := gw_in 561 (by decide +kernel) (by decide +kernel)
theorem mC_X8_endHolding : Cond.code yX8_endHolding cX8_endHolding 1 none ∈ gw := gw_in 562 (by decide +kernel) (by decide +kernel)
theorem mL_X8_209 : Cond.methodLink RX8 209 yX1_sortHeld ∈ gw := gw_in 563 (by decide +kernel) (by decide +kernel)
theorem mI_X1_sortHeld : Cond.instanceMethod yX1_sortHeld ∈ gw := gw_in 564 (by decide +kernel) (by decide +kernel)
theorem mS_X1_sortHeld : Cond.selects RX1 yX1_sortHeld yX1_sortHeld ∈ gw := gw_in 565 (by decide +kernel) (by decide +kernel)
theorem mC_X1_sortHeld : Cond.code yX1_sortHeld cX1_sortHeld 1 (some .int) ∈ gw := gw_in 566 (by decide +kernel) (by decide +kernel)
theorem mL_X8_327 : Cond.methodLink RX8 327 yX1_ticksHad ∈ gw := gw_in 567 (by decide +kernel) (by decide +kernel)
theorem mL_X8_330 : Cond.methodLink RX8 330 yX3_write ∈ gw := gw_in 568 (by decide +kernel) (by decide +kernel)
theorem mI_X3_write : Cond.instanceMethod yX3_write ∈ gw := gw_in 569 (by decide +kernel) (by decide +kernel)
theorem mS_X3_write : Cond.selects RX3 yX3_write yX3_write ∈ gw := gw_in 570 (by decide +kernel) (by decide +kernel)
theorem mC_X3_write : Cond.code yX3_write cX3_write 5 none ∈ gw := gw_in 571 (by decide +kernel) (by decide +kernel)
theorem mL_X8_333 : Cond.methodLink RX8 333 yX1_pop ∈ gw := gw_in 573 (by decide +kernel) (by decide +kernel)
theorem mI_X1_pop : Cond.instanceMethod yX1_pop ∈ gw := gw_in 574 (by decide +kernel) (by decide +kernel)
theorem mS_X1_pop : Cond.selects RX1 yX1_pop yX1_pop ∈ gw := gw_in 575 (by decide +kernel) (by decide +kernel)
theorem mC_X1_pop : Cond.code yX1_pop cX1_pop 1 none ∈ gw := gw_in 576 (by decide +kernel) (by decide +kernel)
theorem mL_L_81 : Cond.methodLink RL 81 yX8_yield ∈ gw := gw_in 577 (by decide +kernel) (by decide +kernel)
theorem mI_X8_yield : Cond.instanceMethod yX8_yield ∈ gw := gw_in 578 (by decide +kernel) (by decide +kernel)
theorem mS_X8_yield : Cond.selects RX8 yX8_yield yX8_yield ∈ gw := gw_in 579 (by decide +kernel) (by decide +kernel)
theorem mC_X8_yield : Cond.code yX8_yield cX8_yield 1 (some .int) ∈ gw := gw_in 580 (by decide +kernel) (by decide +kernel)
theorem mL_L_85 : Cond.methodLink RL 85 yX8_floor ∈ gw := gw_in 581 (by decide +kernel) (by decide +kernel)
theorem mI_X8_floor : Cond.instanceMethod yX8_floor ∈ gw := gw_in 582 (by decide +kernel) (by decide +kernel)
theorem mS_X8_floor : Cond.selects RX8 yX8_floor yX8_floor ∈ gw := gw_in 583 (by decide +kernel) (by decide +kernel)
theorem mC_X8_floor : Cond.code yX8_floor cX8_floor 2 (some .int) ∈ gw := gw_in 584 (by decide +kernel) (by decide +kernel)
theorem mL_L_89 : Cond.methodLink RL 89 yX8_limit ∈ gw := gw_in 585 (by decide +kernel) (by decide +kernel)
theorem mI_X8_limit : Cond.instanceMethod yX8_limit ∈ gw := gw_in 586 (by decide +kernel) (by decide +kernel)
theorem mS_X8_limit : Cond.selects RX8 yX8_limit yX8_limit ∈ gw := gw_in 587 (by decide +kernel) (by decide +kernel)
theorem mC_X8_limit : Cond.code yX8_limit cX8_limit 4 (some .int) ∈ gw := gw_in 588 (by decide +kernel) (by decide +kernel)
theorem mL_X8_215 : Cond.methodLink RX8 215 yX1_setLimit ∈ gw := gw_in 589 (by decide +kernel) (by decide +kernel)
theorem mI_X1_setLimit : Cond.instanceMethod yX1_setLimit ∈ gw := gw_in 590 (by decide +kernel) (by decide +kernel)
theorem mS_X1_setLimit : Cond.selects RX1 yX1_setLimit yX1_setLimit ∈ gw := gw_in 591 (by decide +kernel) (by decide +kernel)
theorem mC_X1_setLimit : Cond.code yX1_setLimit cX1_setLimit 3 none ∈ gw := gw_in 592 (by decide +kernel) (by decide +kernel)
theorem mL_L_93 : Cond.methodLink RL 93 yX8_vote ∈ gw := gw_in 593 (by decide +kernel) (by decide +kernel)
theorem mI_X8_vote : Cond.instanceMethod yX8_vote ∈ gw := gw_in 594 (by decide +kernel) (by decide +kernel)
theorem mS_X8_vote : Cond.selects RX8 yX8_vote yX8_vote ∈ gw := gw_in 595 (by decide +kernel) (by decide +kernel)
theorem mC_X8_vote : Cond.code yX8_vote cX8_vote 1 (some .int) ∈ gw := gw_in 596 (by decide +kernel) (by decide +kernel)
theorem mL_X8_218 : Cond.methodLink RX8 218 yX0_isOpen ∈ gw := gw_in 597 (by decide +kernel) (by decide +kernel)
theorem mI_X0_isOpen : Cond.instanceMethod yX0_isOpen ∈ gw := gw_in 598 (by decide +kernel) (by decide +kernel)
theorem mS_X0_isOpen : Cond.selects RX0 yX0_isOpen yX0_isOpen ∈ gw := gw_in 599 (by decide +kernel) (by decide +kernel)
theorem mC_X0_isOpen : Cond.code yX0_isOpen cX0_isOpen 1 (some .boolean) ∈ gw := gw_in 600 (by decide +kernel) (by decide +kernel)
theorem mL_X8_221 : Cond.methodLink RX8 221 yX0_open ∈ gw := gw_in 601 (by decide +kernel) (by decide +kernel)
theorem mI_X0_open : Cond.instanceMethod yX0_open ∈ gw := gw_in 602 (by decide +kernel) (by decide +kernel)
theorem mS_X0_open : Cond.selects RX0 yX0_open yX0_open ∈ gw := gw_in 603 (by decide +kernel) (by decide +kernel)
theorem mC_X0_open : Cond.code yX0_open cX0_open 2 none ∈ gw := gw_in 604 (by decide +kernel) (by decide +kernel)
theorem mL_L_97 : Cond.methodLink RL 97 yX8_say ∈ gw := gw_in 605 (by decide +kernel) (by decide +kernel)
theorem mI_X8_say : Cond.instanceMethod yX8_say ∈ gw := gw_in 606 (by decide +kernel) (by decide +kernel)
theorem mS_X8_say : Cond.selects RX8 yX8_say yX8_say ∈ gw := gw_in 607 (by decide +kernel) (by decide +kernel)
theorem mC_X8_say : Cond.code yX8_say cX8_say 4 (some .int) ∈ gw := gw_in 608 (by decide +kernel) (by decide +kernel)
theorem mL_X8_224 : Cond.methodLink RX8 224 yX4_mayVote ∈ gw := gw_in 609 (by decide +kernel) (by decide +kernel)
theorem mI_X4_mayVote : Cond.instanceMethod yX4_mayVote ∈ gw := gw_in 610 (by decide +kernel) (by decide +kernel)
theorem mS_X4_mayVote : Cond.selects RX4 yX4_mayVote yX4_mayVote ∈ gw := gw_in 611 (by decide +kernel) (by decide +kernel)
theorem mC_X4_mayVote : Cond.code yX4_mayVote cX4_mayVote 2 (some .boolean) ∈ gw := gw_in 612 (by decide +kernel) (by decide +kernel)
theorem mL_X4_41 : Cond.methodLink RX4 41 yX4_isHere ∈ gw := gw_in 613 (by decide +kernel) (by decide +kernel)
theorem mL_X4_45 : Cond.methodLink RX4 45 yX4_isOfKind ∈ gw := gw_in 614 (by decide +kernel) (by decide +kernel)
theorem mL_X8_227 : Cond.methodLink RX8 227 yX0_saidBy ∈ gw := gw_in 615 (by decide +kernel) (by decide +kernel)
theorem mI_X0_saidBy : Cond.instanceMethod yX0_saidBy ∈ gw := gw_in 616 (by decide +kernel) (by decide +kernel)
theorem mS_X0_saidBy : Cond.selects RX0 yX0_saidBy yX0_saidBy ∈ gw := gw_in 617 (by decide +kernel) (by decide +kernel)
theorem mC_X0_saidBy : Cond.code yX0_saidBy cX0_saidBy 2 (some .int) ∈ gw := gw_in 618 (by decide +kernel) (by decide +kernel)
theorem mL_X8_230 : Cond.methodLink RX8 230 yX0_mark ∈ gw := gw_in 620 (by decide +kernel) (by decide +kernel)
theorem mI_X0_mark : Cond.instanceMethod yX0_mark ∈ gw := gw_in 621 (by decide +kernel) (by decide +kernel)
theorem mS_X0_mark : Cond.selects RX0 yX0_mark yX0_mark ∈ gw := gw_in 622 (by decide +kernel) (by decide +kernel)
theorem mC_X0_mark : Cond.code yX0_mark cX0_mark 3 none ∈ gw := gw_in 623 (by decide +kernel) (by decide +kernel)
theorem mL_L_101 : Cond.methodLink RL 101 yX8_votes ∈ gw := gw_in 625 (by decide +kernel) (by decide +kernel)
theorem mI_X8_votes : Cond.instanceMethod yX8_votes ∈ gw := gw_in 626 (by decide +kernel) (by decide +kernel)
theorem mS_X8_votes : Cond.selects RX8 yX8_votes yX8_votes ∈ gw := gw_in 627 (by decide +kernel) (by decide +kernel)
theorem mC_X8_votes : Cond.code yX8_votes cX8_votes 2 (some .int) ∈ gw := gw_in 628 (by decide +kernel) (by decide +kernel)
theorem mL_X8_233 : Cond.methodLink RX8 233 yX0_count ∈ gw := gw_in 629 (by decide +kernel) (by decide +kernel)
theorem mI_X0_count : Cond.instanceMethod yX0_count ∈ gw := gw_in 630 (by decide +kernel) (by decide +kernel)
theorem mS_X0_count : Cond.selects RX0 yX0_count yX0_count ∈ gw := gw_in 631 (by decide +kernel) (by decide +kernel)
theorem mC_X0_count : Cond.code yX0_count cX0_count 4 (some .int) ∈ gw := gw_in 632 (by decide +kernel) (by decide +kernel)
theorem mL_X0_31 : Cond.methodLink RX0 31 yX4_size ∈ gw := gw_in 633 (by decide +kernel) (by decide +kernel)
theorem mL_X0_37 : Cond.methodLink RX0 37 yX4_mayVote ∈ gw := gw_in 634 (by decide +kernel) (by decide +kernel)
theorem mL_X0_41 : Cond.methodLink RX0 41 yX0_saidBy ∈ gw := gw_in 635 (by decide +kernel) (by decide +kernel)
theorem mL_L_105 : Cond.methodLink RL 105 yX8_close ∈ gw := gw_in 636 (by decide +kernel) (by decide +kernel)
theorem mI_X8_close : Cond.instanceMethod yX8_close ∈ gw := gw_in 637 (by decide +kernel) (by decide +kernel)
theorem mS_X8_close : Cond.selects RX8 yX8_close yX8_close ∈ gw := gw_in 638 (by decide +kernel) (by decide +kernel)
theorem mC_X8_close : Cond.code yX8_close cX8_close 3 (some .int) ∈ gw := gw_in 639 (by decide +kernel) (by decide +kernel)
theorem mL_X8_236 : Cond.methodLink RX8 236 yX8_isNeed ∈ gw := gw_in 640 (by decide +kernel) (by decide +kernel)
theorem mT_X8_isNeed : Cond.static yX8_isNeed ∈ gw := gw_in 641 (by decide +kernel) (by decide +kernel)
theorem mC_X8_isNeed : Cond.code yX8_isNeed cX8_isNeed 1 (some .boolean) ∈ gw := gw_in 642 (by decide +kernel) (by decide +kernel)
theorem mL_X8_239 : Cond.methodLink RX8 239 yX8_passes ∈ gw := gw_in 643 (by decide +kernel) (by decide +kernel)
theorem mT_X8_passes : Cond.static yX8_passes ∈ gw := gw_in 644 (by decide +kernel) (by decide +kernel)
theorem mC_X8_passes : Cond.code yX8_passes cX8_passes 3 (some .boolean) ∈ gw := gw_in 645 (by decide +kernel) (by decide +kernel)
theorem mL_X8_242 : Cond.methodLink RX8 242 yX0_shut ∈ gw := gw_in 646 (by decide +kernel) (by decide +kernel)
theorem mI_X0_shut : Cond.instanceMethod yX0_shut ∈ gw := gw_in 647 (by decide +kernel) (by decide +kernel)
theorem mS_X0_shut : Cond.selects RX0 yX0_shut yX0_shut ∈ gw := gw_in 648 (by decide +kernel) (by decide +kernel)
theorem mC_X0_shut : Cond.code yX0_shut cX0_shut 1 none ∈ gw := gw_in 649 (by decide +kernel) (by decide +kernel)
theorem mL_L_109 : Cond.methodLink RL 109 yX8_hands ∈ gw := gw_in 650 (by decide +kernel) (by decide +kernel)
theorem mI_X8_hands : Cond.instanceMethod yX8_hands ∈ gw := gw_in 651 (by decide +kernel) (by decide +kernel)
theorem mS_X8_hands : Cond.selects RX8 yX8_hands yX8_hands ∈ gw := gw_in 652 (by decide +kernel) (by decide +kernel)
theorem mC_X8_hands : Cond.code yX8_hands cX8_hands 5 (some .int) ∈ gw := gw_in 653 (by decide +kernel) (by decide +kernel)
theorem mL_X8_245 : Cond.methodLink RX8 245 yJ9_max_7cf53 ∈ gw := gw_in 654 (by decide +kernel) (by decide +kernel)
theorem mL_L_114 : Cond.methodLink RL 114 yX8_apart ∈ gw := gw_in 655 (by decide +kernel) (by decide +kernel)
theorem mI_X8_apart : Cond.instanceMethod yX8_apart ∈ gw := gw_in 656 (by decide +kernel) (by decide +kernel)
theorem mS_X8_apart : Cond.selects RX8 yX8_apart yX8_apart ∈ gw := gw_in 657 (by decide +kernel) (by decide +kernel)
theorem mC_X8_apart : Cond.code yX8_apart cX8_apart 6 (some .int) ∈ gw := gw_in 658 (by decide +kernel) (by decide +kernel)
theorem mL_X8_250 : Cond.methodLink RX8 250 yX4_isPeopled ∈ gw := gw_in 659 (by decide +kernel) (by decide +kernel)
theorem mI_X4_isPeopled : Cond.instanceMethod yX4_isPeopled ∈ gw := gw_in 660 (by decide +kernel) (by decide +kernel)
theorem mS_X4_isPeopled : Cond.selects RX4 yX4_isPeopled yX4_isPeopled ∈ gw := gw_in 661 (by decide +kernel) (by decide +kernel)
theorem mC_X4_isPeopled : Cond.code yX4_isPeopled cX4_isPeopled 3 (some .boolean) ∈ gw := gw_in 662 (by decide +kernel) (by decide +kernel)
theorem mL_X4_49 : Cond.methodLink RX4 49 yX4_delegationOf ∈ gw := gw_in 663 (by decide +kernel) (by decide +kernel)
theorem mL_X8_253 : Cond.methodLink RX8 253 yJ9_min_7cf53 ∈ gw := gw_in 664 (by decide +kernel) (by decide +kernel)
theorem mT_J9_min_7cf53 : Cond.static yJ9_min_7cf53 ∈ gw := gw_in 665 (by decide +kernel) (by decide +kernel)
theorem mC_J9_min_7cf53 : Cond.code yJ9_min_7cf53 cJ9_min_7cf53 2 (some .int) ∈ gw := gw_in 666 (by decide +kernel) (by decide +kernel)
theorem mL_L_118 : Cond.methodLink RL 118 yX8_uneven ∈ gw := gw_in 667 (by decide +kernel) (by decide +kernel)
theorem mI_X8_uneven : Cond.instanceMethod yX8_uneven ∈ gw := gw_in 668 (by decide +kernel) (by decide +kernel)
theorem mS_X8_uneven : Cond.selects RX8 yX8_uneven yX8_uneven ∈ gw := gw_in 669 (by decide +kernel) (by decide +kernel)
theorem mC_X8_uneven : Cond.code yX8_uneven cX8_uneven 5 (some .int) ∈ gw := gw_in 670 (by decide +kernel) (by decide +kernel)
theorem mL_X8_256 : Cond.methodLink RX8 256 yX8_gapsOfPairs ∈ gw := gw_in 671 (by decide +kernel) (by decide +kernel)
theorem mI_X8_gapsOfPairs : Cond.instanceMethod yX8_gapsOfPairs ∈ gw := gw_in 673 (by decide +kernel) (by decide +kernel)
theorem mC_X8_gapsOfPairs : Cond.code yX8_gapsOfPairs cX8_gapsOfPairs 4 (some .int) ∈ gw := gw_in 674 (by decide +kernel) (by decide +kernel)
theorem mL_X8_336 : Cond.methodLink RX8 336 yJ9_abs_0f7a4 ∈ gw := gw_in 675 (by decide +kernel) (by decide +kernel)
theorem mT_J9_abs_0f7a4 : Cond.static yJ9_abs_0f7a4 ∈ gw := gw_in 676 (by decide +kernel) (by decide +kernel)
theorem mC_J9_abs_0f7a4 : Cond.code yJ9_abs_0f7a4 cJ9_abs_0f7a4 1 (some .int) ∈ gw := gw_in 677 (by decide +kernel) (by decide +kernel)
theorem mL_X8_259 : Cond.methodLink RX8 259 yX8_peopledDelegations ∈ gw := gw_in 678 (by decide +kernel) (by decide +kernel)
theorem mI_X8_peopledDelegations : Cond.instanceMethod yX8_peopledDelegations ∈ gw := gw_in 680 (by decide +kernel) (by decide +kernel)
theorem mC_X8_peopledDelegations : Cond.code yX8_peopledDelegations cX8_peopledDelegations 3 (some .int) ∈ gw := gw_in 681 (by decide +kernel) (by decide +kernel)
theorem mL_X8_262 : Cond.methodLink RX8 262 yX8_allTime ∈ gw := gw_in 682 (by decide +kernel) (by decide +kernel)
theorem mI_X8_allTime : Cond.instanceMethod yX8_allTime ∈ gw := gw_in 684 (by decide +kernel) (by decide +kernel)
theorem mC_X8_allTime : Cond.code yX8_allTime cX8_allTime 3 (some .int) ∈ gw := gw_in 685 (by decide +kernel) (by decide +kernel)
theorem mL_X8_265 : Cond.methodLink RX8 265 yX8_greatestDivisor ∈ gw := gw_in 686 (by decide +kernel) (by decide +kernel)
theorem mT_X8_greatestDivisor : Cond.static yX8_greatestDivisor ∈ gw := gw_in 687 (by decide +kernel) (by decide +kernel)
theorem mC_X8_greatestDivisor : Cond.code yX8_greatestDivisor cX8_greatestDivisor 6 (some .int) ∈ gw := gw_in 688 (by decide +kernel) (by decide +kernel)
theorem mL_L_123 : Cond.methodLink RL 123 yX8_minutes ∈ gw := gw_in 689 (by decide +kernel) (by decide +kernel)
theorem mI_X8_minutes : Cond.instanceMethod yX8_minutes ∈ gw := gw_in 690 (by decide +kernel) (by decide +kernel)
theorem mS_X8_minutes : Cond.selects RX8 yX8_minutes yX8_minutes ∈ gw := gw_in 691 (by decide +kernel) (by decide +kernel)
theorem mC_X8_minutes : Cond.code yX8_minutes cX8_minutes 3 (some .int) ∈ gw := gw_in 692 (by decide +kernel) (by decide +kernel)
theorem mL_X8_268 : Cond.methodLink RX8 268 yX3_has ∈ gw := gw_in 693 (by decide +kernel) (by decide +kernel)
theorem mI_X3_has : Cond.instanceMethod yX3_has ∈ gw := gw_in 694 (by decide +kernel) (by decide +kernel)
theorem mS_X3_has : Cond.selects RX3 yX3_has yX3_has ∈ gw := gw_in 695 (by decide +kernel) (by decide +kernel)
theorem mC_X3_has : Cond.code yX3_has cX3_has 2 (some .boolean) ∈ gw := gw_in 696 (by decide +kernel) (by decide +kernel)
theorem mL_X3_40 : Cond.methodLink RX3 40 yX3_size ∈ gw := gw_in 697 (by decide +kernel) (by decide +kernel)
theorem mI_X3_size : Cond.instanceMethod yX3_size ∈ gw := gw_in 698 (by decide +kernel) (by decide +kernel)
theorem mS_X3_size : Cond.selects RX3 yX3_size yX3_size ∈ gw := gw_in 699 (by decide +kernel) (by decide +kernel)
theorem mC_X3_size : Cond.code yX3_size cX3_size 1 (some .int) ∈ gw := gw_in 700 (by decide +kernel) (by decide +kernel)
theorem mL_X3_34 : Cond.methodLink RX3 34 yJ9_min_7cf53 ∈ gw := gw_in 701 (by decide +kernel) (by decide +kernel)
theorem mL_X8_269 : Cond.methodLink RX8 269 yX3_memberAt ∈ gw := gw_in 702 (by decide +kernel) (by decide +kernel)
theorem mI_X3_memberAt : Cond.instanceMethod yX3_memberAt ∈ gw := gw_in 703 (by decide +kernel) (by decide +kernel)
theorem mS_X3_memberAt : Cond.selects RX3 yX3_memberAt yX3_memberAt ∈ gw := gw_in 704 (by decide +kernel) (by decide +kernel)
theorem mC_X3_memberAt : Cond.code yX3_memberAt cX3_memberAt 2 (some .int) ∈ gw := gw_in 705 (by decide +kernel) (by decide +kernel)
theorem mL_X3_48 : Cond.methodLink RX3 48 yX3_slotOf ∈ gw := gw_in 706 (by decide +kernel) (by decide +kernel)
theorem mI_X3_slotOf : Cond.instanceMethod yX3_slotOf ∈ gw := gw_in 708 (by decide +kernel) (by decide +kernel)
theorem mC_X3_slotOf : Cond.code yX3_slotOf cX3_slotOf 2 (some .int) ∈ gw := gw_in 709 (by decide +kernel) (by decide +kernel)
theorem mL_X3_56 : Cond.methodLink RX3 56 yX3_rowWritten ∈ gw := gw_in 710 (by decide +kernel) (by decide +kernel)
theorem mI_X3_rowWritten : Cond.instanceMethod yX3_rowWritten ∈ gw := gw_in 712 (by decide +kernel) (by decide +kernel)
theorem mC_X3_rowWritten : Cond.code yX3_rowWritten cX3_rowWritten 2 (some .int) ∈ gw := gw_in 713 (by decide +kernel) (by decide +kernel)
theorem mL_X8_270 : Cond.methodLink RX8 270 yX3_sortAt ∈ gw := gw_in 715 (by decide +kernel) (by decide +kernel)
theorem mI_X3_sortAt : Cond.instanceMethod yX3_sortAt ∈ gw := gw_in 716 (by decide +kernel) (by decide +kernel)
theorem mS_X3_sortAt : Cond.selects RX3 yX3_sortAt yX3_sortAt ∈ gw := gw_in 717 (by decide +kernel) (by decide +kernel)
theorem mC_X3_sortAt : Cond.code yX3_sortAt cX3_sortAt 2 (some .int) ∈ gw := gw_in 718 (by decide +kernel) (by decide +kernel)
theorem mL_X8_271 : Cond.methodLink RX8 271 yX3_latestCount ∈ gw := gw_in 719 (by decide +kernel) (by decide +kernel)
theorem mI_X3_latestCount : Cond.instanceMethod yX3_latestCount ∈ gw := gw_in 720 (by decide +kernel) (by decide +kernel)
theorem mS_X3_latestCount : Cond.selects RX3 yX3_latestCount yX3_latestCount ∈ gw := gw_in 721 (by decide +kernel) (by decide +kernel)
theorem mC_X3_latestCount : Cond.code yX3_latestCount cX3_latestCount 1 (some .int) ∈ gw := gw_in 722 (by decide +kernel) (by decide +kernel)
theorem mL_X8_274 : Cond.methodLink RX8 274 yX3_ticksAsOf ∈ gw := gw_in 723 (by decide +kernel) (by decide +kernel)
theorem mI_X3_ticksAsOf : Cond.instanceMethod yX3_ticksAsOf ∈ gw := gw_in 724 (by decide +kernel) (by decide +kernel)
theorem mS_X3_ticksAsOf : Cond.selects RX3 yX3_ticksAsOf yX3_ticksAsOf ∈ gw := gw_in 725 (by decide +kernel) (by decide +kernel)
theorem mC_X3_ticksAsOf : Cond.code yX3_ticksAsOf cX3_ticksAsOf 5 (some .int) ∈ gw := gw_in 726 (by decide +kernel) (by decide +kernel)
theorem mL_X3_59 : Cond.methodLink RX3 59 yX3_firstTicksAt ∈ gw := gw_in 727 (by decide +kernel) (by decide +kernel)
theorem mI_X3_firstTicksAt : Cond.instanceMethod yX3_firstTicksAt ∈ gw := gw_in 728 (by decide +kernel) (by decide +kernel)
theorem mS_X3_firstTicksAt : Cond.selects RX3 yX3_firstTicksAt yX3_firstTicksAt ∈ gw := gw_in 729 (by decide +kernel) (by decide +kernel)
theorem mC_X3_firstTicksAt : Cond.code yX3_firstTicksAt cX3_firstTicksAt 2 (some .int) ∈ gw := gw_in 730 (by decide +kernel) (by decide +kernel)
theorem mL_X8_277 : Cond.methodLink RX8 277 yX3_firstTicksAt ∈ gw := gw_in 731 (by decide +kernel) (by decide +kernel)
theorem mL_L_127 : Cond.methodLink RL 127 yX8_right ∈ gw := gw_in 732 (by decide +kernel) (by decide +kernel)
theorem mI_X8_right : Cond.instanceMethod yX8_right ∈ gw := gw_in 733 (by decide +kernel) (by decide +kernel)
theorem mS_X8_right : Cond.selects RX8 yX8_right yX8_right ∈ gw := gw_in 734 (by decide +kernel) (by decide +kernel)
theorem mC_X8_right : Cond.code yX8_right cX8_right 3 (some .int) ∈ gw := gw_in 735 (by decide +kernel) (by decide +kernel)
theorem mL_X8_280 : Cond.methodLink RX8 280 yX3_correct ∈ gw := gw_in 736 (by decide +kernel) (by decide +kernel)
theorem mI_X3_correct : Cond.instanceMethod yX3_correct ∈ gw := gw_in 737 (by decide +kernel) (by decide +kernel)
theorem mS_X3_correct : Cond.selects RX3 yX3_correct yX3_correct ∈ gw := gw_in 738 (by decide +kernel) (by decide +kernel)
theorem mC_X3_correct : Cond.code yX3_correct cX3_correct 3 none ∈ gw := gw_in 739 (by decide +kernel) (by decide +kernel)
theorem mL_L_131 : Cond.methodLink RL 131 yX8_sum ∈ gw := gw_in 740 (by decide +kernel) (by decide +kernel)
theorem mI_X8_sum : Cond.instanceMethod yX8_sum ∈ gw := gw_in 741 (by decide +kernel) (by decide +kernel)
theorem mS_X8_sum : Cond.selects RX8 yX8_sum yX8_sum ∈ gw := gw_in 742 (by decide +kernel) (by decide +kernel)
theorem mC_X8_sum : Cond.code yX8_sum cX8_sum 3 (some .int) ∈ gw := gw_in 743 (by decide +kernel) (by decide +kernel)
theorem mL_X8_283 : Cond.methodLink RX8 283 yX3_ticksOfMember ∈ gw := gw_in 744 (by decide +kernel) (by decide +kernel)
theorem mI_X3_ticksOfMember : Cond.instanceMethod yX3_ticksOfMember ∈ gw := gw_in 745 (by decide +kernel) (by decide +kernel)
theorem mS_X3_ticksOfMember : Cond.selects RX3 yX3_ticksOfMember yX3_ticksOfMember ∈ gw := gw_in 746 (by decide +kernel) (by decide +kernel)
theorem mC_X3_ticksOfMember : Cond.code yX3_ticksOfMember cX3_ticksOfMember 5 (some .int) ∈ gw := gw_in 747 (by decide +kernel) (by decide +kernel)
theorem mL_X3_62 : Cond.methodLink RX3 62 yX3_memberAt ∈ gw := gw_in 748 (by decide +kernel) (by decide +kernel)
theorem mL_X3_65 : Cond.methodLink RX3 65 yX3_ticksAsOf ∈ gw := gw_in 749 (by decide +kernel) (by decide +kernel)
theorem mL_L_135 : Cond.methodLink RL 135 yX8_sheet ∈ gw := gw_in 750 (by decide +kernel) (by decide +kernel)
theorem mI_X8_sheet : Cond.instanceMethod yX8_sheet ∈ gw := gw_in 751 (by decide +kernel) (by decide +kernel)
theorem mS_X8_sheet : Cond.selects RX8 yX8_sheet yX8_sheet ∈ gw := gw_in 752 (by decide +kernel) (by decide +kernel)
theorem mC_X8_sheet : Cond.code yX8_sheet cX8_sheet 5 (some .int) ∈ gw := gw_in 753 (by decide +kernel) (by decide +kernel)
theorem mL_X8_286 : Cond.methodLink RX8 286 yX8_sheetAt ∈ gw := gw_in 754 (by decide +kernel) (by decide +kernel)
theorem mI_X8_sheetAt : Cond.instanceMethod yX8_sheetAt ∈ gw := gw_in 756 (by decide +kernel) (by decide +kernel)
theorem mC_X8_sheetAt : Cond.code yX8_sheetAt cX8_sheetAt 2 (some (.object "SpeakHall$Sheet")) ∈ gw := gw_in 757 (by decide +kernel) (by decide +kernel)
theorem mL_X8_290 : Cond.methodLink RX8 290 yX8_isWidth ∈ gw := gw_in 758 (by decide +kernel) (by decide +kernel)
theorem mT_X8_isWidth : Cond.static yX8_isWidth ∈ gw := gw_in 759 (by decide +kernel) (by decide +kernel)
theorem mC_X8_isWidth : Cond.code yX8_isWidth cX8_isWidth 1 (some .boolean) ∈ gw := gw_in 760 (by decide +kernel) (by decide +kernel)
theorem mL_X8_293 : Cond.methodLink RX8 293 yX6_lay ∈ gw := gw_in 761 (by decide +kernel) (by decide +kernel)
theorem mI_X6_lay : Cond.instanceMethod yX6_lay ∈ gw := gw_in 762 (by decide +kernel) (by decide +kernel)
theorem mS_X6_lay : Cond.selects RX6 yX6_lay yX6_lay ∈ gw := gw_in 763 (by decide +kernel) (by decide +kernel)
theorem mC_X6_lay : Cond.code yX6_lay cX6_lay 4 none ∈ gw := gw_in 764 (by decide +kernel) (by decide +kernel)
theorem mL_X8_295 : Cond.methodLink RX8 295 yX6_size ∈ gw := gw_in 765 (by decide +kernel) (by decide +kernel)
theorem mI_X6_size : Cond.instanceMethod yX6_size ∈ gw := gw_in 766 (by decide +kernel) (by decide +kernel)
theorem mS_X6_size : Cond.selects RX6 yX6_size yX6_size ∈ gw := gw_in 767 (by decide +kernel) (by decide +kernel)
theorem mC_X6_size : Cond.code yX6_size cX6_size 1 (some .int) ∈ gw := gw_in 768 (by decide +kernel) (by decide +kernel)
theorem mL_L_140 : Cond.methodLink RL 140 yX8_put ∈ gw := gw_in 769 (by decide +kernel) (by decide +kernel)
theorem mI_X8_put : Cond.instanceMethod yX8_put ∈ gw := gw_in 770 (by decide +kernel) (by decide +kernel)
theorem mS_X8_put : Cond.selects RX8 yX8_put yX8_put ∈ gw := gw_in 771 (by decide +kernel) (by decide +kernel)
theorem mC_X8_put : Cond.code yX8_put cX8_put 5 (some .int) ∈ gw := gw_in 772 (by decide +kernel) (by decide +kernel)
theorem mL_X8_296 : Cond.methodLink RX8 296 yX6_isMissing ∈ gw := gw_in 773 (by decide +kernel) (by decide +kernel)
theorem mI_X6_isMissing : Cond.instanceMethod yX6_isMissing ∈ gw := gw_in 774 (by decide +kernel) (by decide +kernel)
theorem mS_X6_isMissing : Cond.selects RX6 yX6_isMissing yX6_isMissing ∈ gw := gw_in 775 (by decide +kernel) (by decide +kernel)
theorem mC_X6_isMissing : Cond.code yX6_isMissing cX6_isMissing 1 (some .boolean) ∈ gw := gw_in 776 (by decide +kernel) (by decide +kernel)
theorem mK_X8_299 : Cond.constant RX8 299 (-100002) ∈ gw := gw_in 777 (by decide +kernel) (by decide +kernel)
theorem mL_X8_300 : Cond.methodLink RX8 300 yX6_store ∈ gw := gw_in 778 (by decide +kernel) (by decide +kernel)
theorem mI_X6_store : Cond.instanceMethod yX6_store ∈ gw := gw_in 779 (by decide +kernel) (by decide +kernel)
theorem mS_X6_store : Cond.selects RX6 yX6_store yX6_store ∈ gw := gw_in 780 (by decide +kernel) (by decide +kernel)
theorem mC_X6_store : Cond.code yX6_store cX6_store 3 none ∈ gw := gw_in 781 (by decide +kernel) (by decide +kernel)
theorem mL_X6_26 : Cond.methodLink RX6 26 yX6_lowestBits ∈ gw := gw_in 782 (by decide +kernel) (by decide +kernel)
theorem mI_X6_lowestBits : Cond.instanceMethod yX6_lowestBits ∈ gw := gw_in 784 (by decide +kernel) (by decide +kernel)
theorem mC_X6_lowestBits : Cond.code yX6_lowestBits cX6_lowestBits 2 (some .int) ∈ gw := gw_in 785 (by decide +kernel) (by decide +kernel)
theorem mK_X6_34 : Cond.constant RX6 34 (65535) ∈ gw := gw_in 786 (by decide +kernel) (by decide +kernel)
theorem mL_L_144 : Cond.methodLink RL 144 yX8_copy ∈ gw := gw_in 788 (by decide +kernel) (by decide +kernel)
theorem mI_X8_copy : Cond.instanceMethod yX8_copy ∈ gw := gw_in 789 (by decide +kernel) (by decide +kernel)
theorem mS_X8_copy : Cond.selects RX8 yX8_copy yX8_copy ∈ gw := gw_in 790 (by decide +kernel) (by decide +kernel)
theorem mC_X8_copy : Cond.code yX8_copy cX8_copy 8 (some .int) ∈ gw := gw_in 791 (by decide +kernel) (by decide +kernel)
theorem mL_X8_303 : Cond.methodLink RX8 303 yX6_width ∈ gw := gw_in 792 (by decide +kernel) (by decide +kernel)
theorem mI_X6_width : Cond.instanceMethod yX6_width ∈ gw := gw_in 793 (by decide +kernel) (by decide +kernel)
theorem mS_X6_width : Cond.selects RX6 yX6_width yX6_width ∈ gw := gw_in 794 (by decide +kernel) (by decide +kernel)
theorem mC_X6_width : Cond.code yX6_width cX6_width 1 (some .int) ∈ gw := gw_in 795 (by decide +kernel) (by decide +kernel)
theorem mL_X8_306 : Cond.methodLink RX8 306 yX6_spans ∈ gw := gw_in 796 (by decide +kernel) (by decide +kernel)
theorem mI_X6_spans : Cond.instanceMethod yX6_spans ∈ gw := gw_in 797 (by decide +kernel) (by decide +kernel)
theorem mS_X6_spans : Cond.selects RX6 yX6_spans yX6_spans ∈ gw := gw_in 798 (by decide +kernel) (by decide +kernel)
theorem mC_X6_spans : Cond.code yX6_spans cX6_spans 3 (some .boolean) ∈ gw := gw_in 799 (by decide +kernel) (by decide +kernel)
theorem mL_X8_309 : Cond.methodLink RX8 309 yX6_take ∈ gw := gw_in 800 (by decide +kernel) (by decide +kernel)
theorem mI_X6_take : Cond.instanceMethod yX6_take ∈ gw := gw_in 801 (by decide +kernel) (by decide +kernel)
theorem mS_X6_take : Cond.selects RX6 yX6_take yX6_take ∈ gw := gw_in 802 (by decide +kernel) (by decide +kernel)
theorem mC_X6_take : Cond.code yX6_take cX6_take 6 none ∈ gw := gw_in 803 (by decide +kernel) (by decide +kernel)
theorem mL_X6_35 : Cond.methodLink RX6 35 yX6_numberAt ∈ gw := gw_in 804 (by decide +kernel) (by decide +kernel)
theorem mI_X6_numberAt : Cond.instanceMethod yX6_numberAt ∈ gw := gw_in 805 (by decide +kernel) (by decide +kernel)
theorem mS_X6_numberAt : Cond.selects RX6 yX6_numberAt yX6_numberAt ∈ gw := gw_in 806 (by decide +kernel) (by decide +kernel)
theorem mC_X6_numberAt : Cond.code yX6_numberAt cX6_numberAt 2 (some .int) ∈ gw := gw_in 807 (by decide +kernel) (by decide +kernel)
theorem mL_L_149 : Cond.methodLink RL 149 yX8_read ∈ gw := gw_in 809 (by decide +kernel) (by decide +kernel)
theorem mI_X8_read : Cond.instanceMethod yX8_read ∈ gw := gw_in 810 (by decide +kernel) (by decide +kernel)
theorem mS_X8_read : Cond.selects RX8 yX8_read yX8_read ∈ gw := gw_in 811 (by decide +kernel) (by decide +kernel)
theorem mC_X8_read : Cond.code yX8_read cX8_read 6 (some .int) ∈ gw := gw_in 812 (by decide +kernel) (by decide +kernel)
theorem mL_X8_312 : Cond.methodLink RX8 312 yX6_lengthToZero ∈ gw := gw_in 813 (by decide +kernel) (by decide +kernel)
theorem mI_X6_lengthToZero : Cond.instanceMethod yX6_lengthToZero ∈ gw := gw_in 814 (by decide +kernel) (by decide +kernel)
theorem mS_X6_lengthToZero : Cond.selects RX6 yX6_lengthToZero yX6_lengthToZero ∈ gw := gw_in 815 (by decide +kernel) (by decide +kernel)
theorem mC_X6_lengthToZero : Cond.code yX6_lengthToZero cX6_lengthToZero 2 (some .int) ∈ gw := gw_in 816 (by decide +kernel) (by decide +kernel)
theorem mL_X8_315 : Cond.methodLink RX8 315 yX8_faultOfKeys ∈ gw := gw_in 817 (by decide +kernel) (by decide +kernel)
theorem mT_X8_faultOfKeys : Cond.static yX8_faultOfKeys ∈ gw := gw_in 818 (by decide +kernel) (by decide +kernel)
theorem mC_X8_faultOfKeys : Cond.code yX8_faultOfKeys cX8_faultOfKeys 4 (some .int) ∈ gw := gw_in 819 (by decide +kernel) (by decide +kernel)
theorem mL_X8_319 : Cond.methodLink RX8 319 yX6_numberAt ∈ gw := gw_in 820 (by decide +kernel) (by decide +kernel)
theorem mL_L_153 : Cond.methodLink RL 153 yX8_told ∈ gw := gw_in 821 (by decide +kernel) (by decide +kernel)
theorem mI_X8_told : Cond.instanceMethod yX8_told ∈ gw := gw_in 822 (by decide +kernel) (by decide +kernel)
theorem mS_X8_told : Cond.selects RX8 yX8_told yX8_told ∈ gw := gw_in 823 (by decide +kernel) (by decide +kernel)
theorem mC_X8_told : Cond.code yX8_told cX8_told 2 (some .int) ∈ gw := gw_in 824 (by decide +kernel) (by decide +kernel)
theorem mL_X8_322 : Cond.methodLink RX8 322 yX3_size ∈ gw := gw_in 825 (by decide +kernel) (by decide +kernel)
theorem mA_L_10 : Cond.classLink RL 10 RX9 ∈ gw := gw_in 826 (by decide +kernel) (by decide +kernel)
theorem mB_X9 : Cond.instantiable RX9 39 ∈ gw := gw_in 827 (by decide +kernel) (by decide +kernel)
theorem mL_L_12 : Cond.methodLink RL 12 yX9_init ∈ gw := gw_in 828 (by decide +kernel) (by decide +kernel)
theorem mI_X9_init : Cond.instanceMethod yX9_init ∈ gw := gw_in 829 (by decide +kernel) (by decide +kernel)
theorem mC_X9_init : Cond.code yX9_init cX9_init 1 none ∈ gw := gw_in 830 (by decide +kernel) (by decide +kernel)
theorem mL_X9_1 : Cond.methodLink RX9 1 objectInit ∈ gw := gw_in 831 (by decide +kernel) (by decide +kernel)
theorem mF_X9_102 : Cond.fieldLink RX9 102 "SpeakHallModel" "members" "I" ∈ gw := gw_in 832 (by decide +kernel) (by decide +kernel)
theorem mF_X9_7 : Cond.fieldLink RX9 7 "SpeakHallModel" "kind" "[I" ∈ gw := gw_in 833 (by decide +kernel) (by decide +kernel)
theorem mF_X9_13 : Cond.fieldLink RX9 13 "SpeakHallModel" "delegation" "[I" ∈ gw := gw_in 834 (by decide +kernel) (by decide +kernel)
theorem mF_X9_16 : Cond.fieldLink RX9 16 "SpeakHallModel" "isPresent" "[Z" ∈ gw := gw_in 835 (by decide +kernel) (by decide +kernel)
theorem mF_X9_20 : Cond.fieldLink RX9 20 "SpeakHallModel" "time" "[I" ∈ gw := gw_in 836 (by decide +kernel) (by decide +kernel)
theorem mF_X9_23 : Cond.fieldLink RX9 23 "SpeakHallModel" "speeches" "[I" ∈ gw := gw_in 837 (by decide +kernel) (by decide +kernel)
theorem mF_X9_126 : Cond.fieldLink RX9 126 "SpeakHallModel" "askings" "I" ∈ gw := gw_in 838 (by decide +kernel) (by decide +kernel)
theorem mF_X9_26 : Cond.fieldLink RX9 26 "SpeakHallModel" "asker" "[I" ∈ gw := gw_in 839 (by decide +kernel) (by decide +kernel)
theorem mF_X9_29 : Cond.fieldLink RX9 29 "SpeakHallModel" "sort" "[I" ∈ gw := gw_in 840 (by decide +kernel) (by decide +kernel)
theorem mF_X9_146 : Cond.fieldLink RX9 146 "SpeakHallModel" "keys" "I" ∈ gw := gw_in 841 (by decide +kernel) (by decide +kernel)
theorem mF_X9_32 : Cond.fieldLink RX9 32 "SpeakHallModel" "key" "[I" ∈ gw := gw_in 842 (by decide +kernel) (by decide +kernel)
theorem mF_X9_35 : Cond.fieldLink RX9 35 "SpeakHallModel" "latest" "I" ∈ gw := gw_in 843 (by decide +kernel) (by decide +kernel)
theorem mF_X9_172 : Cond.fieldLink RX9 172 "SpeakHallModel" "floors" "I" ∈ gw := gw_in 844 (by decide +kernel) (by decide +kernel)
theorem mF_X9_39 : Cond.fieldLink RX9 39 "SpeakHallModel" "speaker" "[I" ∈ gw := gw_in 845 (by decide +kernel) (by decide +kernel)
theorem mF_X9_42 : Cond.fieldLink RX9 42 "SpeakHallModel" "floorSort" "[I" ∈ gw := gw_in 846 (by decide +kernel) (by decide +kernel)
theorem mF_X9_45 : Cond.fieldLink RX9 45 "SpeakHallModel" "left" "[I" ∈ gw := gw_in 847 (by decide +kernel) (by decide +kernel)
theorem mF_X9_48 : Cond.fieldLink RX9 48 "SpeakHallModel" "had" "[I" ∈ gw := gw_in 848 (by decide +kernel) (by decide +kernel)
theorem mF_X9_51 : Cond.fieldLink RX9 51 "SpeakHallModel" "limit" "[I" ∈ gw := gw_in 849 (by decide +kernel) (by decide +kernel)
theorem mF_X9_188 : Cond.fieldLink RX9 188 "SpeakHallModel" "isOpen" "Z" ∈ gw := gw_in 850 (by decide +kernel) (by decide +kernel)
theorem mF_X9_54 : Cond.fieldLink RX9 54 "SpeakHallModel" "said" "[I" ∈ gw := gw_in 851 (by decide +kernel) (by decide +kernel)
theorem mF_X9_175 : Cond.fieldLink RX9 175 "SpeakHallModel" "rows" "I" ∈ gw := gw_in 852 (by decide +kernel) (by decide +kernel)
theorem mF_X9_178 : Cond.fieldLink RX9 178 "SpeakHallModel" "rowsGone" "I" ∈ gw := gw_in 853 (by decide +kernel) (by decide +kernel)
theorem mF_X9_57 : Cond.fieldLink RX9 57 "SpeakHallModel" "rowMember" "[I" ∈ gw := gw_in 854 (by decide +kernel) (by decide +kernel)
theorem mF_X9_60 : Cond.fieldLink RX9 60 "SpeakHallModel" "rowSort" "[I" ∈ gw := gw_in 855 (by decide +kernel) (by decide +kernel)
theorem mF_X9_63 : Cond.fieldLink RX9 63 "SpeakHallModel" "rowTicks" "[I" ∈ gw := gw_in 856 (by decide +kernel) (by decide +kernel)
theorem mF_X9_207 : Cond.fieldLink RX9 207 "SpeakHallModel" "rights" "I" ∈ gw := gw_in 857 (by decide +kernel) (by decide +kernel)
theorem mF_X9_66 : Cond.fieldLink RX9 66 "SpeakHallModel" "rightRow" "[I" ∈ gw := gw_in 858 (by decide +kernel) (by decide +kernel)
theorem mF_X9_69 : Cond.fieldLink RX9 69 "SpeakHallModel" "rightTicks" "[I" ∈ gw := gw_in 859 (by decide +kernel) (by decide +kernel)
theorem mF_X9_72 : Cond.fieldLink RX9 72 "SpeakHallModel" "sheetBits" "[I" ∈ gw := gw_in 860 (by decide +kernel) (by decide +kernel)
theorem mF_X9_75 : Cond.fieldLink RX9 75 "SpeakHallModel" "sheetSize" "[I" ∈ gw := gw_in 861 (by decide +kernel) (by decide +kernel)
theorem mF_X9_78 : Cond.fieldLink RX9 78 "SpeakHallModel" "sheet" "[I" ∈ gw := gw_in 862 (by decide +kernel) (by decide +kernel)
theorem mF_X9_99 : Cond.fieldLink RX9 99 "SpeakHallModel" "found" "I" ∈ gw := gw_in 863 (by decide +kernel) (by decide +kernel)
theorem mF_X9_81 : Cond.fieldLink RX9 81 "SpeakHallModel" "list" "[I" ∈ gw := gw_in 864 (by decide +kernel) (by decide +kernel)
theorem mF_X9_155 : Cond.fieldLink RX9 155 "SpeakHallModel" "listMany" "I" ∈ gw := gw_in 865 (by decide +kernel) (by decide +kernel)
theorem mF_X9_84 : Cond.fieldLink RX9 84 "SpeakHallModel" "keptAsker" "[I" ∈ gw := gw_in 866 (by decide +kernel) (by decide +kernel)
theorem mF_X9_87 : Cond.fieldLink RX9 87 "SpeakHallModel" "keptSort" "[I" ∈ gw := gw_in 867 (by decide +kernel) (by decide +kernel)
theorem mF_X9_90 : Cond.fieldLink RX9 90 "SpeakHallModel" "keptTime" "[I" ∈ gw := gw_in 868 (by decide +kernel) (by decide +kernel)
theorem mF_X9_93 : Cond.fieldLink RX9 93 "SpeakHallModel" "keptSpeeches" "[I" ∈ gw := gw_in 869 (by decide +kernel) (by decide +kernel)
theorem mF_X9_96 : Cond.fieldLink RX9 96 "SpeakHallModel" "carried" "[I" ∈ gw := gw_in 870 (by decide +kernel) (by decide +kernel)
theorem mL_L_17 : Cond.methodLink RL 17 yX9_member ∈ gw := gw_in 950 (by decide +kernel) (by decide +kernel)
theorem mI_X9_member : Cond.instanceMethod yX9_member ∈ gw := gw_in 951 (by decide +kernel) (by decide +kernel)
theorem mS_X9_member : Cond.selects RX9 yX9_member yX9_member ∈ gw := gw_in 952 (by decide +kernel) (by decide +kernel)
theorem mC_X9_member : Cond.code yX9_member cX9_member 3 (some .int) ∈ gw := gw_in 953 (by decide +kernel) (by decide +kernel)
theorem mL_X9_105 : Cond.methodLink RX9 105 yX9_isIn ∈ gw := gw_in 954 (by decide +kernel) (by decide +kernel)
theorem mT_X9_isIn : Cond.static yX9_isIn ∈ gw := gw_in 955 (by decide +kernel) (by decide +kernel)
theorem mC_X9_isIn : Cond.code yX9_isIn cX9_isIn 3 (some .boolean) ∈ gw := gw_in 956 (by decide +kernel) (by decide +kernel)
theorem mK_X9_109 : Cond.constant RX9 109 (-100001) ∈ gw := gw_in 957 (by decide +kernel) (by decide +kernel)
theorem mL_X9_110 : Cond.methodLink RX9 110 yX9_finding ∈ gw := gw_in 958 (by decide +kernel) (by decide +kernel)
theorem mI_X9_finding : Cond.instanceMethod yX9_finding ∈ gw := gw_in 960 (by decide +kernel) (by decide +kernel)
theorem mC_X9_finding : Cond.code yX9_finding cX9_finding 2 (some .int) ∈ gw := gw_in 961 (by decide +kernel) (by decide +kernel)
theorem mK_X9_114 : Cond.constant RX9 114 (-100005) ∈ gw := gw_in 962 (by decide +kernel) (by decide +kernel)
theorem mL_L_21 : Cond.methodLink RL 21 yX9_as ∈ gw := gw_in 963 (by decide +kernel) (by decide +kernel)
theorem mI_X9_as : Cond.instanceMethod yX9_as ∈ gw := gw_in 964 (by decide +kernel) (by decide +kernel)
theorem mS_X9_as : Cond.selects RX9 yX9_as yX9_as ∈ gw := gw_in 965 (by decide +kernel) (by decide +kernel)
theorem mC_X9_as : Cond.code yX9_as cX9_as 3 (some .int) ∈ gw := gw_in 966 (by decide +kernel) (by decide +kernel)
theorem mL_X9_115 : Cond.methodLink RX9 115 yX9_isMember ∈ gw := gw_in 967 (by decide +kernel) (by decide +kernel)
theorem mI_X9_isMember : Cond.instanceMethod yX9_isMember ∈ gw := gw_in 969 (by decide +kernel) (by decide +kernel)
theorem mC_X9_isMember : Cond.code yX9_isMember cX9_isMember 2 (some .boolean) ∈ gw := gw_in 970 (by decide +kernel) (by decide +kernel)
theorem mL_X9_119 : Cond.methodLink RX9 119 yX9_isGuest ∈ gw := gw_in 971 (by decide +kernel) (by decide +kernel)
theorem mI_X9_isGuest : Cond.instanceMethod yX9_isGuest ∈ gw := gw_in 973 (by decide +kernel) (by decide +kernel)
theorem mC_X9_isGuest : Cond.code yX9_isGuest cX9_isGuest 2 (some .boolean) ∈ gw := gw_in 974 (by decide +kernel) (by decide +kernel)
theorem mK_X9_122 : Cond.constant RX9 122 (-100004) ∈ gw := gw_in 975 (by decide +kernel) (by decide +kernel)
theorem mL_L_26 : Cond.methodLink RL 26 yX9_present ∈ gw := gw_in 976 (by decide +kernel) (by decide +kernel)
theorem mI_X9_present : Cond.instanceMethod yX9_present ∈ gw := gw_in 977 (by decide +kernel) (by decide +kernel)
theorem mS_X9_present : Cond.selects RX9 yX9_present yX9_present ∈ gw := gw_in 978 (by decide +kernel) (by decide +kernel)
theorem mC_X9_present : Cond.code yX9_present cX9_present 4 (some .int) ∈ gw := gw_in 979 (by decide +kernel) (by decide +kernel)
theorem mL_L_30 : Cond.methodLink RL 30 yX9_of ∈ gw := gw_in 980 (by decide +kernel) (by decide +kernel)
theorem mI_X9_of : Cond.instanceMethod yX9_of ∈ gw := gw_in 981 (by decide +kernel) (by decide +kernel)
theorem mS_X9_of : Cond.selects RX9 yX9_of yX9_of ∈ gw := gw_in 982 (by decide +kernel) (by decide +kernel)
theorem mC_X9_of : Cond.code yX9_of cX9_of 3 (some .int) ∈ gw := gw_in 983 (by decide +kernel) (by decide +kernel)
theorem mL_L_35 : Cond.methodLink RL 35 yX9_time ∈ gw := gw_in 984 (by decide +kernel) (by decide +kernel)
theorem mI_X9_time : Cond.instanceMethod yX9_time ∈ gw := gw_in 985 (by decide +kernel) (by decide +kernel)
theorem mS_X9_time : Cond.selects RX9 yX9_time yX9_time ∈ gw := gw_in 986 (by decide +kernel) (by decide +kernel)
theorem mC_X9_time : Cond.code yX9_time cX9_time 2 (some .int) ∈ gw := gw_in 987 (by decide +kernel) (by decide +kernel)
theorem mL_X9_123 : Cond.methodLink RX9 123 yX9_timeOf ∈ gw := gw_in 988 (by decide +kernel) (by decide +kernel)
theorem mI_X9_timeOf : Cond.instanceMethod yX9_timeOf ∈ gw := gw_in 990 (by decide +kernel) (by decide +kernel)
theorem mC_X9_timeOf : Cond.code yX9_timeOf cX9_timeOf 4 (some .int) ∈ gw := gw_in 991 (by decide +kernel) (by decide +kernel)
theorem mL_L_39 : Cond.methodLink RL 39 yX9_ask ∈ gw := gw_in 992 (by decide +kernel) (by decide +kernel)
theorem mI_X9_ask : Cond.instanceMethod yX9_ask ∈ gw := gw_in 993 (by decide +kernel) (by decide +kernel)
theorem mS_X9_ask : Cond.selects RX9 yX9_ask yX9_ask ∈ gw := gw_in 994 (by decide +kernel) (by decide +kernel)
theorem mC_X9_ask : Cond.code yX9_ask cX9_ask 3 (some .int) ∈ gw := gw_in 995 (by decide +kernel) (by decide +kernel)
theorem mL_X9_129 : Cond.methodLink RX9 129 yX9_isSort ∈ gw := gw_in 996 (by decide +kernel) (by decide +kernel)
theorem mT_X9_isSort : Cond.static yX9_isSort ∈ gw := gw_in 997 (by decide +kernel) (by decide +kernel)
theorem mC_X9_isSort : Cond.code yX9_isSort cX9_isSort 1 (some .boolean) ∈ gw := gw_in 998 (by decide +kernel) (by decide +kernel)
theorem mL_X9_132 : Cond.methodLink RX9 132 yX9_askingOf ∈ gw := gw_in 999 (by decide +kernel) (by decide +kernel)
theorem mI_X9_askingOf : Cond.instanceMethod yX9_askingOf ∈ gw := gw_in 1001 (by decide +kernel) (by decide +kernel)
theorem mC_X9_askingOf : Cond.code yX9_askingOf cX9_askingOf 5 (some .int) ∈ gw := gw_in 1002 (by decide +kernel) (by decide +kernel)
theorem mK_X9_136 : Cond.constant RX9 136 (-100003) ∈ gw := gw_in 1003 (by decide +kernel) (by decide +kernel)
theorem mL_X9_137 : Cond.methodLink RX9 137 yX9_comes ∈ gw := gw_in 1004 (by decide +kernel) (by decide +kernel)
theorem mI_X9_comes : Cond.instanceMethod yX9_comes ∈ gw := gw_in 1006 (by decide +kernel) (by decide +kernel)
theorem mC_X9_comes : Cond.code yX9_comes cX9_comes 3 none ∈ gw := gw_in 1007 (by decide +kernel) (by decide +kernel)
theorem mL_L_43 : Cond.methodLink RL 43 yX9_withdraw ∈ gw := gw_in 1008 (by decide +kernel) (by decide +kernel)
theorem mI_X9_withdraw : Cond.instanceMethod yX9_withdraw ∈ gw := gw_in 1009 (by decide +kernel) (by decide +kernel)
theorem mS_X9_withdraw : Cond.selects RX9 yX9_withdraw yX9_withdraw ∈ gw := gw_in 1010 (by decide +kernel) (by decide +kernel)
theorem mC_X9_withdraw : Cond.code yX9_withdraw cX9_withdraw 4 (some .int) ∈ gw := gw_in 1011 (by decide +kernel) (by decide +kernel)
theorem mK_X9_141 : Cond.constant RX9 141 (-100006) ∈ gw := gw_in 1012 (by decide +kernel) (by decide +kernel)
theorem mL_X9_142 : Cond.methodLink RX9 142 yX9_goes ∈ gw := gw_in 1013 (by decide +kernel) (by decide +kernel)
theorem mI_X9_goes : Cond.instanceMethod yX9_goes ∈ gw := gw_in 1015 (by decide +kernel) (by decide +kernel)
theorem mC_X9_goes : Cond.code yX9_goes cX9_goes 3 none ∈ gw := gw_in 1016 (by decide +kernel) (by decide +kernel)
theorem mL_L_47 : Cond.methodLink RL 47 yX9_key ∈ gw := gw_in 1017 (by decide +kernel) (by decide +kernel)
theorem mI_X9_key : Cond.instanceMethod yX9_key ∈ gw := gw_in 1018 (by decide +kernel) (by decide +kernel)
theorem mS_X9_key : Cond.selects RX9 yX9_key yX9_key ∈ gw := gw_in 1019 (by decide +kernel) (by decide +kernel)
theorem mC_X9_key : Cond.code yX9_key cX9_key 2 (some .int) ∈ gw := gw_in 1020 (by decide +kernel) (by decide +kernel)
theorem mL_X9_149 : Cond.methodLink RX9 149 yX9_hasKey ∈ gw := gw_in 1021 (by decide +kernel) (by decide +kernel)
theorem mI_X9_hasKey : Cond.instanceMethod yX9_hasKey ∈ gw := gw_in 1023 (by decide +kernel) (by decide +kernel)
theorem mC_X9_hasKey : Cond.code yX9_hasKey cX9_hasKey 4 (some .boolean) ∈ gw := gw_in 1024 (by decide +kernel) (by decide +kernel)
theorem mL_L_52 : Cond.methodLink RL 52 yX9_noKeys ∈ gw := gw_in 1025 (by decide +kernel) (by decide +kernel)
theorem mI_X9_noKeys : Cond.instanceMethod yX9_noKeys ∈ gw := gw_in 1026 (by decide +kernel) (by decide +kernel)
theorem mS_X9_noKeys : Cond.selects RX9 yX9_noKeys yX9_noKeys ∈ gw := gw_in 1027 (by decide +kernel) (by decide +kernel)
theorem mC_X9_noKeys : Cond.code yX9_noKeys cX9_noKeys 2 (some .int) ∈ gw := gw_in 1028 (by decide +kernel) (by decide +kernel)
theorem mL_L_56 : Cond.methodLink RL 56 yX9_listed ∈ gw := gw_in 1029 (by decide +kernel) (by decide +kernel)
theorem mI_X9_listed : Cond.instanceMethod yX9_listed ∈ gw := gw_in 1030 (by decide +kernel) (by decide +kernel)
theorem mS_X9_listed : Cond.selects RX9 yX9_listed yX9_listed ∈ gw := gw_in 1031 (by decide +kernel) (by decide +kernel)
theorem mC_X9_listed : Cond.code yX9_listed cX9_listed 3 (some .int) ∈ gw := gw_in 1032 (by decide +kernel) (by decide +kernel)
theorem mL_X9_162 : Cond.methodLink RX9 162 yX9_tellList ∈ gw := gw_in 1033 (by decide +kernel) (by decide +kernel)
theorem mI_X9_tellList : Cond.instanceMethod yX9_tellList ∈ gw := gw_in 1035 (by decide +kernel) (by decide +kernel)
theorem mC_X9_tellList : Cond.code yX9_tellList cX9_tellList 3 none ∈ gw := gw_in 1036 (by decide +kernel) (by decide +kernel)
theorem mL_X9_158 : Cond.methodLink RX9 158 yX9_isAhead ∈ gw := gw_in 1037 (by decide +kernel) (by decide +kernel)
theorem mI_X9_isAhead : Cond.instanceMethod yX9_isAhead ∈ gw := gw_in 1039 (by decide +kernel) (by decide +kernel)
theorem mC_X9_isAhead : Cond.code yX9_isAhead cX9_isAhead 6 (some .boolean) ∈ gw := gw_in 1040 (by decide +kernel) (by decide +kernel)
theorem mL_X9_152 : Cond.methodLink RX9 152 yX9_rank ∈ gw := gw_in 1041 (by decide +kernel) (by decide +kernel)
theorem mI_X9_rank : Cond.instanceMethod yX9_rank ∈ gw := gw_in 1043 (by decide +kernel) (by decide +kernel)
theorem mC_X9_rank : Cond.code yX9_rank cX9_rank 4 (some .int) ∈ gw := gw_in 1044 (by decide +kernel) (by decide +kernel)
theorem mL_L_60 : Cond.methodLink RL 60 yX9_place ∈ gw := gw_in 1045 (by decide +kernel) (by decide +kernel)
theorem mI_X9_place : Cond.instanceMethod yX9_place ∈ gw := gw_in 1046 (by decide +kernel) (by decide +kernel)
theorem mS_X9_place : Cond.selects RX9 yX9_place yX9_place ∈ gw := gw_in 1047 (by decide +kernel) (by decide +kernel)
theorem mC_X9_place : Cond.code yX9_place cX9_place 4 (some .int) ∈ gw := gw_in 1048 (by decide +kernel) (by decide +kernel)
theorem mL_L_64 : Cond.methodLink RL 64 yX9_wait ∈ gw := gw_in 1049 (by decide +kernel) (by decide +kernel)
theorem mI_X9_wait : Cond.instanceMethod yX9_wait ∈ gw := gw_in 1050 (by decide +kernel) (by decide +kernel)
theorem mS_X9_wait : Cond.selects RX9 yX9_wait yX9_wait ∈ gw := gw_in 1051 (by decide +kernel) (by decide +kernel)
theorem mC_X9_wait : Cond.code yX9_wait cX9_wait 7 (some .int) ∈ gw := gw_in 1052 (by decide +kernel) (by decide +kernel)
theorem mL_X9_165 : Cond.methodLink RX9 165 yX9_firstOf ∈ gw := gw_in 1053 (by decide +kernel) (by decide +kernel)
theorem mI_X9_firstOf : Cond.instanceMethod yX9_firstOf ∈ gw := gw_in 1055 (by decide +kernel) (by decide +kernel)
theorem mC_X9_firstOf : Cond.code yX9_firstOf cX9_firstOf 3 (some .int) ∈ gw := gw_in 1056 (by decide +kernel) (by decide +kernel)
theorem mL_X9_168 : Cond.methodLink RX9 168 yX9_limitOf ∈ gw := gw_in 1057 (by decide +kernel) (by decide +kernel)
theorem mI_X9_limitOf : Cond.instanceMethod yX9_limitOf ∈ gw := gw_in 1059 (by decide +kernel) (by decide +kernel)
theorem mC_X9_limitOf : Cond.code yX9_limitOf cX9_limitOf 3 (some .int) ∈ gw := gw_in 1060 (by decide +kernel) (by decide +kernel)
theorem mK_X9_171 : Cond.constant RX9 171 (-100008) ∈ gw := gw_in 1061 (by decide +kernel) (by decide +kernel)
theorem mL_L_68 : Cond.methodLink RL 68 yX9_fits ∈ gw := gw_in 1062 (by decide +kernel) (by decide +kernel)
theorem mI_X9_fits : Cond.instanceMethod yX9_fits ∈ gw := gw_in 1063 (by decide +kernel) (by decide +kernel)
theorem mS_X9_fits : Cond.selects RX9 yX9_fits yX9_fits ∈ gw := gw_in 1064 (by decide +kernel) (by decide +kernel)
theorem mC_X9_fits : Cond.code yX9_fits cX9_fits 7 (some .int) ∈ gw := gw_in 1065 (by decide +kernel) (by decide +kernel)
theorem mL_L_72 : Cond.methodLink RL 72 yX9_begin ∈ gw := gw_in 1066 (by decide +kernel) (by decide +kernel)
theorem mI_X9_begin : Cond.instanceMethod yX9_begin ∈ gw := gw_in 1067 (by decide +kernel) (by decide +kernel)
theorem mS_X9_begin : Cond.selects RX9 yX9_begin yX9_begin ∈ gw := gw_in 1068 (by decide +kernel) (by decide +kernel)
theorem mC_X9_begin : Cond.code yX9_begin cX9_begin 1 (some .int) ∈ gw := gw_in 1069 (by decide +kernel) (by decide +kernel)
theorem mK_X9_181 : Cond.constant RX9 181 (-100007) ∈ gw := gw_in 1070 (by decide +kernel) (by decide +kernel)
theorem mL_X9_182 : Cond.methodLink RX9 182 yX9_take ∈ gw := gw_in 1071 (by decide +kernel) (by decide +kernel)
theorem mI_X9_take : Cond.instanceMethod yX9_take ∈ gw := gw_in 1073 (by decide +kernel) (by decide +kernel)
theorem mC_X9_take : Cond.code yX9_take cX9_take 4 (some .int) ∈ gw := gw_in 1074 (by decide +kernel) (by decide +kernel)
theorem mL_L_76 : Cond.methodLink RL 76 yX9_cut ∈ gw := gw_in 1075 (by decide +kernel) (by decide +kernel)
theorem mI_X9_cut : Cond.instanceMethod yX9_cut ∈ gw := gw_in 1076 (by decide +kernel) (by decide +kernel)
theorem mS_X9_cut : Cond.selects RX9 yX9_cut yX9_cut ∈ gw := gw_in 1077 (by decide +kernel) (by decide +kernel)
theorem mC_X9_cut : Cond.code yX9_cut cX9_cut 2 (some .int) ∈ gw := gw_in 1078 (by decide +kernel) (by decide +kernel)
theorem mL_L_80 : Cond.methodLink RL 80 yX9_tick ∈ gw := gw_in 1079 (by decide +kernel) (by decide +kernel)
theorem mI_X9_tick : Cond.instanceMethod yX9_tick ∈ gw := gw_in 1080 (by decide +kernel) (by decide +kernel)
theorem mS_X9_tick : Cond.selects RX9 yX9_tick yX9_tick ∈ gw := gw_in 1081 (by decide +kernel) (by decide +kernel)
theorem mC_X9_tick : Cond.code yX9_tick cX9_tick 5 (some .int) ∈ gw := gw_in 1082 (by decide +kernel) (by decide +kernel)
theorem mL_X9_185 : Cond.methodLink RX9 185 yX9_end ∈ gw := gw_in 1083 (by decide +kernel) (by decide +kernel)
theorem mI_X9_end : Cond.instanceMethod yX9_end ∈ gw := gw_in 1085 (by decide +kernel) (by decide +kernel)
theorem mC_X9_end : Cond.code yX9_end cX9_end 2 none ∈ gw := gw_in 1086 (by decide +kernel) (by decide +kernel)
theorem mL_L_84 : Cond.methodLink RL 84 yX9_yield ∈ gw := gw_in 1087 (by decide +kernel) (by decide +kernel)
theorem mI_X9_yield : Cond.instanceMethod yX9_yield ∈ gw := gw_in 1088 (by decide +kernel) (by decide +kernel)
theorem mS_X9_yield : Cond.selects RX9 yX9_yield yX9_yield ∈ gw := gw_in 1089 (by decide +kernel) (by decide +kernel)
theorem mC_X9_yield : Cond.code yX9_yield cX9_yield 1 (some .int) ∈ gw := gw_in 1090 (by decide +kernel) (by decide +kernel)
theorem mL_L_88 : Cond.methodLink RL 88 yX9_floor ∈ gw := gw_in 1091 (by decide +kernel) (by decide +kernel)
theorem mI_X9_floor : Cond.instanceMethod yX9_floor ∈ gw := gw_in 1092 (by decide +kernel) (by decide +kernel)
theorem mS_X9_floor : Cond.selects RX9 yX9_floor yX9_floor ∈ gw := gw_in 1093 (by decide +kernel) (by decide +kernel)
theorem mC_X9_floor : Cond.code yX9_floor cX9_floor 2 (some .int) ∈ gw := gw_in 1094 (by decide +kernel) (by decide +kernel)
theorem mL_L_92 : Cond.methodLink RL 92 yX9_limit ∈ gw := gw_in 1095 (by decide +kernel) (by decide +kernel)
theorem mI_X9_limit : Cond.instanceMethod yX9_limit ∈ gw := gw_in 1096 (by decide +kernel) (by decide +kernel)
theorem mS_X9_limit : Cond.selects RX9 yX9_limit yX9_limit ∈ gw := gw_in 1097 (by decide +kernel) (by decide +kernel)
theorem mC_X9_limit : Cond.code yX9_limit cX9_limit 4 (some .int) ∈ gw := gw_in 1098 (by decide +kernel) (by decide +kernel)
theorem mL_L_96 : Cond.methodLink RL 96 yX9_vote ∈ gw := gw_in 1099 (by decide +kernel) (by decide +kernel)
theorem mI_X9_vote : Cond.instanceMethod yX9_vote ∈ gw := gw_in 1100 (by decide +kernel) (by decide +kernel)
theorem mS_X9_vote : Cond.selects RX9 yX9_vote yX9_vote ∈ gw := gw_in 1101 (by decide +kernel) (by decide +kernel)
theorem mC_X9_vote : Cond.code yX9_vote cX9_vote 2 (some .int) ∈ gw := gw_in 1102 (by decide +kernel) (by decide +kernel)
theorem mL_L_100 : Cond.methodLink RL 100 yX9_say ∈ gw := gw_in 1103 (by decide +kernel) (by decide +kernel)
theorem mI_X9_say : Cond.instanceMethod yX9_say ∈ gw := gw_in 1104 (by decide +kernel) (by decide +kernel)
theorem mS_X9_say : Cond.selects RX9 yX9_say yX9_say ∈ gw := gw_in 1105 (by decide +kernel) (by decide +kernel)
theorem mC_X9_say : Cond.code yX9_say cX9_say 4 (some .int) ∈ gw := gw_in 1106 (by decide +kernel) (by decide +kernel)
theorem mL_X9_192 : Cond.methodLink RX9 192 yX9_mayVote ∈ gw := gw_in 1107 (by decide +kernel) (by decide +kernel)
theorem mI_X9_mayVote : Cond.instanceMethod yX9_mayVote ∈ gw := gw_in 1109 (by decide +kernel) (by decide +kernel)
theorem mC_X9_mayVote : Cond.code yX9_mayVote cX9_mayVote 2 (some .boolean) ∈ gw := gw_in 1110 (by decide +kernel) (by decide +kernel)
theorem mL_L_104 : Cond.methodLink RL 104 yX9_votes ∈ gw := gw_in 1111 (by decide +kernel) (by decide +kernel)
theorem mI_X9_votes : Cond.instanceMethod yX9_votes ∈ gw := gw_in 1112 (by decide +kernel) (by decide +kernel)
theorem mS_X9_votes : Cond.selects RX9 yX9_votes yX9_votes ∈ gw := gw_in 1113 (by decide +kernel) (by decide +kernel)
theorem mC_X9_votes : Cond.code yX9_votes cX9_votes 2 (some .int) ∈ gw := gw_in 1114 (by decide +kernel) (by decide +kernel)
theorem mL_X9_195 : Cond.methodLink RX9 195 yX9_votesOf ∈ gw := gw_in 1115 (by decide +kernel) (by decide +kernel)
theorem mI_X9_votesOf : Cond.instanceMethod yX9_votesOf ∈ gw := gw_in 1117 (by decide +kernel) (by decide +kernel)
theorem mC_X9_votesOf : Cond.code yX9_votesOf cX9_votesOf 4 (some .int) ∈ gw := gw_in 1118 (by decide +kernel) (by decide +kernel)
theorem mL_L_108 : Cond.methodLink RL 108 yX9_close ∈ gw := gw_in 1119 (by decide +kernel) (by decide +kernel)
theorem mI_X9_close : Cond.instanceMethod yX9_close ∈ gw := gw_in 1120 (by decide +kernel) (by decide +kernel)
theorem mS_X9_close : Cond.selects RX9 yX9_close yX9_close ∈ gw := gw_in 1121 (by decide +kernel) (by decide +kernel)
theorem mC_X9_close : Cond.code yX9_close cX9_close 2 (some .int) ∈ gw := gw_in 1122 (by decide +kernel) (by decide +kernel)
theorem mL_X9_198 : Cond.methodLink RX9 198 yX9_passes ∈ gw := gw_in 1123 (by decide +kernel) (by decide +kernel)
theorem mT_X9_passes : Cond.static yX9_passes ∈ gw := gw_in 1124 (by decide +kernel) (by decide +kernel)
theorem mC_X9_passes : Cond.code yX9_passes cX9_passes 3 (some .boolean) ∈ gw := gw_in 1125 (by decide +kernel) (by decide +kernel)
theorem mL_L_113 : Cond.methodLink RL 113 yX9_hands ∈ gw := gw_in 1126 (by decide +kernel) (by decide +kernel)
theorem mI_X9_hands : Cond.instanceMethod yX9_hands ∈ gw := gw_in 1127 (by decide +kernel) (by decide +kernel)
theorem mS_X9_hands : Cond.selects RX9 yX9_hands yX9_hands ∈ gw := gw_in 1128 (by decide +kernel) (by decide +kernel)
theorem mC_X9_hands : Cond.code yX9_hands cX9_hands 10 (some .int) ∈ gw := gw_in 1129 (by decide +kernel) (by decide +kernel)
theorem mL_L_117 : Cond.methodLink RL 117 yX9_apart ∈ gw := gw_in 1130 (by decide +kernel) (by decide +kernel)
theorem mI_X9_apart : Cond.instanceMethod yX9_apart ∈ gw := gw_in 1131 (by decide +kernel) (by decide +kernel)
theorem mS_X9_apart : Cond.selects RX9 yX9_apart yX9_apart ∈ gw := gw_in 1132 (by decide +kernel) (by decide +kernel)
theorem mC_X9_apart : Cond.code yX9_apart cX9_apart 5 (some .int) ∈ gw := gw_in 1133 (by decide +kernel) (by decide +kernel)
theorem mL_X9_201 : Cond.methodLink RX9 201 yX9_hasMember ∈ gw := gw_in 1134 (by decide +kernel) (by decide +kernel)
theorem mI_X9_hasMember : Cond.instanceMethod yX9_hasMember ∈ gw := gw_in 1136 (by decide +kernel) (by decide +kernel)
theorem mC_X9_hasMember : Cond.code yX9_hasMember cX9_hasMember 4 (some .boolean) ∈ gw := gw_in 1137 (by decide +kernel) (by decide +kernel)
theorem mL_L_122 : Cond.methodLink RL 122 yX9_uneven ∈ gw := gw_in 1138 (by decide +kernel) (by decide +kernel)
theorem mI_X9_uneven : Cond.instanceMethod yX9_uneven ∈ gw := gw_in 1139 (by decide +kernel) (by decide +kernel)
theorem mS_X9_uneven : Cond.selects RX9 yX9_uneven yX9_uneven ∈ gw := gw_in 1140 (by decide +kernel) (by decide +kernel)
theorem mC_X9_uneven : Cond.code yX9_uneven cX9_uneven 8 (some .int) ∈ gw := gw_in 1141 (by decide +kernel) (by decide +kernel)
theorem mL_X9_204 : Cond.methodLink RX9 204 yX9_common ∈ gw := gw_in 1142 (by decide +kernel) (by decide +kernel)
theorem mT_X9_common : Cond.static yX9_common ∈ gw := gw_in 1143 (by decide +kernel) (by decide +kernel)
theorem mC_X9_common : Cond.code yX9_common cX9_common 5 (some .int) ∈ gw := gw_in 1144 (by decide +kernel) (by decide +kernel)
theorem mL_L_126 : Cond.methodLink RL 126 yX9_minutes ∈ gw := gw_in 1145 (by decide +kernel) (by decide +kernel)
theorem mI_X9_minutes : Cond.instanceMethod yX9_minutes ∈ gw := gw_in 1146 (by decide +kernel) (by decide +kernel)
theorem mS_X9_minutes : Cond.selects RX9 yX9_minutes yX9_minutes ∈ gw := gw_in 1147 (by decide +kernel) (by decide +kernel)
theorem mC_X9_minutes : Cond.code yX9_minutes cX9_minutes 3 (some .int) ∈ gw := gw_in 1148 (by decide +kernel) (by decide +kernel)
theorem mL_X9_210 : Cond.methodLink RX9 210 yX9_ticksOf ∈ gw := gw_in 1149 (by decide +kernel) (by decide +kernel)
theorem mI_X9_ticksOf : Cond.instanceMethod yX9_ticksOf ∈ gw := gw_in 1151 (by decide +kernel) (by decide +kernel)
theorem mC_X9_ticksOf : Cond.code yX9_ticksOf cX9_ticksOf 5 (some .int) ∈ gw := gw_in 1152 (by decide +kernel) (by decide +kernel)
theorem mL_L_130 : Cond.methodLink RL 130 yX9_right ∈ gw := gw_in 1153 (by decide +kernel) (by decide +kernel)
theorem mI_X9_right : Cond.instanceMethod yX9_right ∈ gw := gw_in 1154 (by decide +kernel) (by decide +kernel)
theorem mS_X9_right : Cond.selects RX9 yX9_right yX9_right ∈ gw := gw_in 1155 (by decide +kernel) (by decide +kernel)
theorem mC_X9_right : Cond.code yX9_right cX9_right 3 (some .int) ∈ gw := gw_in 1156 (by decide +kernel) (by decide +kernel)
theorem mL_L_134 : Cond.methodLink RL 134 yX9_sum ∈ gw := gw_in 1157 (by decide +kernel) (by decide +kernel)
theorem mI_X9_sum : Cond.instanceMethod yX9_sum ∈ gw := gw_in 1158 (by decide +kernel) (by decide +kernel)
theorem mS_X9_sum : Cond.selects RX9 yX9_sum yX9_sum ∈ gw := gw_in 1159 (by decide +kernel) (by decide +kernel)
theorem mC_X9_sum : Cond.code yX9_sum cX9_sum 5 (some .int) ∈ gw := gw_in 1160 (by decide +kernel) (by decide +kernel)
theorem mL_L_139 : Cond.methodLink RL 139 yX9_sheet ∈ gw := gw_in 1161 (by decide +kernel) (by decide +kernel)
theorem mI_X9_sheet : Cond.instanceMethod yX9_sheet ∈ gw := gw_in 1162 (by decide +kernel) (by decide +kernel)
theorem mS_X9_sheet : Cond.selects RX9 yX9_sheet yX9_sheet ∈ gw := gw_in 1163 (by decide +kernel) (by decide +kernel)
theorem mC_X9_sheet : Cond.code yX9_sheet cX9_sheet 5 (some .int) ∈ gw := gw_in 1164 (by decide +kernel) (by decide +kernel)
theorem mL_X9_213 : Cond.methodLink RX9 213 yX9_isSheet ∈ gw := gw_in 1165 (by decide +kernel) (by decide +kernel)
theorem mT_X9_isSheet : Cond.static yX9_isSheet ∈ gw := gw_in 1166 (by decide +kernel) (by decide +kernel)
theorem mC_X9_isSheet : Cond.code yX9_isSheet cX9_isSheet 1 (some .boolean) ∈ gw := gw_in 1167 (by decide +kernel) (by decide +kernel)
theorem mL_L_143 : Cond.methodLink RL 143 yX9_put ∈ gw := gw_in 1168 (by decide +kernel) (by decide +kernel)
theorem mI_X9_put : Cond.instanceMethod yX9_put ∈ gw := gw_in 1169 (by decide +kernel) (by decide +kernel)
theorem mS_X9_put : Cond.selects RX9 yX9_put yX9_put ∈ gw := gw_in 1170 (by decide +kernel) (by decide +kernel)
theorem mC_X9_put : Cond.code yX9_put cX9_put 4 (some .int) ∈ gw := gw_in 1171 (by decide +kernel) (by decide +kernel)
theorem mK_X9_216 : Cond.constant RX9 216 (-100002) ∈ gw := gw_in 1172 (by decide +kernel) (by decide +kernel)
theorem mL_L_148 : Cond.methodLink RL 148 yX9_copy ∈ gw := gw_in 1173 (by decide +kernel) (by decide +kernel)
theorem mI_X9_copy : Cond.instanceMethod yX9_copy ∈ gw := gw_in 1174 (by decide +kernel) (by decide +kernel)
theorem mS_X9_copy : Cond.selects RX9 yX9_copy yX9_copy ∈ gw := gw_in 1175 (by decide +kernel) (by decide +kernel)
theorem mC_X9_copy : Cond.code yX9_copy cX9_copy 7 (some .int) ∈ gw := gw_in 1176 (by decide +kernel) (by decide +kernel)
theorem mL_X9_217 : Cond.methodLink RX9 217 yX9_hasPart ∈ gw := gw_in 1177 (by decide +kernel) (by decide +kernel)
theorem mI_X9_hasPart : Cond.instanceMethod yX9_hasPart ∈ gw := gw_in 1179 (by decide +kernel) (by decide +kernel)
theorem mC_X9_hasPart : Cond.code yX9_hasPart cX9_hasPart 4 (some .boolean) ∈ gw := gw_in 1180 (by decide +kernel) (by decide +kernel)
theorem mL_L_152 : Cond.methodLink RL 152 yX9_read ∈ gw := gw_in 1181 (by decide +kernel) (by decide +kernel)
theorem mI_X9_read : Cond.instanceMethod yX9_read ∈ gw := gw_in 1182 (by decide +kernel) (by decide +kernel)
theorem mS_X9_read : Cond.selects RX9 yX9_read yX9_read ∈ gw := gw_in 1183 (by decide +kernel) (by decide +kernel)
theorem mC_X9_read : Cond.code yX9_read cX9_read 7 (some .int) ∈ gw := gw_in 1184 (by decide +kernel) (by decide +kernel)
theorem mL_L_156 : Cond.methodLink RL 156 yX9_told ∈ gw := gw_in 1185 (by decide +kernel) (by decide +kernel)
theorem mI_X9_told : Cond.instanceMethod yX9_told ∈ gw := gw_in 1186 (by decide +kernel) (by decide +kernel)
theorem mS_X9_told : Cond.selects RX9 yX9_told yX9_told ∈ gw := gw_in 1187 (by decide +kernel) (by decide +kernel)
theorem mC_X9_told : Cond.code yX9_told cX9_told 2 (some .int) ∈ gw := gw_in 1188 (by decide +kernel) (by decide +kernel)
def nw : List Cond := [Cond.methodLinkNest RX8 9 yX4_init "SpeakHall", Cond.methodLinkNest RX8 46 yX1_init "SpeakHall", Cond.methodLinkNest RX8 60 yX3_init "SpeakHall", Cond.methodLinkNest RX8 71 yX6_init "SpeakHall", Cond.methodLinkNest RX4 26 yX8_set "SpeakHall", Cond.methodLinkNest RX4 34 yX8_at "SpeakHall", Cond.methodLinkNest RX7 42 yX8_at "SpeakHall", Cond.methodLinkNest RX7 53 yX8_set "SpeakHall", Cond.methodLinkNest RX5 23 yX8_at "SpeakHall", Cond.methodLinkNest RX5 27 yX8_set "SpeakHall", Cond.methodLinkNest RX2 31 yX8_at "SpeakHall", Cond.methodLinkNest RX2 59 yX8_set "SpeakHall", Cond.methodLinkNest RX1 41 yX8_at "SpeakHall", Cond.methodLinkNest RX1 45 yX8_set "SpeakHall", Cond.methodLinkNest RX3 44 yX8_set "SpeakHall", Cond.methodLinkNest RX0 23 yX8_at "SpeakHall", Cond.methodLinkNest RX0 27 yX8_set "SpeakHall", Cond.methodLinkNest RX3 52 yX8_at "SpeakHall", Cond.methodLinkNest RX6 30 yX8_set "SpeakHall", Cond.methodLinkNest RX6 22 yX8_at "SpeakHall"]
theorem nN_X8_9 : Cond.methodLinkNest RX8 9 yX4_init "SpeakHall" ∈ nw := List.mem_of_getElem? (i := 0) rfl
theorem nN_X8_46 : Cond.methodLinkNest RX8 46 yX1_init "SpeakHall" ∈ nw := List.mem_of_getElem? (i := 1) rfl
theorem nN_X8_60 : Cond.methodLinkNest RX8 60 yX3_init "SpeakHall" ∈ nw := List.mem_of_getElem? (i := 2) rfl
theorem nN_X8_71 : Cond.methodLinkNest RX8 71 yX6_init "SpeakHall" ∈ nw := List.mem_of_getElem? (i := 3) rfl
theorem nN_X4_26 : Cond.methodLinkNest RX4 26 yX8_set "SpeakHall" ∈ nw := List.mem_of_getElem? (i := 4) rfl
theorem nN_X4_34 : Cond.methodLinkNest RX4 34 yX8_at "SpeakHall" ∈ nw := List.mem_of_getElem? (i := 5) rfl
theorem nN_X7_42 : Cond.methodLinkNest RX7 42 yX8_at "SpeakHall" ∈ nw := List.mem_of_getElem? (i := 6) rfl
theorem nN_X7_53 : Cond.methodLinkNest RX7 53 yX8_set "SpeakHall" ∈ nw := List.mem_of_getElem? (i := 7) rfl
theorem nN_X5_23 : Cond.methodLinkNest RX5 23 yX8_at "SpeakHall" ∈ nw := List.mem_of_getElem? (i := 8) rfl
theorem nN_X5_27 : Cond.methodLinkNest RX5 27 yX8_set "SpeakHall" ∈ nw := List.mem_of_getElem? (i := 9) rfl
theorem nN_X2_31 : Cond.methodLinkNest RX2 31 yX8_at "SpeakHall" ∈ nw := List.mem_of_getElem? (i := 10) rfl
theorem nN_X2_59 : Cond.methodLinkNest RX2 59 yX8_set "SpeakHall" ∈ nw := List.mem_of_getElem? (i := 11) rfl
theorem nN_X1_41 : Cond.methodLinkNest RX1 41 yX8_at "SpeakHall" ∈ nw := List.mem_of_getElem? (i := 12) rfl
theorem nN_X1_45 : Cond.methodLinkNest RX1 45 yX8_set "SpeakHall" ∈ nw := List.mem_of_getElem? (i := 13) rfl
theorem nN_X3_44 : Cond.methodLinkNest RX3 44 yX8_set "SpeakHall" ∈ nw := List.mem_of_getElem? (i := 14) rfl
theorem nN_X0_23 : Cond.methodLinkNest RX0 23 yX8_at "SpeakHall" ∈ nw := List.mem_of_getElem? (i := 15) rfl
theorem nN_X0_27 : Cond.methodLinkNest RX0 27 yX8_set "SpeakHall" ∈ nw := List.mem_of_getElem? (i := 16) rfl
theorem nN_X3_52 : Cond.methodLinkNest RX3 52 yX8_at "SpeakHall" ∈ nw := List.mem_of_getElem? (i := 17) rfl
theorem nN_X6_30 : Cond.methodLinkNest RX6 30 yX8_set "SpeakHall" ∈ nw := List.mem_of_getElem? (i := 18) rfl
theorem nN_X6_22 : Cond.methodLinkNest RX6 22 yX8_at "SpeakHall" ∈ nw := List.mem_of_getElem? (i := 19) rfl
theorem nw_tbl : ∀ w ∈ nw, w ∈ lw_tbl := by
  intro w h
  have hh : ∀ w ∈ nw, ∃ i : Nat, lw_tbl[i]? = some w := by
    unfold nw
    simp only [List.forall_mem_cons]
    exact ⟨⟨55, by decide +kernel⟩, ⟨145, by decide +kernel⟩, ⟨186, by decide +kernel⟩, ⟨215, by decide +kernel⟩, ⟨281, by decide +kernel⟩, ⟨300, by decide +kernel⟩, ⟨331, by decide +kernel⟩, ⟨373, by decide +kernel⟩, ⟨394, by decide +kernel⟩, ⟨403, by decide +kernel⟩, ⟨427, by decide +kernel⟩, ⟨447, by decide +kernel⟩, ⟨496, by decide +kernel⟩, ⟨525, by decide +kernel⟩, ⟨572, by decide +kernel⟩, ⟨619, by decide +kernel⟩, ⟨624, by decide +kernel⟩, ⟨714, by decide +kernel⟩, ⟨787, by decide +kernel⟩, ⟨808, by decide +kernel⟩, fun _ h => absurd h List.not_mem_nil⟩
  obtain ⟨i, hi⟩ := hh w h
  exact List.mem_of_getElem? hi
theorem iwX0 : ∀ w ∈ wsX00, w ∈ gw := by
  intro w h
  have hh : wsX00 = [177, 179, 181].filterMap (fun i => lw_tbl[i]?) := by decide +kernel
  rw [hh] at h
  obtain ⟨i, -, hi⟩ := List.mem_filterMap.mp h
  have hg : wsX00.all goodWord = true := by decide +kernel
  refine List.mem_filter.mpr ⟨List.mem_of_getElem? hi, List.all_eq_true.mp hg w ?_⟩
  rw [hh]; exact h
theorem iwX1 : ∀ w ∈ wsX10, w ∈ gw := by
  intro w h
  have hh : wsX10 = [155, 157, 159, 161, 163, 165].filterMap (fun i => lw_tbl[i]?) := by decide +kernel
  rw [hh] at h
  obtain ⟨i, -, hi⟩ := List.mem_filterMap.mp h
  have hg : wsX10.all goodWord = true := by decide +kernel
  refine List.mem_filter.mpr ⟨List.mem_of_getElem? hi, List.all_eq_true.mp hg w ?_⟩
  rw [hh]; exact h
theorem iwX2 : ∀ w ∈ wsX20, w ∈ gw := by
  intro w h
  have hh : wsX20 = [132, 134, 136, 138, 140].filterMap (fun i => lw_tbl[i]?) := by decide +kernel
  rw [hh] at h
  obtain ⟨i, -, hi⟩ := List.mem_filterMap.mp h
  have hg : wsX20.all goodWord = true := by decide +kernel
  refine List.mem_filter.mpr ⟨List.mem_of_getElem? hi, List.all_eq_true.mp hg w ?_⟩
  rw [hh]; exact h
theorem iwX3 : ∀ w ∈ wsX30, w ∈ gw := by
  intro w h
  have hh : wsX30 = [197, 199, 201, 203, 205, 207, 209].filterMap (fun i => lw_tbl[i]?) := by decide +kernel
  rw [hh] at h
  obtain ⟨i, -, hi⟩ := List.mem_filterMap.mp h
  have hg : wsX30.all goodWord = true := by decide +kernel
  refine List.mem_filter.mpr ⟨List.mem_of_getElem? hi, List.all_eq_true.mp hg w ?_⟩
  rw [hh]; exact h
theorem iwX4 : ∀ w ∈ wsX40, w ∈ gw := by
  intro w h
  have hh : wsX40 = [63, 65, 67, 69].filterMap (fun i => lw_tbl[i]?) := by decide +kernel
  rw [hh] at h
  obtain ⟨i, -, hi⟩ := List.mem_filterMap.mp h
  have hg : wsX40.all goodWord = true := by decide +kernel
  refine List.mem_filter.mpr ⟨List.mem_of_getElem? hi, List.all_eq_true.mp hg w ?_⟩
  rw [hh]; exact h
theorem iwX5 : ∀ w ∈ wsX50, w ∈ gw := by
  intro w h
  have hh : wsX50 = [114, 116, 118].filterMap (fun i => lw_tbl[i]?) := by decide +kernel
  rw [hh] at h
  obtain ⟨i, -, hi⟩ := List.mem_filterMap.mp h
  have hg : wsX50.all goodWord = true := by decide +kernel
  refine List.mem_filter.mpr ⟨List.mem_of_getElem? hi, List.all_eq_true.mp hg w ?_⟩
  rw [hh]; exact h
theorem iwX6 : ∀ w ∈ wsX60, w ∈ gw := by
  intro w h
  have hh : wsX60 = [222, 224, 226].filterMap (fun i => lw_tbl[i]?) := by decide +kernel
  rw [hh] at h
  obtain ⟨i, -, hi⟩ := List.mem_filterMap.mp h
  have hg : wsX60.all goodWord = true := by decide +kernel
  refine List.mem_filter.mpr ⟨List.mem_of_getElem? hi, List.all_eq_true.mp hg w ?_⟩
  rw [hh]; exact h
theorem iwX7 : ∀ w ∈ wsX70, w ∈ gw := by
  intro w h
  have hh : wsX70 = [88, 90, 92, 94, 96, 98, 100, 102].filterMap (fun i => lw_tbl[i]?) := by decide +kernel
  rw [hh] at h
  obtain ⟨i, -, hi⟩ := List.mem_filterMap.mp h
  have hg : wsX70.all goodWord = true := by decide +kernel
  refine List.mem_filter.mpr ⟨List.mem_of_getElem? hi, List.all_eq_true.mp hg w ?_⟩
  rw [hh]; exact h
theorem iwX8 : ∀ w ∈ wsX80, w ∈ gw := by
  intro w h
  have hh : wsX80 = [239, 241, 243, 245, 247, 249, 251, 253, 255, 257].filterMap (fun i => lw_tbl[i]?) := by decide +kernel
  rw [hh] at h
  obtain ⟨i, -, hi⟩ := List.mem_filterMap.mp h
  have hg : wsX80.all goodWord = true := by decide +kernel
  refine List.mem_filter.mpr ⟨List.mem_of_getElem? hi, List.all_eq_true.mp hg w ?_⟩
  rw [hh]; exact h
theorem iwX9 : ∀ w ∈ wsX90, w ∈ gw := by
  intro w h
  have hh : wsX90 = [871, 873, 875, 877, 879, 881, 883, 885, 887, 889, 891, 893, 895, 897, 899, 901, 903, 905, 907, 909, 911, 913, 915, 917, 919, 921, 923, 925, 927, 929, 931, 933, 935, 937, 939, 941, 943, 945, 947].filterMap (fun i => lw_tbl[i]?) := by decide +kernel
  rw [hh] at h
  obtain ⟨i, -, hi⟩ := List.mem_filterMap.mp h
  have hg : wsX90.all goodWord = true := by decide +kernel
  refine List.mem_filter.mpr ⟨List.mem_of_getElem? hi, List.all_eq_true.mp hg w ?_⟩
  rw [hh]; exact h
end
section
theorem dX0_init_0 : decode cX0_init 0 = .ok (.aload_n 0, 1) := by decide +kernel
theorem dX0_init_1 : decode cX0_init 1 = .ok (.invokespecial 3, 3) := by decide +kernel
theorem dX0_init_4 : decode cX0_init 4 = .ok (.aload_n 0, 1) := by decide +kernel
theorem dX0_init_5 : decode cX0_init 5 = .ok (.bipush 10, 2) := by decide +kernel
theorem dX0_init_7 : decode cX0_init 7 = .ok (.newarray .int, 2) := by decide +kernel
theorem dX0_init_9 : decode cX0_init 9 = .ok (.putfield 9, 3) := by decide +kernel
theorem dX0_init_12 : decode cX0_init 12 = .ok (.aload_n 0, 1) := by decide +kernel
theorem dX0_init_13 : decode cX0_init 13 = .ok (.iconst 0, 1) := by decide +kernel
theorem dX0_init_14 : decode cX0_init 14 = .ok (.putfield 15, 3) := by decide +kernel
theorem dX0_init_17 : decode cX0_init 17 = .ok (.aload_n 0, 1) := by decide +kernel
theorem dX0_init_18 : decode cX0_init 18 = .ok (.aload_n 1, 1) := by decide +kernel
theorem dX0_init_19 : decode cX0_init 19 = .ok (.putfield 19, 3) := by decide +kernel
theorem dX0_init_22 : decode cX0_init 22 = .ok (.return_, 1) := by decide +kernel
theorem dX0_isOpen_0 : decode cX0_isOpen 0 = .ok (.aload_n 0, 1) := by decide +kernel
theorem dX0_isOpen_1 : decode cX0_isOpen 1 = .ok (.getfield 15, 3) := by decide +kernel
theorem dX0_isOpen_4 : decode cX0_isOpen 4 = .ok (.ireturn, 1) := by decide +kernel
theorem dX0_open_0 : decode cX0_open 0 = .ok (.iconst 0, 1) := by decide +kernel
theorem dX0_open_1 : decode cX0_open 1 = .ok (.istore_n 1, 1) := by decide +kernel
theorem dX0_open_2 : decode cX0_open 2 = .ok (.iload_n 1, 1) := by decide +kernel
theorem dX0_open_3 : decode cX0_open 3 = .ok (.aload_n 0, 1) := by decide +kernel
theorem dX0_open_4 : decode cX0_open 4 = .ok (.getfield 9, 3) := by decide +kernel
theorem dX0_open_7 : decode cX0_open 7 = .ok (.arraylength, 1) := by decide +kernel
theorem dX0_open_8 : decode cX0_open 8 = .ok (.if_icmp .ge 16, 3) := by decide +kernel
theorem dX0_open_11 : decode cX0_open 11 = .ok (.aload_n 0, 1) := by decide +kernel
theorem dX0_open_12 : decode cX0_open 12 = .ok (.getfield 9, 3) := by decide +kernel
theorem dX0_open_15 : decode cX0_open 15 = .ok (.iload_n 1, 1) := by decide +kernel
theorem dX0_open_16 : decode cX0_open 16 = .ok (.iconst 0, 1) := by decide +kernel
theorem dX0_open_17 : decode cX0_open 17 = .ok (.iastore, 1) := by decide +kernel
theorem dX0_open_18 : decode cX0_open 18 = .ok (.iinc 1 1, 3) := by decide +kernel
theorem dX0_open_21 : decode cX0_open 21 = .ok (.goto (-19), 3) := by decide +kernel
theorem dX0_open_24 : decode cX0_open 24 = .ok (.aload_n 0, 1) := by decide +kernel
theorem dX0_open_25 : decode cX0_open 25 = .ok (.iconst 1, 1) := by decide +kernel
theorem dX0_open_26 : decode cX0_open 26 = .ok (.putfield 15, 3) := by decide +kernel
theorem dX0_open_29 : decode cX0_open 29 = .ok (.return_, 1) := by decide +kernel
theorem dX0_shut_0 : decode cX0_shut 0 = .ok (.aload_n 0, 1) := by decide +kernel
theorem dX0_shut_1 : decode cX0_shut 1 = .ok (.iconst 0, 1) := by decide +kernel
theorem dX0_shut_2 : decode cX0_shut 2 = .ok (.putfield 15, 3) := by decide +kernel
theorem dX0_shut_5 : decode cX0_shut 5 = .ok (.return_, 1) := by decide +kernel
theorem dX0_saidBy_0 : decode cX0_saidBy 0 = .ok (.aload_n 0, 1) := by decide +kernel
theorem dX0_saidBy_1 : decode cX0_saidBy 1 = .ok (.getfield 9, 3) := by decide +kernel
theorem dX0_saidBy_4 : decode cX0_saidBy 4 = .ok (.iload_n 1, 1) := by decide +kernel
theorem dX0_saidBy_5 : decode cX0_saidBy 5 = .ok (.invokestatic 23, 3) := by decide +kernel
theorem dX0_saidBy_8 : decode cX0_saidBy 8 = .ok (.ireturn, 1) := by decide +kernel
theorem dX0_mark_0 : decode cX0_mark 0 = .ok (.aload_n 0, 1) := by decide +kernel
theorem dX0_mark_1 : decode cX0_mark 1 = .ok (.getfield 9, 3) := by decide +kernel
theorem dX0_mark_4 : decode cX0_mark 4 = .ok (.iload_n 1, 1) := by decide +kernel
theorem dX0_mark_5 : decode cX0_mark 5 = .ok (.iload_n 2, 1) := by decide +kernel
theorem dX0_mark_6 : decode cX0_mark 6 = .ok (.invokestatic 27, 3) := by decide +kernel
theorem dX0_mark_9 : decode cX0_mark 9 = .ok (.return_, 1) := by decide +kernel
theorem dX0_count_0 : decode cX0_count 0 = .ok (.iconst 0, 1) := by decide +kernel
theorem dX0_count_1 : decode cX0_count 1 = .ok (.istore_n 2, 1) := by decide +kernel
theorem dX0_count_2 : decode cX0_count 2 = .ok (.iconst 0, 1) := by decide +kernel
theorem dX0_count_3 : decode cX0_count 3 = .ok (.istore_n 3, 1) := by decide +kernel
theorem dX0_count_4 : decode cX0_count 4 = .ok (.iload_n 3, 1) := by decide +kernel
theorem dX0_count_5 : decode cX0_count 5 = .ok (.aload_n 0, 1) := by decide +kernel
theorem dX0_count_6 : decode cX0_count 6 = .ok (.getfield 19, 3) := by decide +kernel
theorem dX0_count_9 : decode cX0_count 9 = .ok (.invokevirtual 31, 3) := by decide +kernel
theorem dX0_count_12 : decode cX0_count 12 = .ok (.if_icmp .ge 32, 3) := by decide +kernel
theorem dX0_count_15 : decode cX0_count 15 = .ok (.aload_n 0, 1) := by decide +kernel
theorem dX0_count_16 : decode cX0_count 16 = .ok (.getfield 19, 3) := by decide +kernel
theorem dX0_count_19 : decode cX0_count 19 = .ok (.iload_n 3, 1) := by decide +kernel
theorem dX0_count_20 : decode cX0_count 20 = .ok (.invokevirtual 37, 3) := by decide +kernel
theorem dX0_count_23 : decode cX0_count 23 = .ok (.ifCond .eq 15, 3) := by decide +kernel
theorem dX0_count_26 : decode cX0_count 26 = .ok (.aload_n 0, 1) := by decide +kernel
theorem dX0_count_27 : decode cX0_count 27 = .ok (.iload_n 3, 1) := by decide +kernel
theorem dX0_count_28 : decode cX0_count 28 = .ok (.invokevirtual 41, 3) := by decide +kernel
theorem dX0_count_31 : decode cX0_count 31 = .ok (.iload_n 1, 1) := by decide +kernel
theorem dX0_count_32 : decode cX0_count 32 = .ok (.if_icmp .ne 6, 3) := by decide +kernel
theorem dX0_count_35 : decode cX0_count 35 = .ok (.iinc 2 1, 3) := by decide +kernel
theorem dX0_count_38 : decode cX0_count 38 = .ok (.iinc 3 1, 3) := by decide +kernel
theorem dX0_count_41 : decode cX0_count 41 = .ok (.goto (-37), 3) := by decide +kernel
theorem dX0_count_44 : decode cX0_count 44 = .ok (.iload_n 2, 1) := by decide +kernel
theorem dX0_count_45 : decode cX0_count 45 = .ok (.ireturn, 1) := by decide +kernel
theorem dX1_init_0 : decode cX1_init 0 = .ok (.aload_n 0, 1) := by decide +kernel
theorem dX1_init_1 : decode cX1_init 1 = .ok (.invokespecial 3, 3) := by decide +kernel
theorem dX1_init_4 : decode cX1_init 4 = .ok (.aload_n 0, 1) := by decide +kernel
theorem dX1_init_5 : decode cX1_init 5 = .ok (.iconst 5, 1) := by decide +kernel
theorem dX1_init_6 : decode cX1_init 6 = .ok (.newarray .int, 2) := by decide +kernel
theorem dX1_init_8 : decode cX1_init 8 = .ok (.putfield 9, 3) := by decide +kernel
theorem dX1_init_11 : decode cX1_init 11 = .ok (.aload_n 0, 1) := by decide +kernel
theorem dX1_init_12 : decode cX1_init 12 = .ok (.iconst 5, 1) := by decide +kernel
theorem dX1_init_13 : decode cX1_init 13 = .ok (.newarray .int, 2) := by decide +kernel
theorem dX1_init_15 : decode cX1_init 15 = .ok (.putfield 15, 3) := by decide +kernel
theorem dX1_init_18 : decode cX1_init 18 = .ok (.aload_n 0, 1) := by decide +kernel
theorem dX1_init_19 : decode cX1_init 19 = .ok (.iconst 5, 1) := by decide +kernel
theorem dX1_init_20 : decode cX1_init 20 = .ok (.newarray .int, 2) := by decide +kernel
theorem dX1_init_22 : decode cX1_init 22 = .ok (.putfield 18, 3) := by decide +kernel
theorem dX1_init_25 : decode cX1_init 25 = .ok (.aload_n 0, 1) := by decide +kernel
theorem dX1_init_26 : decode cX1_init 26 = .ok (.iconst 5, 1) := by decide +kernel
theorem dX1_init_27 : decode cX1_init 27 = .ok (.newarray .int, 2) := by decide +kernel
theorem dX1_init_29 : decode cX1_init 29 = .ok (.putfield 21, 3) := by decide +kernel
theorem dX1_init_32 : decode cX1_init 32 = .ok (.aload_n 0, 1) := by decide +kernel
theorem dX1_init_33 : decode cX1_init 33 = .ok (.iconst 3, 1) := by decide +kernel
theorem dX1_init_34 : decode cX1_init 34 = .ok (.newarray .int, 2) := by decide +kernel
theorem dX1_init_36 : decode cX1_init 36 = .ok (.dup, 1) := by decide +kernel
theorem dX1_init_37 : decode cX1_init 37 = .ok (.iconst 0, 1) := by decide +kernel
theorem dX1_init_38 : decode cX1_init 38 = .ok (.bipush 10, 2) := by decide +kernel
theorem dX1_init_40 : decode cX1_init 40 = .ok (.iastore, 1) := by decide +kernel
theorem dX1_init_41 : decode cX1_init 41 = .ok (.dup, 1) := by decide +kernel
theorem dX1_init_42 : decode cX1_init 42 = .ok (.iconst 1, 1) := by decide +kernel
theorem dX1_init_43 : decode cX1_init 43 = .ok (.iconst 4, 1) := by decide +kernel
theorem dX1_init_44 : decode cX1_init 44 = .ok (.iastore, 1) := by decide +kernel
theorem dX1_init_45 : decode cX1_init 45 = .ok (.dup, 1) := by decide +kernel
theorem dX1_init_46 : decode cX1_init 46 = .ok (.iconst 2, 1) := by decide +kernel
theorem dX1_init_47 : decode cX1_init 47 = .ok (.iconst 2, 1) := by decide +kernel
theorem dX1_init_48 : decode cX1_init 48 = .ok (.iastore, 1) := by decide +kernel
theorem dX1_init_49 : decode cX1_init 49 = .ok (.putfield 24, 3) := by decide +kernel
theorem dX1_init_52 : decode cX1_init 52 = .ok (.aload_n 0, 1) := by decide +kernel
theorem dX1_init_53 : decode cX1_init 53 = .ok (.iconst 0, 1) := by decide +kernel
theorem dX1_init_54 : decode cX1_init 54 = .ok (.putfield 27, 3) := by decide +kernel
theorem dX1_init_57 : decode cX1_init 57 = .ok (.return_, 1) := by decide +kernel
theorem dX1_isHeld_0 : decode cX1_isHeld 0 = .ok (.aload_n 0, 1) := by decide +kernel
theorem dX1_isHeld_1 : decode cX1_isHeld 1 = .ok (.getfield 27, 3) := by decide +kernel
theorem dX1_isHeld_4 : decode cX1_isHeld 4 = .ok (.ifCond .le 7, 3) := by decide +kernel
theorem dX1_isHeld_7 : decode cX1_isHeld 7 = .ok (.iconst 1, 1) := by decide +kernel
theorem dX1_isHeld_8 : decode cX1_isHeld 8 = .ok (.goto 4, 3) := by decide +kernel
theorem dX1_isHeld_11 : decode cX1_isHeld 11 = .ok (.iconst 0, 1) := by decide +kernel
theorem dX1_isHeld_12 : decode cX1_isHeld 12 = .ok (.ireturn, 1) := by decide +kernel
theorem dX1_behind_0 : decode cX1_behind 0 = .ok (.iconst 0, 1) := by decide +kernel
theorem dX1_behind_1 : decode cX1_behind 1 = .ok (.aload_n 0, 1) := by decide +kernel
theorem dX1_behind_2 : decode cX1_behind 2 = .ok (.getfield 27, 3) := by decide +kernel
theorem dX1_behind_5 : decode cX1_behind 5 = .ok (.iconst 1, 1) := by decide +kernel
theorem dX1_behind_6 : decode cX1_behind 6 = .ok (.isub, 1) := by decide +kernel
theorem dX1_behind_7 : decode cX1_behind 7 = .ok (.invokestatic 31, 3) := by decide +kernel
theorem dX1_behind_10 : decode cX1_behind 10 = .ok (.ireturn, 1) := by decide +kernel
theorem dX1_holder_0 : decode cX1_holder 0 = .ok (.aload_n 0, 1) := by decide +kernel
theorem dX1_holder_1 : decode cX1_holder 1 = .ok (.invokevirtual 37, 3) := by decide +kernel
theorem dX1_holder_4 : decode cX1_holder 4 = .ok (.ifCond .eq 19, 3) := by decide +kernel
theorem dX1_holder_7 : decode cX1_holder 7 = .ok (.aload_n 0, 1) := by decide +kernel
theorem dX1_holder_8 : decode cX1_holder 8 = .ok (.getfield 9, 3) := by decide +kernel
theorem dX1_holder_11 : decode cX1_holder 11 = .ok (.aload_n 0, 1) := by decide +kernel
theorem dX1_holder_12 : decode cX1_holder 12 = .ok (.getfield 27, 3) := by decide +kernel
theorem dX1_holder_15 : decode cX1_holder 15 = .ok (.iconst 1, 1) := by decide +kernel
theorem dX1_holder_16 : decode cX1_holder 16 = .ok (.isub, 1) := by decide +kernel
theorem dX1_holder_17 : decode cX1_holder 17 = .ok (.invokestatic 41, 3) := by decide +kernel
theorem dX1_holder_20 : decode cX1_holder 20 = .ok (.goto 4, 3) := by decide +kernel
theorem dX1_holder_23 : decode cX1_holder 23 = .ok (.iconst (-1), 1) := by decide +kernel
theorem dX1_holder_24 : decode cX1_holder 24 = .ok (.ireturn, 1) := by decide +kernel
theorem dX1_sortHeld_0 : decode cX1_sortHeld 0 = .ok (.aload_n 0, 1) := by decide +kernel
theorem dX1_sortHeld_1 : decode cX1_sortHeld 1 = .ok (.getfield 15, 3) := by decide +kernel
theorem dX1_sortHeld_4 : decode cX1_sortHeld 4 = .ok (.aload_n 0, 1) := by decide +kernel
theorem dX1_sortHeld_5 : decode cX1_sortHeld 5 = .ok (.getfield 27, 3) := by decide +kernel
theorem dX1_sortHeld_8 : decode cX1_sortHeld 8 = .ok (.iconst 1, 1) := by decide +kernel
theorem dX1_sortHeld_9 : decode cX1_sortHeld 9 = .ok (.isub, 1) := by decide +kernel
theorem dX1_sortHeld_10 : decode cX1_sortHeld 10 = .ok (.invokestatic 41, 3) := by decide +kernel
theorem dX1_sortHeld_13 : decode cX1_sortHeld 13 = .ok (.ireturn, 1) := by decide +kernel
theorem dX1_ticksLeft_0 : decode cX1_ticksLeft 0 = .ok (.aload_n 0, 1) := by decide +kernel
theorem dX1_ticksLeft_1 : decode cX1_ticksLeft 1 = .ok (.getfield 18, 3) := by decide +kernel
theorem dX1_ticksLeft_4 : decode cX1_ticksLeft 4 = .ok (.aload_n 0, 1) := by decide +kernel
theorem dX1_ticksLeft_5 : decode cX1_ticksLeft 5 = .ok (.getfield 27, 3) := by decide +kernel
theorem dX1_ticksLeft_8 : decode cX1_ticksLeft 8 = .ok (.iconst 1, 1) := by decide +kernel
theorem dX1_ticksLeft_9 : decode cX1_ticksLeft 9 = .ok (.isub, 1) := by decide +kernel
theorem dX1_ticksLeft_10 : decode cX1_ticksLeft 10 = .ok (.invokestatic 41, 3) := by decide +kernel
theorem dX1_ticksLeft_13 : decode cX1_ticksLeft 13 = .ok (.ireturn, 1) := by decide +kernel
theorem dX1_ticksHad_0 : decode cX1_ticksHad 0 = .ok (.aload_n 0, 1) := by decide +kernel
theorem dX1_ticksHad_1 : decode cX1_ticksHad 1 = .ok (.getfield 21, 3) := by decide +kernel
theorem dX1_ticksHad_4 : decode cX1_ticksHad 4 = .ok (.aload_n 0, 1) := by decide +kernel
theorem dX1_ticksHad_5 : decode cX1_ticksHad 5 = .ok (.getfield 27, 3) := by decide +kernel
theorem dX1_ticksHad_8 : decode cX1_ticksHad 8 = .ok (.iconst 1, 1) := by decide +kernel
theorem dX1_ticksHad_9 : decode cX1_ticksHad 9 = .ok (.isub, 1) := by decide +kernel
theorem dX1_ticksHad_10 : decode cX1_ticksHad 10 = .ok (.invokestatic 41, 3) := by decide +kernel
theorem dX1_ticksHad_13 : decode cX1_ticksHad 13 = .ok (.ireturn, 1) := by decide +kernel
theorem dX1_limitOf_0 : decode cX1_limitOf 0 = .ok (.aload_n 0, 1) := by decide +kernel
theorem dX1_limitOf_1 : decode cX1_limitOf 1 = .ok (.getfield 24, 3) := by decide +kernel
theorem dX1_limitOf_4 : decode cX1_limitOf 4 = .ok (.iload_n 1, 1) := by decide +kernel
theorem dX1_limitOf_5 : decode cX1_limitOf 5 = .ok (.invokestatic 41, 3) := by decide +kernel
theorem dX1_limitOf_8 : decode cX1_limitOf 8 = .ok (.ireturn, 1) := by decide +kernel
theorem dX1_setLimit_0 : decode cX1_setLimit 0 = .ok (.aload_n 0, 1) := by decide +kernel
theorem dX1_setLimit_1 : decode cX1_setLimit 1 = .ok (.getfield 24, 3) := by decide +kernel
theorem dX1_setLimit_4 : decode cX1_setLimit 4 = .ok (.iload_n 1, 1) := by decide +kernel
theorem dX1_setLimit_5 : decode cX1_setLimit 5 = .ok (.iload_n 2, 1) := by decide +kernel
theorem dX1_setLimit_6 : decode cX1_setLimit 6 = .ok (.invokestatic 45, 3) := by decide +kernel
theorem dX1_setLimit_9 : decode cX1_setLimit 9 = .ok (.return_, 1) := by decide +kernel
theorem dX1_push_0 : decode cX1_push 0 = .ok (.aload_n 0, 1) := by decide +kernel
theorem dX1_push_1 : decode cX1_push 1 = .ok (.getfield 27, 3) := by decide +kernel
theorem dX1_push_4 : decode cX1_push 4 = .ok (.iconst 4, 1) := by decide +kernel
theorem dX1_push_5 : decode cX1_push 5 = .ok (.if_icmp .gt 61, 3) := by decide +kernel
theorem dX1_push_8 : decode cX1_push 8 = .ok (.aload_n 0, 1) := by decide +kernel
theorem dX1_push_9 : decode cX1_push 9 = .ok (.getfield 9, 3) := by decide +kernel
theorem dX1_push_12 : decode cX1_push 12 = .ok (.aload_n 0, 1) := by decide +kernel
theorem dX1_push_13 : decode cX1_push 13 = .ok (.getfield 27, 3) := by decide +kernel
theorem dX1_push_16 : decode cX1_push 16 = .ok (.iload_n 1, 1) := by decide +kernel
theorem dX1_push_17 : decode cX1_push 17 = .ok (.invokestatic 45, 3) := by decide +kernel
theorem dX1_push_20 : decode cX1_push 20 = .ok (.aload_n 0, 1) := by decide +kernel
theorem dX1_push_21 : decode cX1_push 21 = .ok (.getfield 15, 3) := by decide +kernel
theorem dX1_push_24 : decode cX1_push 24 = .ok (.aload_n 0, 1) := by decide +kernel
theorem dX1_push_25 : decode cX1_push 25 = .ok (.getfield 27, 3) := by decide +kernel
theorem dX1_push_28 : decode cX1_push 28 = .ok (.iload_n 2, 1) := by decide +kernel
theorem dX1_push_29 : decode cX1_push 29 = .ok (.invokestatic 45, 3) := by decide +kernel
theorem dX1_push_32 : decode cX1_push 32 = .ok (.aload_n 0, 1) := by decide +kernel
theorem dX1_push_33 : decode cX1_push 33 = .ok (.getfield 18, 3) := by decide +kernel
theorem dX1_push_36 : decode cX1_push 36 = .ok (.aload_n 0, 1) := by decide +kernel
theorem dX1_push_37 : decode cX1_push 37 = .ok (.getfield 27, 3) := by decide +kernel
theorem dX1_push_40 : decode cX1_push 40 = .ok (.iload_n 3, 1) := by decide +kernel
theorem dX1_push_41 : decode cX1_push 41 = .ok (.invokestatic 45, 3) := by decide +kernel
theorem dX1_push_44 : decode cX1_push 44 = .ok (.aload_n 0, 1) := by decide +kernel
theorem dX1_push_45 : decode cX1_push 45 = .ok (.getfield 21, 3) := by decide +kernel
theorem dX1_push_48 : decode cX1_push 48 = .ok (.aload_n 0, 1) := by decide +kernel
theorem dX1_push_49 : decode cX1_push 49 = .ok (.getfield 27, 3) := by decide +kernel
theorem dX1_push_52 : decode cX1_push 52 = .ok (.iconst 0, 1) := by decide +kernel
theorem dX1_push_53 : decode cX1_push 53 = .ok (.invokestatic 45, 3) := by decide +kernel
theorem dX1_push_56 : decode cX1_push 56 = .ok (.aload_n 0, 1) := by decide +kernel
theorem dX1_push_57 : decode cX1_push 57 = .ok (.dup, 1) := by decide +kernel
theorem dX1_push_58 : decode cX1_push 58 = .ok (.getfield 27, 3) := by decide +kernel
theorem dX1_push_61 : decode cX1_push 61 = .ok (.iconst 1, 1) := by decide +kernel
theorem dX1_push_62 : decode cX1_push 62 = .ok (.iadd, 1) := by decide +kernel
theorem dX1_push_63 : decode cX1_push 63 = .ok (.putfield 27, 3) := by decide +kernel
theorem dX1_push_66 : decode cX1_push 66 = .ok (.return_, 1) := by decide +kernel
theorem dX1_pop_0 : decode cX1_pop 0 = .ok (.aload_n 0, 1) := by decide +kernel
theorem dX1_pop_1 : decode cX1_pop 1 = .ok (.getfield 27, 3) := by decide +kernel
theorem dX1_pop_4 : decode cX1_pop 4 = .ok (.ifCond .le 13, 3) := by decide +kernel
theorem dX1_pop_7 : decode cX1_pop 7 = .ok (.aload_n 0, 1) := by decide +kernel
theorem dX1_pop_8 : decode cX1_pop 8 = .ok (.dup, 1) := by decide +kernel
theorem dX1_pop_9 : decode cX1_pop 9 = .ok (.getfield 27, 3) := by decide +kernel
theorem dX1_pop_12 : decode cX1_pop 12 = .ok (.iconst 1, 1) := by decide +kernel
theorem dX1_pop_13 : decode cX1_pop 13 = .ok (.isub, 1) := by decide +kernel
theorem dX1_pop_14 : decode cX1_pop 14 = .ok (.putfield 27, 3) := by decide +kernel
theorem dX1_pop_17 : decode cX1_pop 17 = .ok (.return_, 1) := by decide +kernel
theorem dX1_spendTick_0 : decode cX1_spendTick 0 = .ok (.aload_n 0, 1) := by decide +kernel
theorem dX1_spendTick_1 : decode cX1_spendTick 1 = .ok (.getfield 18, 3) := by decide +kernel
theorem dX1_spendTick_4 : decode cX1_spendTick 4 = .ok (.aload_n 0, 1) := by decide +kernel
theorem dX1_spendTick_5 : decode cX1_spendTick 5 = .ok (.getfield 27, 3) := by decide +kernel
theorem dX1_spendTick_8 : decode cX1_spendTick 8 = .ok (.iconst 1, 1) := by decide +kernel
theorem dX1_spendTick_9 : decode cX1_spendTick 9 = .ok (.isub, 1) := by decide +kernel
theorem dX1_spendTick_10 : decode cX1_spendTick 10 = .ok (.aload_n 0, 1) := by decide +kernel
theorem dX1_spendTick_11 : decode cX1_spendTick 11 = .ok (.invokevirtual 49, 3) := by decide +kernel
theorem dX1_spendTick_14 : decode cX1_spendTick 14 = .ok (.iconst 1, 1) := by decide +kernel
theorem dX1_spendTick_15 : decode cX1_spendTick 15 = .ok (.isub, 1) := by decide +kernel
theorem dX1_spendTick_16 : decode cX1_spendTick 16 = .ok (.invokestatic 45, 3) := by decide +kernel
theorem dX1_spendTick_19 : decode cX1_spendTick 19 = .ok (.aload_n 0, 1) := by decide +kernel
theorem dX1_spendTick_20 : decode cX1_spendTick 20 = .ok (.getfield 21, 3) := by decide +kernel
theorem dX1_spendTick_23 : decode cX1_spendTick 23 = .ok (.aload_n 0, 1) := by decide +kernel
theorem dX1_spendTick_24 : decode cX1_spendTick 24 = .ok (.getfield 27, 3) := by decide +kernel
theorem dX1_spendTick_27 : decode cX1_spendTick 27 = .ok (.iconst 1, 1) := by decide +kernel
theorem dX1_spendTick_28 : decode cX1_spendTick 28 = .ok (.isub, 1) := by decide +kernel
theorem dX1_spendTick_29 : decode cX1_spendTick 29 = .ok (.aload_n 0, 1) := by decide +kernel
theorem dX1_spendTick_30 : decode cX1_spendTick 30 = .ok (.invokevirtual 53, 3) := by decide +kernel
theorem dX1_spendTick_33 : decode cX1_spendTick 33 = .ok (.iconst 1, 1) := by decide +kernel
theorem dX1_spendTick_34 : decode cX1_spendTick 34 = .ok (.iadd, 1) := by decide +kernel
theorem dX1_spendTick_35 : decode cX1_spendTick 35 = .ok (.invokestatic 45, 3) := by decide +kernel
theorem dX1_spendTick_38 : decode cX1_spendTick 38 = .ok (.return_, 1) := by decide +kernel
theorem dX2_init_0 : decode cX2_init 0 = .ok (.aload_n 0, 1) := by decide +kernel
theorem dX2_init_1 : decode cX2_init 1 = .ok (.invokespecial 3, 3) := by decide +kernel
theorem dX2_init_4 : decode cX2_init 4 = .ok (.aload_n 0, 1) := by decide +kernel
theorem dX2_init_5 : decode cX2_init 5 = .ok (.bipush 20, 2) := by decide +kernel
theorem dX2_init_7 : decode cX2_init 7 = .ok (.newarray .int, 2) := by decide +kernel
theorem dX2_init_9 : decode cX2_init 9 = .ok (.putfield 9, 3) := by decide +kernel
theorem dX2_init_12 : decode cX2_init 12 = .ok (.aload_n 0, 1) := by decide +kernel
theorem dX2_init_13 : decode cX2_init 13 = .ok (.iconst 0, 1) := by decide +kernel
theorem dX2_init_14 : decode cX2_init 14 = .ok (.putfield 15, 3) := by decide +kernel
theorem dX2_init_17 : decode cX2_init 17 = .ok (.aload_n 0, 1) := by decide +kernel
theorem dX2_init_18 : decode cX2_init 18 = .ok (.aload_n 1, 1) := by decide +kernel
theorem dX2_init_19 : decode cX2_init 19 = .ok (.putfield 19, 3) := by decide +kernel
theorem dX2_init_22 : decode cX2_init 22 = .ok (.aload_n 0, 1) := by decide +kernel
theorem dX2_init_23 : decode cX2_init 23 = .ok (.aload_n 2, 1) := by decide +kernel
theorem dX2_init_24 : decode cX2_init 24 = .ok (.putfield 23, 3) := by decide +kernel
theorem dX2_init_27 : decode cX2_init 27 = .ok (.aload_n 0, 1) := by decide +kernel
theorem dX2_init_28 : decode cX2_init 28 = .ok (.aload_n 3, 1) := by decide +kernel
theorem dX2_init_29 : decode cX2_init 29 = .ok (.putfield 27, 3) := by decide +kernel
theorem dX2_init_32 : decode cX2_init 32 = .ok (.return_, 1) := by decide +kernel
theorem dX2_size_0 : decode cX2_size 0 = .ok (.aload_n 0, 1) := by decide +kernel
theorem dX2_size_1 : decode cX2_size 1 = .ok (.getfield 15, 3) := by decide +kernel
theorem dX2_size_4 : decode cX2_size 4 = .ok (.ireturn, 1) := by decide +kernel
theorem dX2_askingAt_0 : decode cX2_askingAt 0 = .ok (.aload_n 0, 1) := by decide +kernel
theorem dX2_askingAt_1 : decode cX2_askingAt 1 = .ok (.getfield 9, 3) := by decide +kernel
theorem dX2_askingAt_4 : decode cX2_askingAt 4 = .ok (.iload_n 1, 1) := by decide +kernel
theorem dX2_askingAt_5 : decode cX2_askingAt 5 = .ok (.invokestatic 31, 3) := by decide +kernel
theorem dX2_askingAt_8 : decode cX2_askingAt 8 = .ok (.ireturn, 1) := by decide +kernel
theorem dX2_placeOf_0 : decode cX2_placeOf 0 = .ok (.iconst 0, 1) := by decide +kernel
theorem dX2_placeOf_1 : decode cX2_placeOf 1 = .ok (.istore_n 2, 1) := by decide +kernel
theorem dX2_placeOf_2 : decode cX2_placeOf 2 = .ok (.iload_n 2, 1) := by decide +kernel
theorem dX2_placeOf_3 : decode cX2_placeOf 3 = .ok (.aload_n 0, 1) := by decide +kernel
theorem dX2_placeOf_4 : decode cX2_placeOf 4 = .ok (.getfield 15, 3) := by decide +kernel
theorem dX2_placeOf_7 : decode cX2_placeOf 7 = .ok (.if_icmp .ge 20, 3) := by decide +kernel
theorem dX2_placeOf_10 : decode cX2_placeOf 10 = .ok (.aload_n 0, 1) := by decide +kernel
theorem dX2_placeOf_11 : decode cX2_placeOf 11 = .ok (.iload_n 2, 1) := by decide +kernel
theorem dX2_placeOf_12 : decode cX2_placeOf 12 = .ok (.invokevirtual 35, 3) := by decide +kernel
theorem dX2_placeOf_15 : decode cX2_placeOf 15 = .ok (.iload_n 1, 1) := by decide +kernel
theorem dX2_placeOf_16 : decode cX2_placeOf 16 = .ok (.if_icmp .ne 5, 3) := by decide +kernel
theorem dX2_placeOf_19 : decode cX2_placeOf 19 = .ok (.iload_n 2, 1) := by decide +kernel
theorem dX2_placeOf_20 : decode cX2_placeOf 20 = .ok (.ireturn, 1) := by decide +kernel
theorem dX2_placeOf_21 : decode cX2_placeOf 21 = .ok (.iinc 2 1, 3) := by decide +kernel
theorem dX2_placeOf_24 : decode cX2_placeOf 24 = .ok (.goto (-22), 3) := by decide +kernel
theorem dX2_placeOf_27 : decode cX2_placeOf 27 = .ok (.iconst (-1), 1) := by decide +kernel
theorem dX2_placeOf_28 : decode cX2_placeOf 28 = .ok (.ireturn, 1) := by decide +kernel
theorem dX2_lay_0 : decode cX2_lay 0 = .ok (.aload_n 0, 1) := by decide +kernel
theorem dX2_lay_1 : decode cX2_lay 1 = .ok (.iconst 0, 1) := by decide +kernel
theorem dX2_lay_2 : decode cX2_lay 2 = .ok (.putfield 15, 3) := by decide +kernel
theorem dX2_lay_5 : decode cX2_lay 5 = .ok (.iconst 0, 1) := by decide +kernel
theorem dX2_lay_6 : decode cX2_lay 6 = .ok (.istore_n 1, 1) := by decide +kernel
theorem dX2_lay_7 : decode cX2_lay 7 = .ok (.iload_n 1, 1) := by decide +kernel
theorem dX2_lay_8 : decode cX2_lay 8 = .ok (.aload_n 0, 1) := by decide +kernel
theorem dX2_lay_9 : decode cX2_lay 9 = .ok (.getfield 27, 3) := by decide +kernel
theorem dX2_lay_12 : decode cX2_lay 12 = .ok (.invokevirtual 39, 3) := by decide +kernel
theorem dX2_lay_15 : decode cX2_lay 15 = .ok (.if_icmp .ge 98, 3) := by decide +kernel
theorem dX2_lay_18 : decode cX2_lay 18 = .ok (.aload_n 0, 1) := by decide +kernel
theorem dX2_lay_19 : decode cX2_lay 19 = .ok (.getfield 19, 3) := by decide +kernel
theorem dX2_lay_22 : decode cX2_lay 22 = .ok (.aload_n 0, 1) := by decide +kernel
theorem dX2_lay_23 : decode cX2_lay 23 = .ok (.getfield 27, 3) := by decide +kernel
theorem dX2_lay_26 : decode cX2_lay 26 = .ok (.iload_n 1, 1) := by decide +kernel
theorem dX2_lay_27 : decode cX2_lay 27 = .ok (.invokevirtual 44, 3) := by decide +kernel
theorem dX2_lay_30 : decode cX2_lay 30 = .ok (.invokevirtual 47, 3) := by decide +kernel
theorem dX2_lay_33 : decode cX2_lay 33 = .ok (.ifCond .eq 74, 3) := by decide +kernel
theorem dX2_lay_36 : decode cX2_lay 36 = .ok (.aload_n 0, 1) := by decide +kernel
theorem dX2_lay_37 : decode cX2_lay 37 = .ok (.getfield 15, 3) := by decide +kernel
theorem dX2_lay_40 : decode cX2_lay 40 = .ok (.istore_n 2, 1) := by decide +kernel
theorem dX2_lay_41 : decode cX2_lay 41 = .ok (.iload_n 2, 1) := by decide +kernel
theorem dX2_lay_42 : decode cX2_lay 42 = .ok (.ifCond .le 46, 3) := by decide +kernel
theorem dX2_lay_45 : decode cX2_lay 45 = .ok (.aload_n 0, 1) := by decide +kernel
theorem dX2_lay_46 : decode cX2_lay 46 = .ok (.getfield 23, 3) := by decide +kernel
theorem dX2_lay_49 : decode cX2_lay 49 = .ok (.aload_n 0, 1) := by decide +kernel
theorem dX2_lay_50 : decode cX2_lay 50 = .ok (.getfield 27, 3) := by decide +kernel
theorem dX2_lay_53 : decode cX2_lay 53 = .ok (.iload_n 1, 1) := by decide +kernel
theorem dX2_lay_54 : decode cX2_lay 54 = .ok (.aload_n 0, 1) := by decide +kernel
theorem dX2_lay_55 : decode cX2_lay 55 = .ok (.iload_n 2, 1) := by decide +kernel
theorem dX2_lay_56 : decode cX2_lay 56 = .ok (.iconst 1, 1) := by decide +kernel
theorem dX2_lay_57 : decode cX2_lay 57 = .ok (.isub, 1) := by decide +kernel
theorem dX2_lay_58 : decode cX2_lay 58 = .ok (.invokevirtual 35, 3) := by decide +kernel
theorem dX2_lay_61 : decode cX2_lay 61 = .ok (.invokevirtual 53, 3) := by decide +kernel
theorem dX2_lay_64 : decode cX2_lay 64 = .ok (.ifCond .eq 24, 3) := by decide +kernel
theorem dX2_lay_67 : decode cX2_lay 67 = .ok (.aload_n 0, 1) := by decide +kernel
theorem dX2_lay_68 : decode cX2_lay 68 = .ok (.getfield 9, 3) := by decide +kernel
theorem dX2_lay_71 : decode cX2_lay 71 = .ok (.iload_n 2, 1) := by decide +kernel
theorem dX2_lay_72 : decode cX2_lay 72 = .ok (.aload_n 0, 1) := by decide +kernel
theorem dX2_lay_73 : decode cX2_lay 73 = .ok (.iload_n 2, 1) := by decide +kernel
theorem dX2_lay_74 : decode cX2_lay 74 = .ok (.iconst 1, 1) := by decide +kernel
theorem dX2_lay_75 : decode cX2_lay 75 = .ok (.isub, 1) := by decide +kernel
theorem dX2_lay_76 : decode cX2_lay 76 = .ok (.invokevirtual 35, 3) := by decide +kernel
theorem dX2_lay_79 : decode cX2_lay 79 = .ok (.invokestatic 59, 3) := by decide +kernel
theorem dX2_lay_82 : decode cX2_lay 82 = .ok (.iinc 2 (-1), 3) := by decide +kernel
theorem dX2_lay_85 : decode cX2_lay 85 = .ok (.goto (-44), 3) := by decide +kernel
theorem dX2_lay_88 : decode cX2_lay 88 = .ok (.aload_n 0, 1) := by decide +kernel
theorem dX2_lay_89 : decode cX2_lay 89 = .ok (.getfield 9, 3) := by decide +kernel
theorem dX2_lay_92 : decode cX2_lay 92 = .ok (.iload_n 2, 1) := by decide +kernel
theorem dX2_lay_93 : decode cX2_lay 93 = .ok (.iload_n 1, 1) := by decide +kernel
theorem dX2_lay_94 : decode cX2_lay 94 = .ok (.invokestatic 59, 3) := by decide +kernel
theorem dX2_lay_97 : decode cX2_lay 97 = .ok (.aload_n 0, 1) := by decide +kernel
theorem dX2_lay_98 : decode cX2_lay 98 = .ok (.dup, 1) := by decide +kernel
theorem dX2_lay_99 : decode cX2_lay 99 = .ok (.getfield 15, 3) := by decide +kernel
theorem dX2_lay_102 : decode cX2_lay 102 = .ok (.iconst 1, 1) := by decide +kernel
theorem dX2_lay_103 : decode cX2_lay 103 = .ok (.iadd, 1) := by decide +kernel
theorem dX2_lay_104 : decode cX2_lay 104 = .ok (.putfield 15, 3) := by decide +kernel
theorem dX2_lay_107 : decode cX2_lay 107 = .ok (.iinc 1 1, 3) := by decide +kernel
theorem dX2_lay_110 : decode cX2_lay 110 = .ok (.goto (-103), 3) := by decide +kernel
theorem dX2_lay_113 : decode cX2_lay 113 = .ok (.return_, 1) := by decide +kernel
theorem dX3_init_0 : decode cX3_init 0 = .ok (.aload_n 0, 1) := by decide +kernel
theorem dX3_init_1 : decode cX3_init 1 = .ok (.invokespecial 3, 3) := by decide +kernel
theorem dX3_init_4 : decode cX3_init 4 = .ok (.aload_n 0, 1) := by decide +kernel
theorem dX3_init_5 : decode cX3_init 5 = .ok (.bipush 100, 2) := by decide +kernel
theorem dX3_init_7 : decode cX3_init 7 = .ok (.newarray .int, 2) := by decide +kernel
theorem dX3_init_9 : decode cX3_init 9 = .ok (.putfield 9, 3) := by decide +kernel
theorem dX3_init_12 : decode cX3_init 12 = .ok (.aload_n 0, 1) := by decide +kernel
theorem dX3_init_13 : decode cX3_init 13 = .ok (.bipush 100, 2) := by decide +kernel
theorem dX3_init_15 : decode cX3_init 15 = .ok (.newarray .int, 2) := by decide +kernel
theorem dX3_init_17 : decode cX3_init 17 = .ok (.putfield 15, 3) := by decide +kernel
theorem dX3_init_20 : decode cX3_init 20 = .ok (.aload_n 0, 1) := by decide +kernel
theorem dX3_init_21 : decode cX3_init 21 = .ok (.bipush 100, 2) := by decide +kernel
theorem dX3_init_23 : decode cX3_init 23 = .ok (.newarray .int, 2) := by decide +kernel
theorem dX3_init_25 : decode cX3_init 25 = .ok (.putfield 18, 3) := by decide +kernel
theorem dX3_init_28 : decode cX3_init 28 = .ok (.aload_n 0, 1) := by decide +kernel
theorem dX3_init_29 : decode cX3_init 29 = .ok (.bipush 40, 2) := by decide +kernel
theorem dX3_init_31 : decode cX3_init 31 = .ok (.newarray .int, 2) := by decide +kernel
theorem dX3_init_33 : decode cX3_init 33 = .ok (.putfield 21, 3) := by decide +kernel
theorem dX3_init_36 : decode cX3_init 36 = .ok (.aload_n 0, 1) := by decide +kernel
theorem dX3_init_37 : decode cX3_init 37 = .ok (.bipush 40, 2) := by decide +kernel
theorem dX3_init_39 : decode cX3_init 39 = .ok (.newarray .int, 2) := by decide +kernel
theorem dX3_init_41 : decode cX3_init 41 = .ok (.putfield 24, 3) := by decide +kernel
theorem dX3_init_44 : decode cX3_init 44 = .ok (.aload_n 0, 1) := by decide +kernel
theorem dX3_init_45 : decode cX3_init 45 = .ok (.iconst 0, 1) := by decide +kernel
theorem dX3_init_46 : decode cX3_init 46 = .ok (.putfield 27, 3) := by decide +kernel
theorem dX3_init_49 : decode cX3_init 49 = .ok (.aload_n 0, 1) := by decide +kernel
theorem dX3_init_50 : decode cX3_init 50 = .ok (.iconst 0, 1) := by decide +kernel
theorem dX3_init_51 : decode cX3_init 51 = .ok (.putfield 31, 3) := by decide +kernel
theorem dX3_init_54 : decode cX3_init 54 = .ok (.return_, 1) := by decide +kernel
theorem dX3_size_0 : decode cX3_size 0 = .ok (.aload_n 0, 1) := by decide +kernel
theorem dX3_size_1 : decode cX3_size 1 = .ok (.getfield 27, 3) := by decide +kernel
theorem dX3_size_4 : decode cX3_size 4 = .ok (.bipush 100, 2) := by decide +kernel
theorem dX3_size_6 : decode cX3_size 6 = .ok (.invokestatic 34, 3) := by decide +kernel
theorem dX3_size_9 : decode cX3_size 9 = .ok (.ireturn, 1) := by decide +kernel
theorem dX3_has_0 : decode cX3_has 0 = .ok (.iload_n 1, 1) := by decide +kernel
theorem dX3_has_1 : decode cX3_has 1 = .ok (.ifCond .lt 15, 3) := by decide +kernel
theorem dX3_has_4 : decode cX3_has 4 = .ok (.iload_n 1, 1) := by decide +kernel
theorem dX3_has_5 : decode cX3_has 5 = .ok (.aload_n 0, 1) := by decide +kernel
theorem dX3_has_6 : decode cX3_has 6 = .ok (.invokevirtual 40, 3) := by decide +kernel
theorem dX3_has_9 : decode cX3_has 9 = .ok (.if_icmp .ge 7, 3) := by decide +kernel
theorem dX3_has_12 : decode cX3_has 12 = .ok (.iconst 1, 1) := by decide +kernel
theorem dX3_has_13 : decode cX3_has 13 = .ok (.goto 4, 3) := by decide +kernel
theorem dX3_has_16 : decode cX3_has 16 = .ok (.iconst 0, 1) := by decide +kernel
theorem dX3_has_17 : decode cX3_has 17 = .ok (.ireturn, 1) := by decide +kernel
theorem dX3_latestCount_0 : decode cX3_latestCount 0 = .ok (.aload_n 0, 1) := by decide +kernel
theorem dX3_latestCount_1 : decode cX3_latestCount 1 = .ok (.getfield 31, 3) := by decide +kernel
theorem dX3_latestCount_4 : decode cX3_latestCount 4 = .ok (.ireturn, 1) := by decide +kernel
theorem dX3_write_0 : decode cX3_write 0 = .ok (.aload_n 0, 1) := by decide +kernel
theorem dX3_write_1 : decode cX3_write 1 = .ok (.getfield 27, 3) := by decide +kernel
theorem dX3_write_4 : decode cX3_write 4 = .ok (.bipush 100, 2) := by decide +kernel
theorem dX3_write_6 : decode cX3_write 6 = .ok (.irem, 1) := by decide +kernel
theorem dX3_write_7 : decode cX3_write 7 = .ok (.istore 4, 2) := by decide +kernel
theorem dX3_write_9 : decode cX3_write 9 = .ok (.aload_n 0, 1) := by decide +kernel
theorem dX3_write_10 : decode cX3_write 10 = .ok (.getfield 9, 3) := by decide +kernel
theorem dX3_write_13 : decode cX3_write 13 = .ok (.iload 4, 2) := by decide +kernel
theorem dX3_write_15 : decode cX3_write 15 = .ok (.iload_n 1, 1) := by decide +kernel
theorem dX3_write_16 : decode cX3_write 16 = .ok (.invokestatic 44, 3) := by decide +kernel
theorem dX3_write_19 : decode cX3_write 19 = .ok (.aload_n 0, 1) := by decide +kernel
theorem dX3_write_20 : decode cX3_write 20 = .ok (.getfield 15, 3) := by decide +kernel
theorem dX3_write_23 : decode cX3_write 23 = .ok (.iload 4, 2) := by decide +kernel
theorem dX3_write_25 : decode cX3_write 25 = .ok (.iload_n 2, 1) := by decide +kernel
theorem dX3_write_26 : decode cX3_write 26 = .ok (.invokestatic 44, 3) := by decide +kernel
theorem dX3_write_29 : decode cX3_write 29 = .ok (.aload_n 0, 1) := by decide +kernel
theorem dX3_write_30 : decode cX3_write 30 = .ok (.getfield 18, 3) := by decide +kernel
theorem dX3_write_33 : decode cX3_write 33 = .ok (.iload 4, 2) := by decide +kernel
theorem dX3_write_35 : decode cX3_write 35 = .ok (.iload_n 3, 1) := by decide +kernel
theorem dX3_write_36 : decode cX3_write 36 = .ok (.invokestatic 44, 3) := by decide +kernel
theorem dX3_write_39 : decode cX3_write 39 = .ok (.aload_n 0, 1) := by decide +kernel
theorem dX3_write_40 : decode cX3_write 40 = .ok (.dup, 1) := by decide +kernel
theorem dX3_write_41 : decode cX3_write 41 = .ok (.getfield 27, 3) := by decide +kernel
theorem dX3_write_44 : decode cX3_write 44 = .ok (.iconst 1, 1) := by decide +kernel
theorem dX3_write_45 : decode cX3_write 45 = .ok (.iadd, 1) := by decide +kernel
theorem dX3_write_46 : decode cX3_write 46 = .ok (.putfield 27, 3) := by decide +kernel
theorem dX3_write_49 : decode cX3_write 49 = .ok (.return_, 1) := by decide +kernel
theorem dX3_memberAt_0 : decode cX3_memberAt 0 = .ok (.aload_n 0, 1) := by decide +kernel
theorem dX3_memberAt_1 : decode cX3_memberAt 1 = .ok (.getfield 9, 3) := by decide +kernel
theorem dX3_memberAt_4 : decode cX3_memberAt 4 = .ok (.aload_n 0, 1) := by decide +kernel
theorem dX3_memberAt_5 : decode cX3_memberAt 5 = .ok (.iload_n 1, 1) := by decide +kernel
theorem dX3_memberAt_6 : decode cX3_memberAt 6 = .ok (.invokevirtual 48, 3) := by decide +kernel
theorem dX3_memberAt_9 : decode cX3_memberAt 9 = .ok (.invokestatic 52, 3) := by decide +kernel
theorem dX3_memberAt_12 : decode cX3_memberAt 12 = .ok (.ireturn, 1) := by decide +kernel
theorem dX3_sortAt_0 : decode cX3_sortAt 0 = .ok (.aload_n 0, 1) := by decide +kernel
theorem dX3_sortAt_1 : decode cX3_sortAt 1 = .ok (.getfield 15, 3) := by decide +kernel
theorem dX3_sortAt_4 : decode cX3_sortAt 4 = .ok (.aload_n 0, 1) := by decide +kernel
theorem dX3_sortAt_5 : decode cX3_sortAt 5 = .ok (.iload_n 1, 1) := by decide +kernel
theorem dX3_sortAt_6 : decode cX3_sortAt 6 = .ok (.invokevirtual 48, 3) := by decide +kernel
theorem dX3_sortAt_9 : decode cX3_sortAt 9 = .ok (.invokestatic 52, 3) := by decide +kernel
theorem dX3_sortAt_12 : decode cX3_sortAt 12 = .ok (.ireturn, 1) := by decide +kernel
theorem dX3_firstTicksAt_0 : decode cX3_firstTicksAt 0 = .ok (.aload_n 0, 1) := by decide +kernel
theorem dX3_firstTicksAt_1 : decode cX3_firstTicksAt 1 = .ok (.getfield 18, 3) := by decide +kernel
theorem dX3_firstTicksAt_4 : decode cX3_firstTicksAt 4 = .ok (.aload_n 0, 1) := by decide +kernel
theorem dX3_firstTicksAt_5 : decode cX3_firstTicksAt 5 = .ok (.iload_n 1, 1) := by decide +kernel
theorem dX3_firstTicksAt_6 : decode cX3_firstTicksAt 6 = .ok (.invokevirtual 48, 3) := by decide +kernel
theorem dX3_firstTicksAt_9 : decode cX3_firstTicksAt 9 = .ok (.invokestatic 52, 3) := by decide +kernel
theorem dX3_firstTicksAt_12 : decode cX3_firstTicksAt 12 = .ok (.ireturn, 1) := by decide +kernel
theorem dX3_ticksAsOf_0 : decode cX3_ticksAsOf 0 = .ok (.aload_n 0, 1) := by decide +kernel
theorem dX3_ticksAsOf_1 : decode cX3_ticksAsOf 1 = .ok (.iload_n 1, 1) := by decide +kernel
theorem dX3_ticksAsOf_2 : decode cX3_ticksAsOf 2 = .ok (.invokevirtual 56, 3) := by decide +kernel
theorem dX3_ticksAsOf_5 : decode cX3_ticksAsOf 5 = .ok (.istore_n 3, 1) := by decide +kernel
theorem dX3_ticksAsOf_6 : decode cX3_ticksAsOf 6 = .ok (.iload_n 2, 1) := by decide +kernel
theorem dX3_ticksAsOf_7 : decode cX3_ticksAsOf 7 = .ok (.aload_n 0, 1) := by decide +kernel
theorem dX3_ticksAsOf_8 : decode cX3_ticksAsOf 8 = .ok (.getfield 31, 3) := by decide +kernel
theorem dX3_ticksAsOf_11 : decode cX3_ticksAsOf 11 = .ok (.invokestatic 34, 3) := by decide +kernel
theorem dX3_ticksAsOf_14 : decode cX3_ticksAsOf 14 = .ok (.istore 4, 2) := by decide +kernel
theorem dX3_ticksAsOf_16 : decode cX3_ticksAsOf 16 = .ok (.iload 4, 2) := by decide +kernel
theorem dX3_ticksAsOf_18 : decode cX3_ticksAsOf 18 = .ok (.ifCond .le 36, 3) := by decide +kernel
theorem dX3_ticksAsOf_21 : decode cX3_ticksAsOf 21 = .ok (.aload_n 0, 1) := by decide +kernel
theorem dX3_ticksAsOf_22 : decode cX3_ticksAsOf 22 = .ok (.getfield 21, 3) := by decide +kernel
theorem dX3_ticksAsOf_25 : decode cX3_ticksAsOf 25 = .ok (.iload 4, 2) := by decide +kernel
theorem dX3_ticksAsOf_27 : decode cX3_ticksAsOf 27 = .ok (.iconst 1, 1) := by decide +kernel
theorem dX3_ticksAsOf_28 : decode cX3_ticksAsOf 28 = .ok (.isub, 1) := by decide +kernel
theorem dX3_ticksAsOf_29 : decode cX3_ticksAsOf 29 = .ok (.invokestatic 52, 3) := by decide +kernel
theorem dX3_ticksAsOf_32 : decode cX3_ticksAsOf 32 = .ok (.iload_n 3, 1) := by decide +kernel
theorem dX3_ticksAsOf_33 : decode cX3_ticksAsOf 33 = .ok (.if_icmp .ne 15, 3) := by decide +kernel
theorem dX3_ticksAsOf_36 : decode cX3_ticksAsOf 36 = .ok (.aload_n 0, 1) := by decide +kernel
theorem dX3_ticksAsOf_37 : decode cX3_ticksAsOf 37 = .ok (.getfield 24, 3) := by decide +kernel
theorem dX3_ticksAsOf_40 : decode cX3_ticksAsOf 40 = .ok (.iload 4, 2) := by decide +kernel
theorem dX3_ticksAsOf_42 : decode cX3_ticksAsOf 42 = .ok (.iconst 1, 1) := by decide +kernel
theorem dX3_ticksAsOf_43 : decode cX3_ticksAsOf 43 = .ok (.isub, 1) := by decide +kernel
theorem dX3_ticksAsOf_44 : decode cX3_ticksAsOf 44 = .ok (.invokestatic 52, 3) := by decide +kernel
theorem dX3_ticksAsOf_47 : decode cX3_ticksAsOf 47 = .ok (.ireturn, 1) := by decide +kernel
theorem dX3_ticksAsOf_48 : decode cX3_ticksAsOf 48 = .ok (.iinc 4 (-1), 3) := by decide +kernel
theorem dX3_ticksAsOf_51 : decode cX3_ticksAsOf 51 = .ok (.goto (-35), 3) := by decide +kernel
theorem dX3_ticksAsOf_54 : decode cX3_ticksAsOf 54 = .ok (.aload_n 0, 1) := by decide +kernel
theorem dX3_ticksAsOf_55 : decode cX3_ticksAsOf 55 = .ok (.iload_n 1, 1) := by decide +kernel
theorem dX3_ticksAsOf_56 : decode cX3_ticksAsOf 56 = .ok (.invokevirtual 59, 3) := by decide +kernel
theorem dX3_ticksAsOf_59 : decode cX3_ticksAsOf 59 = .ok (.ireturn, 1) := by decide +kernel
theorem dX3_correct_0 : decode cX3_correct 0 = .ok (.aload_n 0, 1) := by decide +kernel
theorem dX3_correct_1 : decode cX3_correct 1 = .ok (.getfield 31, 3) := by decide +kernel
theorem dX3_correct_4 : decode cX3_correct 4 = .ok (.bipush 40, 2) := by decide +kernel
theorem dX3_correct_6 : decode cX3_correct 6 = .ok (.if_icmp .ge 41, 3) := by decide +kernel
theorem dX3_correct_9 : decode cX3_correct 9 = .ok (.aload_n 0, 1) := by decide +kernel
theorem dX3_correct_10 : decode cX3_correct 10 = .ok (.getfield 21, 3) := by decide +kernel
theorem dX3_correct_13 : decode cX3_correct 13 = .ok (.aload_n 0, 1) := by decide +kernel
theorem dX3_correct_14 : decode cX3_correct 14 = .ok (.getfield 31, 3) := by decide +kernel
theorem dX3_correct_17 : decode cX3_correct 17 = .ok (.aload_n 0, 1) := by decide +kernel
theorem dX3_correct_18 : decode cX3_correct 18 = .ok (.iload_n 1, 1) := by decide +kernel
theorem dX3_correct_19 : decode cX3_correct 19 = .ok (.invokevirtual 56, 3) := by decide +kernel
theorem dX3_correct_22 : decode cX3_correct 22 = .ok (.invokestatic 44, 3) := by decide +kernel
theorem dX3_correct_25 : decode cX3_correct 25 = .ok (.aload_n 0, 1) := by decide +kernel
theorem dX3_correct_26 : decode cX3_correct 26 = .ok (.getfield 24, 3) := by decide +kernel
theorem dX3_correct_29 : decode cX3_correct 29 = .ok (.aload_n 0, 1) := by decide +kernel
theorem dX3_correct_30 : decode cX3_correct 30 = .ok (.getfield 31, 3) := by decide +kernel
theorem dX3_correct_33 : decode cX3_correct 33 = .ok (.iload_n 2, 1) := by decide +kernel
theorem dX3_correct_34 : decode cX3_correct 34 = .ok (.invokestatic 44, 3) := by decide +kernel
theorem dX3_correct_37 : decode cX3_correct 37 = .ok (.aload_n 0, 1) := by decide +kernel
theorem dX3_correct_38 : decode cX3_correct 38 = .ok (.dup, 1) := by decide +kernel
theorem dX3_correct_39 : decode cX3_correct 39 = .ok (.getfield 31, 3) := by decide +kernel
theorem dX3_correct_42 : decode cX3_correct 42 = .ok (.iconst 1, 1) := by decide +kernel
theorem dX3_correct_43 : decode cX3_correct 43 = .ok (.iadd, 1) := by decide +kernel
theorem dX3_correct_44 : decode cX3_correct 44 = .ok (.putfield 31, 3) := by decide +kernel
theorem dX3_correct_47 : decode cX3_correct 47 = .ok (.return_, 1) := by decide +kernel
theorem dX3_ticksOfMember_0 : decode cX3_ticksOfMember 0 = .ok (.iconst 0, 1) := by decide +kernel
theorem dX3_ticksOfMember_1 : decode cX3_ticksOfMember 1 = .ok (.istore_n 3, 1) := by decide +kernel
theorem dX3_ticksOfMember_2 : decode cX3_ticksOfMember 2 = .ok (.iconst 0, 1) := by decide +kernel
theorem dX3_ticksOfMember_3 : decode cX3_ticksOfMember 3 = .ok (.istore 4, 2) := by decide +kernel
theorem dX3_ticksOfMember_5 : decode cX3_ticksOfMember 5 = .ok (.iload 4, 2) := by decide +kernel
theorem dX3_ticksOfMember_7 : decode cX3_ticksOfMember 7 = .ok (.aload_n 0, 1) := by decide +kernel
theorem dX3_ticksOfMember_8 : decode cX3_ticksOfMember 8 = .ok (.invokevirtual 40, 3) := by decide +kernel
theorem dX3_ticksOfMember_11 : decode cX3_ticksOfMember 11 = .ok (.if_icmp .ge 29, 3) := by decide +kernel
theorem dX3_ticksOfMember_14 : decode cX3_ticksOfMember 14 = .ok (.aload_n 0, 1) := by decide +kernel
theorem dX3_ticksOfMember_15 : decode cX3_ticksOfMember 15 = .ok (.iload 4, 2) := by decide +kernel
theorem dX3_ticksOfMember_17 : decode cX3_ticksOfMember 17 = .ok (.invokevirtual 62, 3) := by decide +kernel
theorem dX3_ticksOfMember_20 : decode cX3_ticksOfMember 20 = .ok (.iload_n 1, 1) := by decide +kernel
theorem dX3_ticksOfMember_21 : decode cX3_ticksOfMember 21 = .ok (.if_icmp .ne 13, 3) := by decide +kernel
theorem dX3_ticksOfMember_24 : decode cX3_ticksOfMember 24 = .ok (.iload_n 3, 1) := by decide +kernel
theorem dX3_ticksOfMember_25 : decode cX3_ticksOfMember 25 = .ok (.aload_n 0, 1) := by decide +kernel
theorem dX3_ticksOfMember_26 : decode cX3_ticksOfMember 26 = .ok (.iload 4, 2) := by decide +kernel
theorem dX3_ticksOfMember_28 : decode cX3_ticksOfMember 28 = .ok (.iload_n 2, 1) := by decide +kernel
theorem dX3_ticksOfMember_29 : decode cX3_ticksOfMember 29 = .ok (.invokevirtual 65, 3) := by decide +kernel
theorem dX3_ticksOfMember_32 : decode cX3_ticksOfMember 32 = .ok (.iadd, 1) := by decide +kernel
theorem dX3_ticksOfMember_33 : decode cX3_ticksOfMember 33 = .ok (.istore_n 3, 1) := by decide +kernel
theorem dX3_ticksOfMember_34 : decode cX3_ticksOfMember 34 = .ok (.iinc 4 1, 3) := by decide +kernel
theorem dX3_ticksOfMember_37 : decode cX3_ticksOfMember 37 = .ok (.goto (-32), 3) := by decide +kernel
theorem dX3_ticksOfMember_40 : decode cX3_ticksOfMember 40 = .ok (.iload_n 3, 1) := by decide +kernel
theorem dX3_ticksOfMember_41 : decode cX3_ticksOfMember 41 = .ok (.ireturn, 1) := by decide +kernel
theorem dX3_rowWritten_0 : decode cX3_rowWritten 0 = .ok (.aload_n 0, 1) := by decide +kernel
theorem dX3_rowWritten_1 : decode cX3_rowWritten 1 = .ok (.getfield 27, 3) := by decide +kernel
theorem dX3_rowWritten_4 : decode cX3_rowWritten 4 = .ok (.aload_n 0, 1) := by decide +kernel
theorem dX3_rowWritten_5 : decode cX3_rowWritten 5 = .ok (.invokevirtual 40, 3) := by decide +kernel
theorem dX3_rowWritten_8 : decode cX3_rowWritten 8 = .ok (.isub, 1) := by decide +kernel
theorem dX3_rowWritten_9 : decode cX3_rowWritten 9 = .ok (.iload_n 1, 1) := by decide +kernel
theorem dX3_rowWritten_10 : decode cX3_rowWritten 10 = .ok (.iadd, 1) := by decide +kernel
theorem dX3_rowWritten_11 : decode cX3_rowWritten 11 = .ok (.ireturn, 1) := by decide +kernel
theorem dX3_slotOf_0 : decode cX3_slotOf 0 = .ok (.aload_n 0, 1) := by decide +kernel
theorem dX3_slotOf_1 : decode cX3_slotOf 1 = .ok (.iload_n 1, 1) := by decide +kernel
theorem dX3_slotOf_2 : decode cX3_slotOf 2 = .ok (.invokevirtual 56, 3) := by decide +kernel
theorem dX3_slotOf_5 : decode cX3_slotOf 5 = .ok (.bipush 100, 2) := by decide +kernel
theorem dX3_slotOf_7 : decode cX3_slotOf 7 = .ok (.irem, 1) := by decide +kernel
theorem dX3_slotOf_8 : decode cX3_slotOf 8 = .ok (.ireturn, 1) := by decide +kernel
theorem dX4_init_0 : decode cX4_init 0 = .ok (.aload_n 0, 1) := by decide +kernel
theorem dX4_init_1 : decode cX4_init 1 = .ok (.invokespecial 3, 3) := by decide +kernel
theorem dX4_init_4 : decode cX4_init 4 = .ok (.aload_n 0, 1) := by decide +kernel
theorem dX4_init_5 : decode cX4_init 5 = .ok (.bipush 10, 2) := by decide +kernel
theorem dX4_init_7 : decode cX4_init 7 = .ok (.newarray .int, 2) := by decide +kernel
theorem dX4_init_9 : decode cX4_init 9 = .ok (.putfield 9, 3) := by decide +kernel
theorem dX4_init_12 : decode cX4_init 12 = .ok (.aload_n 0, 1) := by decide +kernel
theorem dX4_init_13 : decode cX4_init 13 = .ok (.bipush 10, 2) := by decide +kernel
theorem dX4_init_15 : decode cX4_init 15 = .ok (.newarray .int, 2) := by decide +kernel
theorem dX4_init_17 : decode cX4_init 17 = .ok (.putfield 15, 3) := by decide +kernel
theorem dX4_init_20 : decode cX4_init 20 = .ok (.aload_n 0, 1) := by decide +kernel
theorem dX4_init_21 : decode cX4_init 21 = .ok (.bipush 10, 2) := by decide +kernel
theorem dX4_init_23 : decode cX4_init 23 = .ok (.newarray .boolean, 2) := by decide +kernel
theorem dX4_init_25 : decode cX4_init 25 = .ok (.putfield 18, 3) := by decide +kernel
theorem dX4_init_28 : decode cX4_init 28 = .ok (.aload_n 0, 1) := by decide +kernel
theorem dX4_init_29 : decode cX4_init 29 = .ok (.iconst 0, 1) := by decide +kernel
theorem dX4_init_30 : decode cX4_init 30 = .ok (.putfield 22, 3) := by decide +kernel
theorem dX4_init_33 : decode cX4_init 33 = .ok (.return_, 1) := by decide +kernel
theorem dX4_size_0 : decode cX4_size 0 = .ok (.aload_n 0, 1) := by decide +kernel
theorem dX4_size_1 : decode cX4_size 1 = .ok (.getfield 22, 3) := by decide +kernel
theorem dX4_size_4 : decode cX4_size 4 = .ok (.ireturn, 1) := by decide +kernel
theorem dX4_has_0 : decode cX4_has 0 = .ok (.iload_n 1, 1) := by decide +kernel
theorem dX4_has_1 : decode cX4_has 1 = .ok (.ifCond .lt 15, 3) := by decide +kernel
theorem dX4_has_4 : decode cX4_has 4 = .ok (.iload_n 1, 1) := by decide +kernel
theorem dX4_has_5 : decode cX4_has 5 = .ok (.aload_n 0, 1) := by decide +kernel
theorem dX4_has_6 : decode cX4_has 6 = .ok (.getfield 22, 3) := by decide +kernel
theorem dX4_has_9 : decode cX4_has 9 = .ok (.if_icmp .ge 7, 3) := by decide +kernel
theorem dX4_has_12 : decode cX4_has 12 = .ok (.iconst 1, 1) := by decide +kernel
theorem dX4_has_13 : decode cX4_has 13 = .ok (.goto 4, 3) := by decide +kernel
theorem dX4_has_16 : decode cX4_has 16 = .ok (.iconst 0, 1) := by decide +kernel
theorem dX4_has_17 : decode cX4_has 17 = .ok (.ireturn, 1) := by decide +kernel
theorem dX4_enter_0 : decode cX4_enter 0 = .ok (.aload_n 0, 1) := by decide +kernel
theorem dX4_enter_1 : decode cX4_enter 1 = .ok (.getfield 22, 3) := by decide +kernel
theorem dX4_enter_4 : decode cX4_enter 4 = .ok (.istore_n 3, 1) := by decide +kernel
theorem dX4_enter_5 : decode cX4_enter 5 = .ok (.aload_n 0, 1) := by decide +kernel
theorem dX4_enter_6 : decode cX4_enter 6 = .ok (.getfield 9, 3) := by decide +kernel
theorem dX4_enter_9 : decode cX4_enter 9 = .ok (.iload_n 3, 1) := by decide +kernel
theorem dX4_enter_10 : decode cX4_enter 10 = .ok (.iload_n 1, 1) := by decide +kernel
theorem dX4_enter_11 : decode cX4_enter 11 = .ok (.invokestatic 26, 3) := by decide +kernel
theorem dX4_enter_14 : decode cX4_enter 14 = .ok (.aload_n 0, 1) := by decide +kernel
theorem dX4_enter_15 : decode cX4_enter 15 = .ok (.getfield 15, 3) := by decide +kernel
theorem dX4_enter_18 : decode cX4_enter 18 = .ok (.iload_n 3, 1) := by decide +kernel
theorem dX4_enter_19 : decode cX4_enter 19 = .ok (.iload_n 2, 1) := by decide +kernel
theorem dX4_enter_20 : decode cX4_enter 20 = .ok (.invokestatic 26, 3) := by decide +kernel
theorem dX4_enter_23 : decode cX4_enter 23 = .ok (.aload_n 0, 1) := by decide +kernel
theorem dX4_enter_24 : decode cX4_enter 24 = .ok (.dup, 1) := by decide +kernel
theorem dX4_enter_25 : decode cX4_enter 25 = .ok (.getfield 22, 3) := by decide +kernel
theorem dX4_enter_28 : decode cX4_enter 28 = .ok (.iconst 1, 1) := by decide +kernel
theorem dX4_enter_29 : decode cX4_enter 29 = .ok (.iadd, 1) := by decide +kernel
theorem dX4_enter_30 : decode cX4_enter 30 = .ok (.putfield 22, 3) := by decide +kernel
theorem dX4_enter_33 : decode cX4_enter 33 = .ok (.aload_n 0, 1) := by decide +kernel
theorem dX4_enter_34 : decode cX4_enter 34 = .ok (.iload_n 3, 1) := by decide +kernel
theorem dX4_enter_35 : decode cX4_enter 35 = .ok (.iconst 1, 1) := by decide +kernel
theorem dX4_enter_36 : decode cX4_enter 36 = .ok (.invokevirtual 30, 3) := by decide +kernel
theorem dX4_enter_39 : decode cX4_enter 39 = .ok (.iload_n 3, 1) := by decide +kernel
theorem dX4_enter_40 : decode cX4_enter 40 = .ok (.ireturn, 1) := by decide +kernel
theorem dX4_kindOf_0 : decode cX4_kindOf 0 = .ok (.aload_n 0, 1) := by decide +kernel
theorem dX4_kindOf_1 : decode cX4_kindOf 1 = .ok (.getfield 9, 3) := by decide +kernel
theorem dX4_kindOf_4 : decode cX4_kindOf 4 = .ok (.iload_n 1, 1) := by decide +kernel
theorem dX4_kindOf_5 : decode cX4_kindOf 5 = .ok (.invokestatic 34, 3) := by decide +kernel
theorem dX4_kindOf_8 : decode cX4_kindOf 8 = .ok (.ireturn, 1) := by decide +kernel
theorem dX4_delegationOf_0 : decode cX4_delegationOf 0 = .ok (.aload_n 0, 1) := by decide +kernel
theorem dX4_delegationOf_1 : decode cX4_delegationOf 1 = .ok (.getfield 15, 3) := by decide +kernel
theorem dX4_delegationOf_4 : decode cX4_delegationOf 4 = .ok (.iload_n 1, 1) := by decide +kernel
theorem dX4_delegationOf_5 : decode cX4_delegationOf 5 = .ok (.invokestatic 34, 3) := by decide +kernel
theorem dX4_delegationOf_8 : decode cX4_delegationOf 8 = .ok (.ireturn, 1) := by decide +kernel
theorem dX4_isHere_0 : decode cX4_isHere 0 = .ok (.iload_n 1, 1) := by decide +kernel
theorem dX4_isHere_1 : decode cX4_isHere 1 = .ok (.ifCond .lt 25, 3) := by decide +kernel
theorem dX4_isHere_4 : decode cX4_isHere 4 = .ok (.iload_n 1, 1) := by decide +kernel
theorem dX4_isHere_5 : decode cX4_isHere 5 = .ok (.aload_n 0, 1) := by decide +kernel
theorem dX4_isHere_6 : decode cX4_isHere 6 = .ok (.getfield 18, 3) := by decide +kernel
theorem dX4_isHere_9 : decode cX4_isHere 9 = .ok (.arraylength, 1) := by decide +kernel
theorem dX4_isHere_10 : decode cX4_isHere 10 = .ok (.if_icmp .ge 16, 3) := by decide +kernel
theorem dX4_isHere_13 : decode cX4_isHere 13 = .ok (.aload_n 0, 1) := by decide +kernel
theorem dX4_isHere_14 : decode cX4_isHere 14 = .ok (.getfield 18, 3) := by decide +kernel
theorem dX4_isHere_17 : decode cX4_isHere 17 = .ok (.iload_n 1, 1) := by decide +kernel
theorem dX4_isHere_18 : decode cX4_isHere 18 = .ok (.baload, 1) := by decide +kernel
theorem dX4_isHere_19 : decode cX4_isHere 19 = .ok (.ifCond .eq 7, 3) := by decide +kernel
theorem dX4_isHere_22 : decode cX4_isHere 22 = .ok (.iconst 1, 1) := by decide +kernel
theorem dX4_isHere_23 : decode cX4_isHere 23 = .ok (.goto 4, 3) := by decide +kernel
theorem dX4_isHere_26 : decode cX4_isHere 26 = .ok (.iconst 0, 1) := by decide +kernel
theorem dX4_isHere_27 : decode cX4_isHere 27 = .ok (.ireturn, 1) := by decide +kernel
theorem dX4_setHere_0 : decode cX4_setHere 0 = .ok (.iload_n 1, 1) := by decide +kernel
theorem dX4_setHere_1 : decode cX4_setHere 1 = .ok (.ifCond .lt 19, 3) := by decide +kernel
theorem dX4_setHere_4 : decode cX4_setHere 4 = .ok (.iload_n 1, 1) := by decide +kernel
theorem dX4_setHere_5 : decode cX4_setHere 5 = .ok (.aload_n 0, 1) := by decide +kernel
theorem dX4_setHere_6 : decode cX4_setHere 6 = .ok (.getfield 18, 3) := by decide +kernel
theorem dX4_setHere_9 : decode cX4_setHere 9 = .ok (.arraylength, 1) := by decide +kernel
theorem dX4_setHere_10 : decode cX4_setHere 10 = .ok (.if_icmp .ge 10, 3) := by decide +kernel
theorem dX4_setHere_13 : decode cX4_setHere 13 = .ok (.aload_n 0, 1) := by decide +kernel
theorem dX4_setHere_14 : decode cX4_setHere 14 = .ok (.getfield 18, 3) := by decide +kernel
theorem dX4_setHere_17 : decode cX4_setHere 17 = .ok (.iload_n 1, 1) := by decide +kernel
theorem dX4_setHere_18 : decode cX4_setHere 18 = .ok (.iload_n 2, 1) := by decide +kernel
theorem dX4_setHere_19 : decode cX4_setHere 19 = .ok (.bastore, 1) := by decide +kernel
theorem dX4_setHere_20 : decode cX4_setHere 20 = .ok (.return_, 1) := by decide +kernel
theorem dX4_isOfKind_0 : decode cX4_isOfKind 0 = .ok (.aload_n 0, 1) := by decide +kernel
theorem dX4_isOfKind_1 : decode cX4_isOfKind 1 = .ok (.getfield 9, 3) := by decide +kernel
theorem dX4_isOfKind_4 : decode cX4_isOfKind 4 = .ok (.iload_n 1, 1) := by decide +kernel
theorem dX4_isOfKind_5 : decode cX4_isOfKind 5 = .ok (.invokestatic 34, 3) := by decide +kernel
theorem dX4_isOfKind_8 : decode cX4_isOfKind 8 = .ok (.istore_n 3, 1) := by decide +kernel
theorem dX4_isOfKind_9 : decode cX4_isOfKind 9 = .ok (.iconst 0, 1) := by decide +kernel
theorem dX4_isOfKind_10 : decode cX4_isOfKind 10 = .ok (.istore 4, 2) := by decide +kernel
theorem dX4_isOfKind_12 : decode cX4_isOfKind 12 = .ok (.iload 4, 2) := by decide +kernel
theorem dX4_isOfKind_14 : decode cX4_isOfKind 14 = .ok (.iconst 4, 1) := by decide +kernel
theorem dX4_isOfKind_15 : decode cX4_isOfKind 15 = .ok (.if_icmp .ge 22, 3) := by decide +kernel
theorem dX4_isOfKind_18 : decode cX4_isOfKind 18 = .ok (.iload_n 3, 1) := by decide +kernel
theorem dX4_isOfKind_19 : decode cX4_isOfKind 19 = .ok (.iload_n 2, 1) := by decide +kernel
theorem dX4_isOfKind_20 : decode cX4_isOfKind 20 = .ok (.if_icmp .eq 17, 3) := by decide +kernel
theorem dX4_isOfKind_23 : decode cX4_isOfKind 23 = .ok (.getstatic 38, 3) := by decide +kernel
theorem dX4_isOfKind_26 : decode cX4_isOfKind 26 = .ok (.iload_n 3, 1) := by decide +kernel
theorem dX4_isOfKind_27 : decode cX4_isOfKind 27 = .ok (.invokestatic 34, 3) := by decide +kernel
theorem dX4_isOfKind_30 : decode cX4_isOfKind 30 = .ok (.istore_n 3, 1) := by decide +kernel
theorem dX4_isOfKind_31 : decode cX4_isOfKind 31 = .ok (.iinc 4 1, 3) := by decide +kernel
theorem dX4_isOfKind_34 : decode cX4_isOfKind 34 = .ok (.goto (-22), 3) := by decide +kernel
theorem dX4_isOfKind_37 : decode cX4_isOfKind 37 = .ok (.iload_n 3, 1) := by decide +kernel
theorem dX4_isOfKind_38 : decode cX4_isOfKind 38 = .ok (.iload_n 2, 1) := by decide +kernel
theorem dX4_isOfKind_39 : decode cX4_isOfKind 39 = .ok (.if_icmp .ne 7, 3) := by decide +kernel
theorem dX4_isOfKind_42 : decode cX4_isOfKind 42 = .ok (.iconst 1, 1) := by decide +kernel
theorem dX4_isOfKind_43 : decode cX4_isOfKind 43 = .ok (.goto 4, 3) := by decide +kernel
theorem dX4_isOfKind_46 : decode cX4_isOfKind 46 = .ok (.iconst 0, 1) := by decide +kernel
theorem dX4_isOfKind_47 : decode cX4_isOfKind 47 = .ok (.ireturn, 1) := by decide +kernel
theorem dX4_mayVote_0 : decode cX4_mayVote 0 = .ok (.aload_n 0, 1) := by decide +kernel
theorem dX4_mayVote_1 : decode cX4_mayVote 1 = .ok (.iload_n 1, 1) := by decide +kernel
theorem dX4_mayVote_2 : decode cX4_mayVote 2 = .ok (.invokevirtual 41, 3) := by decide +kernel
theorem dX4_mayVote_5 : decode cX4_mayVote 5 = .ok (.ifCond .eq 16, 3) := by decide +kernel
theorem dX4_mayVote_8 : decode cX4_mayVote 8 = .ok (.aload_n 0, 1) := by decide +kernel
theorem dX4_mayVote_9 : decode cX4_mayVote 9 = .ok (.iload_n 1, 1) := by decide +kernel
theorem dX4_mayVote_10 : decode cX4_mayVote 10 = .ok (.iconst 1, 1) := by decide +kernel
theorem dX4_mayVote_11 : decode cX4_mayVote 11 = .ok (.invokevirtual 45, 3) := by decide +kernel
theorem dX4_mayVote_14 : decode cX4_mayVote 14 = .ok (.ifCond .ne 7, 3) := by decide +kernel
theorem dX4_mayVote_17 : decode cX4_mayVote 17 = .ok (.iconst 1, 1) := by decide +kernel
theorem dX4_mayVote_18 : decode cX4_mayVote 18 = .ok (.goto 4, 3) := by decide +kernel
theorem dX4_mayVote_21 : decode cX4_mayVote 21 = .ok (.iconst 0, 1) := by decide +kernel
theorem dX4_mayVote_22 : decode cX4_mayVote 22 = .ok (.ireturn, 1) := by decide +kernel
theorem dX4_isPeopled_0 : decode cX4_isPeopled 0 = .ok (.iconst 0, 1) := by decide +kernel
theorem dX4_isPeopled_1 : decode cX4_isPeopled 1 = .ok (.istore_n 2, 1) := by decide +kernel
theorem dX4_isPeopled_2 : decode cX4_isPeopled 2 = .ok (.iload_n 2, 1) := by decide +kernel
theorem dX4_isPeopled_3 : decode cX4_isPeopled 3 = .ok (.aload_n 0, 1) := by decide +kernel
theorem dX4_isPeopled_4 : decode cX4_isPeopled 4 = .ok (.getfield 22, 3) := by decide +kernel
theorem dX4_isPeopled_7 : decode cX4_isPeopled 7 = .ok (.if_icmp .ge 20, 3) := by decide +kernel
theorem dX4_isPeopled_10 : decode cX4_isPeopled 10 = .ok (.aload_n 0, 1) := by decide +kernel
theorem dX4_isPeopled_11 : decode cX4_isPeopled 11 = .ok (.iload_n 2, 1) := by decide +kernel
theorem dX4_isPeopled_12 : decode cX4_isPeopled 12 = .ok (.invokevirtual 49, 3) := by decide +kernel
theorem dX4_isPeopled_15 : decode cX4_isPeopled 15 = .ok (.iload_n 1, 1) := by decide +kernel
theorem dX4_isPeopled_16 : decode cX4_isPeopled 16 = .ok (.if_icmp .ne 5, 3) := by decide +kernel
theorem dX4_isPeopled_19 : decode cX4_isPeopled 19 = .ok (.iconst 1, 1) := by decide +kernel
theorem dX4_isPeopled_20 : decode cX4_isPeopled 20 = .ok (.ireturn, 1) := by decide +kernel
theorem dX4_isPeopled_21 : decode cX4_isPeopled 21 = .ok (.iinc 2 1, 3) := by decide +kernel
theorem dX4_isPeopled_24 : decode cX4_isPeopled 24 = .ok (.goto (-22), 3) := by decide +kernel
theorem dX4_isPeopled_27 : decode cX4_isPeopled 27 = .ok (.iconst 0, 1) := by decide +kernel
theorem dX4_isPeopled_28 : decode cX4_isPeopled 28 = .ok (.ireturn, 1) := by decide +kernel
theorem dX5_init_0 : decode cX5_init 0 = .ok (.aload_n 0, 1) := by decide +kernel
theorem dX5_init_1 : decode cX5_init 1 = .ok (.invokespecial 3, 3) := by decide +kernel
theorem dX5_init_4 : decode cX5_init 4 = .ok (.aload_n 0, 1) := by decide +kernel
theorem dX5_init_5 : decode cX5_init 5 = .ok (.bipush 6, 2) := by decide +kernel
theorem dX5_init_7 : decode cX5_init 7 = .ok (.newarray .int, 2) := by decide +kernel
theorem dX5_init_9 : decode cX5_init 9 = .ok (.putfield 9, 3) := by decide +kernel
theorem dX5_init_12 : decode cX5_init 12 = .ok (.aload_n 0, 1) := by decide +kernel
theorem dX5_init_13 : decode cX5_init 13 = .ok (.iconst 0, 1) := by decide +kernel
theorem dX5_init_14 : decode cX5_init 14 = .ok (.putfield 15, 3) := by decide +kernel
theorem dX5_init_17 : decode cX5_init 17 = .ok (.aload_n 0, 1) := by decide +kernel
theorem dX5_init_18 : decode cX5_init 18 = .ok (.aload_n 1, 1) := by decide +kernel
theorem dX5_init_19 : decode cX5_init 19 = .ok (.putfield 19, 3) := by decide +kernel
theorem dX5_init_22 : decode cX5_init 22 = .ok (.return_, 1) := by decide +kernel
theorem dX5_size_0 : decode cX5_size 0 = .ok (.aload_n 0, 1) := by decide +kernel
theorem dX5_size_1 : decode cX5_size 1 = .ok (.getfield 15, 3) := by decide +kernel
theorem dX5_size_4 : decode cX5_size 4 = .ok (.ireturn, 1) := by decide +kernel
theorem dX5_has_0 : decode cX5_has 0 = .ok (.iconst 0, 1) := by decide +kernel
theorem dX5_has_1 : decode cX5_has 1 = .ok (.istore_n 2, 1) := by decide +kernel
theorem dX5_has_2 : decode cX5_has 2 = .ok (.iload_n 2, 1) := by decide +kernel
theorem dX5_has_3 : decode cX5_has 3 = .ok (.aload_n 0, 1) := by decide +kernel
theorem dX5_has_4 : decode cX5_has 4 = .ok (.getfield 15, 3) := by decide +kernel
theorem dX5_has_7 : decode cX5_has 7 = .ok (.if_icmp .ge 23, 3) := by decide +kernel
theorem dX5_has_10 : decode cX5_has 10 = .ok (.aload_n 0, 1) := by decide +kernel
theorem dX5_has_11 : decode cX5_has 11 = .ok (.getfield 9, 3) := by decide +kernel
theorem dX5_has_14 : decode cX5_has 14 = .ok (.iload_n 2, 1) := by decide +kernel
theorem dX5_has_15 : decode cX5_has 15 = .ok (.invokestatic 23, 3) := by decide +kernel
theorem dX5_has_18 : decode cX5_has 18 = .ok (.iload_n 1, 1) := by decide +kernel
theorem dX5_has_19 : decode cX5_has 19 = .ok (.if_icmp .ne 5, 3) := by decide +kernel
theorem dX5_has_22 : decode cX5_has 22 = .ok (.iconst 1, 1) := by decide +kernel
theorem dX5_has_23 : decode cX5_has 23 = .ok (.ireturn, 1) := by decide +kernel
theorem dX5_has_24 : decode cX5_has 24 = .ok (.iinc 2 1, 3) := by decide +kernel
theorem dX5_has_27 : decode cX5_has 27 = .ok (.goto (-25), 3) := by decide +kernel
theorem dX5_has_30 : decode cX5_has 30 = .ok (.iconst 0, 1) := by decide +kernel
theorem dX5_has_31 : decode cX5_has 31 = .ok (.ireturn, 1) := by decide +kernel
theorem dX5_append_0 : decode cX5_append 0 = .ok (.aload_n 0, 1) := by decide +kernel
theorem dX5_append_1 : decode cX5_append 1 = .ok (.getfield 15, 3) := by decide +kernel
theorem dX5_append_4 : decode cX5_append 4 = .ok (.bipush 6, 2) := by decide +kernel
theorem dX5_append_6 : decode cX5_append 6 = .ok (.if_icmp .ge 25, 3) := by decide +kernel
theorem dX5_append_9 : decode cX5_append 9 = .ok (.aload_n 0, 1) := by decide +kernel
theorem dX5_append_10 : decode cX5_append 10 = .ok (.getfield 9, 3) := by decide +kernel
theorem dX5_append_13 : decode cX5_append 13 = .ok (.aload_n 0, 1) := by decide +kernel
theorem dX5_append_14 : decode cX5_append 14 = .ok (.getfield 15, 3) := by decide +kernel
theorem dX5_append_17 : decode cX5_append 17 = .ok (.iload_n 1, 1) := by decide +kernel
theorem dX5_append_18 : decode cX5_append 18 = .ok (.invokestatic 27, 3) := by decide +kernel
theorem dX5_append_21 : decode cX5_append 21 = .ok (.aload_n 0, 1) := by decide +kernel
theorem dX5_append_22 : decode cX5_append 22 = .ok (.dup, 1) := by decide +kernel
theorem dX5_append_23 : decode cX5_append 23 = .ok (.getfield 15, 3) := by decide +kernel
theorem dX5_append_26 : decode cX5_append 26 = .ok (.iconst 1, 1) := by decide +kernel
theorem dX5_append_27 : decode cX5_append 27 = .ok (.iadd, 1) := by decide +kernel
theorem dX5_append_28 : decode cX5_append 28 = .ok (.putfield 15, 3) := by decide +kernel
theorem dX5_append_31 : decode cX5_append 31 = .ok (.return_, 1) := by decide +kernel
theorem dX5_clear_0 : decode cX5_clear 0 = .ok (.aload_n 0, 1) := by decide +kernel
theorem dX5_clear_1 : decode cX5_clear 1 = .ok (.iconst 0, 1) := by decide +kernel
theorem dX5_clear_2 : decode cX5_clear 2 = .ok (.putfield 15, 3) := by decide +kernel
theorem dX5_clear_5 : decode cX5_clear 5 = .ok (.return_, 1) := by decide +kernel
theorem dX5_firstOf_0 : decode cX5_firstOf 0 = .ok (.iconst (-1), 1) := by decide +kernel
theorem dX5_firstOf_1 : decode cX5_firstOf 1 = .ok (.istore_n 3, 1) := by decide +kernel
theorem dX5_firstOf_2 : decode cX5_firstOf 2 = .ok (.iconst 0, 1) := by decide +kernel
theorem dX5_firstOf_3 : decode cX5_firstOf 3 = .ok (.istore 4, 2) := by decide +kernel
theorem dX5_firstOf_5 : decode cX5_firstOf 5 = .ok (.iload 4, 2) := by decide +kernel
theorem dX5_firstOf_7 : decode cX5_firstOf 7 = .ok (.aload_n 1, 1) := by decide +kernel
theorem dX5_firstOf_8 : decode cX5_firstOf 8 = .ok (.invokevirtual 31, 3) := by decide +kernel
theorem dX5_firstOf_11 : decode cX5_firstOf 11 = .ok (.if_icmp .ge 71, 3) := by decide +kernel
theorem dX5_firstOf_14 : decode cX5_firstOf 14 = .ok (.iload_n 2, 1) := by decide +kernel
theorem dX5_firstOf_15 : decode cX5_firstOf 15 = .ok (.iconst (-1), 1) := by decide +kernel
theorem dX5_firstOf_16 : decode cX5_firstOf 16 = .ok (.if_icmp .eq 13, 3) := by decide +kernel
theorem dX5_firstOf_19 : decode cX5_firstOf 19 = .ok (.aload_n 1, 1) := by decide +kernel
theorem dX5_firstOf_20 : decode cX5_firstOf 20 = .ok (.iload 4, 2) := by decide +kernel
theorem dX5_firstOf_22 : decode cX5_firstOf 22 = .ok (.invokevirtual 36, 3) := by decide +kernel
theorem dX5_firstOf_25 : decode cX5_firstOf 25 = .ok (.iload_n 2, 1) := by decide +kernel
theorem dX5_firstOf_26 : decode cX5_firstOf 26 = .ok (.if_icmp .ne 23, 3) := by decide +kernel
theorem dX5_firstOf_29 : decode cX5_firstOf 29 = .ok (.aload_n 0, 1) := by decide +kernel
theorem dX5_firstOf_30 : decode cX5_firstOf 30 = .ok (.getfield 19, 3) := by decide +kernel
theorem dX5_firstOf_33 : decode cX5_firstOf 33 = .ok (.aload_n 1, 1) := by decide +kernel
theorem dX5_firstOf_34 : decode cX5_firstOf 34 = .ok (.iload 4, 2) := by decide +kernel
theorem dX5_firstOf_36 : decode cX5_firstOf 36 = .ok (.invokevirtual 40, 3) := by decide +kernel
theorem dX5_firstOf_39 : decode cX5_firstOf 39 = .ok (.invokevirtual 43, 3) := by decide +kernel
theorem dX5_firstOf_42 : decode cX5_firstOf 42 = .ok (.ifCond .eq 7, 3) := by decide +kernel
theorem dX5_firstOf_45 : decode cX5_firstOf 45 = .ok (.iconst 1, 1) := by decide +kernel
theorem dX5_firstOf_46 : decode cX5_firstOf 46 = .ok (.goto 4, 3) := by decide +kernel
theorem dX5_firstOf_49 : decode cX5_firstOf 49 = .ok (.iconst 0, 1) := by decide +kernel
theorem dX5_firstOf_50 : decode cX5_firstOf 50 = .ok (.istore 5, 2) := by decide +kernel
theorem dX5_firstOf_52 : decode cX5_firstOf 52 = .ok (.iload 5, 2) := by decide +kernel
theorem dX5_firstOf_54 : decode cX5_firstOf 54 = .ok (.ifCond .eq 22, 3) := by decide +kernel
theorem dX5_firstOf_57 : decode cX5_firstOf 57 = .ok (.iload_n 3, 1) := by decide +kernel
theorem dX5_firstOf_58 : decode cX5_firstOf 58 = .ok (.iconst (-1), 1) := by decide +kernel
theorem dX5_firstOf_59 : decode cX5_firstOf 59 = .ok (.if_icmp .eq 14, 3) := by decide +kernel
theorem dX5_firstOf_62 : decode cX5_firstOf 62 = .ok (.aload_n 0, 1) := by decide +kernel
theorem dX5_firstOf_63 : decode cX5_firstOf 63 = .ok (.aload_n 1, 1) := by decide +kernel
theorem dX5_firstOf_64 : decode cX5_firstOf 64 = .ok (.iload 4, 2) := by decide +kernel
theorem dX5_firstOf_66 : decode cX5_firstOf 66 = .ok (.iload_n 3, 1) := by decide +kernel
theorem dX5_firstOf_67 : decode cX5_firstOf 67 = .ok (.invokevirtual 49, 3) := by decide +kernel
theorem dX5_firstOf_70 : decode cX5_firstOf 70 = .ok (.ifCond .eq 6, 3) := by decide +kernel
theorem dX5_firstOf_73 : decode cX5_firstOf 73 = .ok (.iload 4, 2) := by decide +kernel
theorem dX5_firstOf_75 : decode cX5_firstOf 75 = .ok (.istore_n 3, 1) := by decide +kernel
theorem dX5_firstOf_76 : decode cX5_firstOf 76 = .ok (.iinc 4 1, 3) := by decide +kernel
theorem dX5_firstOf_79 : decode cX5_firstOf 79 = .ok (.goto (-74), 3) := by decide +kernel
theorem dX5_firstOf_82 : decode cX5_firstOf 82 = .ok (.iload_n 3, 1) := by decide +kernel
theorem dX5_firstOf_83 : decode cX5_firstOf 83 = .ok (.ireturn, 1) := by decide +kernel
theorem dX5_isAhead_0 : decode cX5_isAhead 0 = .ok (.iconst 0, 1) := by decide +kernel
theorem dX5_isAhead_1 : decode cX5_isAhead 1 = .ok (.istore 4, 2) := by decide +kernel
theorem dX5_isAhead_3 : decode cX5_isAhead 3 = .ok (.iload 4, 2) := by decide +kernel
theorem dX5_isAhead_5 : decode cX5_isAhead 5 = .ok (.aload_n 0, 1) := by decide +kernel
theorem dX5_isAhead_6 : decode cX5_isAhead 6 = .ok (.getfield 15, 3) := by decide +kernel
theorem dX5_isAhead_9 : decode cX5_isAhead 9 = .ok (.if_icmp .ge 60, 3) := by decide +kernel
theorem dX5_isAhead_12 : decode cX5_isAhead 12 = .ok (.aload_n 0, 1) := by decide +kernel
theorem dX5_isAhead_13 : decode cX5_isAhead 13 = .ok (.getfield 9, 3) := by decide +kernel
theorem dX5_isAhead_16 : decode cX5_isAhead 16 = .ok (.iload 4, 2) := by decide +kernel
theorem dX5_isAhead_18 : decode cX5_isAhead 18 = .ok (.invokestatic 23, 3) := by decide +kernel
theorem dX5_isAhead_21 : decode cX5_isAhead 21 = .ok (.istore 5, 2) := by decide +kernel
theorem dX5_isAhead_23 : decode cX5_isAhead 23 = .ok (.aload_n 0, 1) := by decide +kernel
theorem dX5_isAhead_24 : decode cX5_isAhead 24 = .ok (.iload 5, 2) := by decide +kernel
theorem dX5_isAhead_26 : decode cX5_isAhead 26 = .ok (.aload_n 1, 1) := by decide +kernel
theorem dX5_isAhead_27 : decode cX5_isAhead 27 = .ok (.iload_n 2, 1) := by decide +kernel
theorem dX5_isAhead_28 : decode cX5_isAhead 28 = .ok (.invokevirtual 53, 3) := by decide +kernel
theorem dX5_isAhead_31 : decode cX5_isAhead 31 = .ok (.istore 6, 2) := by decide +kernel
theorem dX5_isAhead_33 : decode cX5_isAhead 33 = .ok (.aload_n 0, 1) := by decide +kernel
theorem dX5_isAhead_34 : decode cX5_isAhead 34 = .ok (.iload 5, 2) := by decide +kernel
theorem dX5_isAhead_36 : decode cX5_isAhead 36 = .ok (.aload_n 1, 1) := by decide +kernel
theorem dX5_isAhead_37 : decode cX5_isAhead 37 = .ok (.iload_n 3, 1) := by decide +kernel
theorem dX5_isAhead_38 : decode cX5_isAhead 38 = .ok (.invokevirtual 53, 3) := by decide +kernel
theorem dX5_isAhead_41 : decode cX5_isAhead 41 = .ok (.istore 7, 2) := by decide +kernel
theorem dX5_isAhead_43 : decode cX5_isAhead 43 = .ok (.iload 6, 2) := by decide +kernel
theorem dX5_isAhead_45 : decode cX5_isAhead 45 = .ok (.iload 7, 2) := by decide +kernel
theorem dX5_isAhead_47 : decode cX5_isAhead 47 = .ok (.if_icmp .eq 16, 3) := by decide +kernel
theorem dX5_isAhead_50 : decode cX5_isAhead 50 = .ok (.iload 6, 2) := by decide +kernel
theorem dX5_isAhead_52 : decode cX5_isAhead 52 = .ok (.iload 7, 2) := by decide +kernel
theorem dX5_isAhead_54 : decode cX5_isAhead 54 = .ok (.if_icmp .ge 7, 3) := by decide +kernel
theorem dX5_isAhead_57 : decode cX5_isAhead 57 = .ok (.iconst 1, 1) := by decide +kernel
theorem dX5_isAhead_58 : decode cX5_isAhead 58 = .ok (.goto 4, 3) := by decide +kernel
theorem dX5_isAhead_61 : decode cX5_isAhead 61 = .ok (.iconst 0, 1) := by decide +kernel
theorem dX5_isAhead_62 : decode cX5_isAhead 62 = .ok (.ireturn, 1) := by decide +kernel
theorem dX5_isAhead_63 : decode cX5_isAhead 63 = .ok (.iinc 4 1, 3) := by decide +kernel
theorem dX5_isAhead_66 : decode cX5_isAhead 66 = .ok (.goto (-63), 3) := by decide +kernel
theorem dX5_isAhead_69 : decode cX5_isAhead 69 = .ok (.iload_n 2, 1) := by decide +kernel
theorem dX5_isAhead_70 : decode cX5_isAhead 70 = .ok (.iload_n 3, 1) := by decide +kernel
theorem dX5_isAhead_71 : decode cX5_isAhead 71 = .ok (.if_icmp .ge 7, 3) := by decide +kernel
theorem dX5_isAhead_74 : decode cX5_isAhead 74 = .ok (.iconst 1, 1) := by decide +kernel
theorem dX5_isAhead_75 : decode cX5_isAhead 75 = .ok (.goto 4, 3) := by decide +kernel
theorem dX5_isAhead_78 : decode cX5_isAhead 78 = .ok (.iconst 0, 1) := by decide +kernel
theorem dX5_isAhead_79 : decode cX5_isAhead 79 = .ok (.ireturn, 1) := by decide +kernel
theorem dX5_rankBy_0 : decode cX5_rankBy 0 = .ok (.aload_n 2, 1) := by decide +kernel
theorem dX5_rankBy_1 : decode cX5_rankBy 1 = .ok (.iload_n 3, 1) := by decide +kernel
theorem dX5_rankBy_2 : decode cX5_rankBy 2 = .ok (.invokevirtual 40, 3) := by decide +kernel
theorem dX5_rankBy_5 : decode cX5_rankBy 5 = .ok (.istore 4, 2) := by decide +kernel
theorem dX5_rankBy_7 : decode cX5_rankBy 7 = .ok (.iload_n 1, 1) := by decide +kernel
theorem dX5_rankBy_8 : decode cX5_rankBy 8 = .ok (.tableswitch 185 1 9 #[52, 67, 82, 97, 104, 111, 125, 147, 166], 52) := by decide +kernel
theorem dX5_rankBy_60 : decode cX5_rankBy 60 = .ok (.aload_n 2, 1) := by decide +kernel
theorem dX5_rankBy_61 : decode cX5_rankBy 61 = .ok (.iload_n 3, 1) := by decide +kernel
theorem dX5_rankBy_62 : decode cX5_rankBy 62 = .ok (.invokevirtual 36, 3) := by decide +kernel
theorem dX5_rankBy_65 : decode cX5_rankBy 65 = .ok (.iconst 2, 1) := by decide +kernel
theorem dX5_rankBy_66 : decode cX5_rankBy 66 = .ok (.if_icmp .ne 7, 3) := by decide +kernel
theorem dX5_rankBy_69 : decode cX5_rankBy 69 = .ok (.iconst 0, 1) := by decide +kernel
theorem dX5_rankBy_70 : decode cX5_rankBy 70 = .ok (.goto 4, 3) := by decide +kernel
theorem dX5_rankBy_73 : decode cX5_rankBy 73 = .ok (.iconst 1, 1) := by decide +kernel
theorem dX5_rankBy_74 : decode cX5_rankBy 74 = .ok (.ireturn, 1) := by decide +kernel
theorem dX5_rankBy_75 : decode cX5_rankBy 75 = .ok (.aload_n 2, 1) := by decide +kernel
theorem dX5_rankBy_76 : decode cX5_rankBy 76 = .ok (.iload_n 3, 1) := by decide +kernel
theorem dX5_rankBy_77 : decode cX5_rankBy 77 = .ok (.invokevirtual 36, 3) := by decide +kernel
theorem dX5_rankBy_80 : decode cX5_rankBy 80 = .ok (.iconst 1, 1) := by decide +kernel
theorem dX5_rankBy_81 : decode cX5_rankBy 81 = .ok (.if_icmp .ne 7, 3) := by decide +kernel
theorem dX5_rankBy_84 : decode cX5_rankBy 84 = .ok (.iconst 0, 1) := by decide +kernel
theorem dX5_rankBy_85 : decode cX5_rankBy 85 = .ok (.goto 4, 3) := by decide +kernel
theorem dX5_rankBy_88 : decode cX5_rankBy 88 = .ok (.iconst 1, 1) := by decide +kernel
theorem dX5_rankBy_89 : decode cX5_rankBy 89 = .ok (.ireturn, 1) := by decide +kernel
theorem dX5_rankBy_90 : decode cX5_rankBy 90 = .ok (.aload_n 2, 1) := by decide +kernel
theorem dX5_rankBy_91 : decode cX5_rankBy 91 = .ok (.iload 4, 2) := by decide +kernel
theorem dX5_rankBy_93 : decode cX5_rankBy 93 = .ok (.invokevirtual 57, 3) := by decide +kernel
theorem dX5_rankBy_96 : decode cX5_rankBy 96 = .ok (.ifCond .ne 7, 3) := by decide +kernel
theorem dX5_rankBy_99 : decode cX5_rankBy 99 = .ok (.iconst 0, 1) := by decide +kernel
theorem dX5_rankBy_100 : decode cX5_rankBy 100 = .ok (.goto 4, 3) := by decide +kernel
theorem dX5_rankBy_103 : decode cX5_rankBy 103 = .ok (.iconst 1, 1) := by decide +kernel
theorem dX5_rankBy_104 : decode cX5_rankBy 104 = .ok (.ireturn, 1) := by decide +kernel
theorem dX5_rankBy_105 : decode cX5_rankBy 105 = .ok (.aload_n 2, 1) := by decide +kernel
theorem dX5_rankBy_106 : decode cX5_rankBy 106 = .ok (.iload 4, 2) := by decide +kernel
theorem dX5_rankBy_108 : decode cX5_rankBy 108 = .ok (.invokevirtual 57, 3) := by decide +kernel
theorem dX5_rankBy_111 : decode cX5_rankBy 111 = .ok (.ireturn, 1) := by decide +kernel
theorem dX5_rankBy_112 : decode cX5_rankBy 112 = .ok (.aload_n 2, 1) := by decide +kernel
theorem dX5_rankBy_113 : decode cX5_rankBy 113 = .ok (.iload 4, 2) := by decide +kernel
theorem dX5_rankBy_115 : decode cX5_rankBy 115 = .ok (.invokevirtual 60, 3) := by decide +kernel
theorem dX5_rankBy_118 : decode cX5_rankBy 118 = .ok (.ireturn, 1) := by decide +kernel
theorem dX5_rankBy_119 : decode cX5_rankBy 119 = .ok (.aload_n 2, 1) := by decide +kernel
theorem dX5_rankBy_120 : decode cX5_rankBy 120 = .ok (.aload_n 0, 1) := by decide +kernel
theorem dX5_rankBy_121 : decode cX5_rankBy 121 = .ok (.getfield 19, 3) := by decide +kernel
theorem dX5_rankBy_124 : decode cX5_rankBy 124 = .ok (.iload 4, 2) := by decide +kernel
theorem dX5_rankBy_126 : decode cX5_rankBy 126 = .ok (.invokevirtual 63, 3) := by decide +kernel
theorem dX5_rankBy_129 : decode cX5_rankBy 129 = .ok (.invokevirtual 66, 3) := by decide +kernel
theorem dX5_rankBy_132 : decode cX5_rankBy 132 = .ok (.ireturn, 1) := by decide +kernel
theorem dX5_rankBy_133 : decode cX5_rankBy 133 = .ok (.aload_n 2, 1) := by decide +kernel
theorem dX5_rankBy_134 : decode cX5_rankBy 134 = .ok (.invokevirtual 69, 3) := by decide +kernel
theorem dX5_rankBy_137 : decode cX5_rankBy 137 = .ok (.aload_n 0, 1) := by decide +kernel
theorem dX5_rankBy_138 : decode cX5_rankBy 138 = .ok (.getfield 19, 3) := by decide +kernel
theorem dX5_rankBy_141 : decode cX5_rankBy 141 = .ok (.iload 4, 2) := by decide +kernel
theorem dX5_rankBy_143 : decode cX5_rankBy 143 = .ok (.invokevirtual 63, 3) := by decide +kernel
theorem dX5_rankBy_146 : decode cX5_rankBy 146 = .ok (.if_icmp .ne 7, 3) := by decide +kernel
theorem dX5_rankBy_149 : decode cX5_rankBy 149 = .ok (.iconst 1, 1) := by decide +kernel
theorem dX5_rankBy_150 : decode cX5_rankBy 150 = .ok (.goto 4, 3) := by decide +kernel
theorem dX5_rankBy_153 : decode cX5_rankBy 153 = .ok (.iconst 0, 1) := by decide +kernel
theorem dX5_rankBy_154 : decode cX5_rankBy 154 = .ok (.ireturn, 1) := by decide +kernel
theorem dX5_rankBy_155 : decode cX5_rankBy 155 = .ok (.aload_n 0, 1) := by decide +kernel
theorem dX5_rankBy_156 : decode cX5_rankBy 156 = .ok (.getfield 19, 3) := by decide +kernel
theorem dX5_rankBy_159 : decode cX5_rankBy 159 = .ok (.iload 4, 2) := by decide +kernel
theorem dX5_rankBy_161 : decode cX5_rankBy 161 = .ok (.iconst 1, 1) := by decide +kernel
theorem dX5_rankBy_162 : decode cX5_rankBy 162 = .ok (.invokevirtual 72, 3) := by decide +kernel
theorem dX5_rankBy_165 : decode cX5_rankBy 165 = .ok (.ifCond .eq 7, 3) := by decide +kernel
theorem dX5_rankBy_168 : decode cX5_rankBy 168 = .ok (.iconst 1, 1) := by decide +kernel
theorem dX5_rankBy_169 : decode cX5_rankBy 169 = .ok (.goto 4, 3) := by decide +kernel
theorem dX5_rankBy_172 : decode cX5_rankBy 172 = .ok (.iconst 0, 1) := by decide +kernel
theorem dX5_rankBy_173 : decode cX5_rankBy 173 = .ok (.ireturn, 1) := by decide +kernel
theorem dX5_rankBy_174 : decode cX5_rankBy 174 = .ok (.aload_n 0, 1) := by decide +kernel
theorem dX5_rankBy_175 : decode cX5_rankBy 175 = .ok (.getfield 19, 3) := by decide +kernel
theorem dX5_rankBy_178 : decode cX5_rankBy 178 = .ok (.iload 4, 2) := by decide +kernel
theorem dX5_rankBy_180 : decode cX5_rankBy 180 = .ok (.iconst 2, 1) := by decide +kernel
theorem dX5_rankBy_181 : decode cX5_rankBy 181 = .ok (.invokevirtual 72, 3) := by decide +kernel
theorem dX5_rankBy_184 : decode cX5_rankBy 184 = .ok (.ifCond .eq 7, 3) := by decide +kernel
theorem dX5_rankBy_187 : decode cX5_rankBy 187 = .ok (.iconst 0, 1) := by decide +kernel
theorem dX5_rankBy_188 : decode cX5_rankBy 188 = .ok (.goto 4, 3) := by decide +kernel
theorem dX5_rankBy_191 : decode cX5_rankBy 191 = .ok (.iconst 1, 1) := by decide +kernel
theorem dX5_rankBy_192 : decode cX5_rankBy 192 = .ok (.ireturn, 1) := by decide +kernel
theorem dX5_rankBy_193 : decode cX5_rankBy 193 = .ok (.iconst 0, 1) := by decide +kernel
theorem dX5_rankBy_194 : decode cX5_rankBy 194 = .ok (.ireturn, 1) := by decide +kernel
theorem dX6_init_0 : decode cX6_init 0 = .ok (.aload_n 0, 1) := by decide +kernel
theorem dX6_init_1 : decode cX6_init 1 = .ok (.invokespecial 3, 3) := by decide +kernel
theorem dX6_init_4 : decode cX6_init 4 = .ok (.aload_n 0, 1) := by decide +kernel
theorem dX6_init_5 : decode cX6_init 5 = .ok (.bipush 12, 2) := by decide +kernel
theorem dX6_init_7 : decode cX6_init 7 = .ok (.newarray .int, 2) := by decide +kernel
theorem dX6_init_9 : decode cX6_init 9 = .ok (.putfield 9, 3) := by decide +kernel
theorem dX6_init_12 : decode cX6_init 12 = .ok (.aload_n 0, 1) := by decide +kernel
theorem dX6_init_13 : decode cX6_init 13 = .ok (.iconst 0, 1) := by decide +kernel
theorem dX6_init_14 : decode cX6_init 14 = .ok (.putfield 15, 3) := by decide +kernel
theorem dX6_init_17 : decode cX6_init 17 = .ok (.aload_n 0, 1) := by decide +kernel
theorem dX6_init_18 : decode cX6_init 18 = .ok (.iconst 0, 1) := by decide +kernel
theorem dX6_init_19 : decode cX6_init 19 = .ok (.putfield 19, 3) := by decide +kernel
theorem dX6_init_22 : decode cX6_init 22 = .ok (.return_, 1) := by decide +kernel
theorem dX6_isMissing_0 : decode cX6_isMissing 0 = .ok (.aload_n 0, 1) := by decide +kernel
theorem dX6_isMissing_1 : decode cX6_isMissing 1 = .ok (.getfield 15, 3) := by decide +kernel
theorem dX6_isMissing_4 : decode cX6_isMissing 4 = .ok (.ifCond .ne 7, 3) := by decide +kernel
theorem dX6_isMissing_7 : decode cX6_isMissing 7 = .ok (.iconst 1, 1) := by decide +kernel
theorem dX6_isMissing_8 : decode cX6_isMissing 8 = .ok (.goto 4, 3) := by decide +kernel
theorem dX6_isMissing_11 : decode cX6_isMissing 11 = .ok (.iconst 0, 1) := by decide +kernel
theorem dX6_isMissing_12 : decode cX6_isMissing 12 = .ok (.ireturn, 1) := by decide +kernel
theorem dX6_width_0 : decode cX6_width 0 = .ok (.aload_n 0, 1) := by decide +kernel
theorem dX6_width_1 : decode cX6_width 1 = .ok (.getfield 15, 3) := by decide +kernel
theorem dX6_width_4 : decode cX6_width 4 = .ok (.ireturn, 1) := by decide +kernel
theorem dX6_size_0 : decode cX6_size 0 = .ok (.aload_n 0, 1) := by decide +kernel
theorem dX6_size_1 : decode cX6_size 1 = .ok (.getfield 19, 3) := by decide +kernel
theorem dX6_size_4 : decode cX6_size 4 = .ok (.ireturn, 1) := by decide +kernel
theorem dX6_numberAt_0 : decode cX6_numberAt 0 = .ok (.aload_n 0, 1) := by decide +kernel
theorem dX6_numberAt_1 : decode cX6_numberAt 1 = .ok (.getfield 9, 3) := by decide +kernel
theorem dX6_numberAt_4 : decode cX6_numberAt 4 = .ok (.iload_n 1, 1) := by decide +kernel
theorem dX6_numberAt_5 : decode cX6_numberAt 5 = .ok (.invokestatic 22, 3) := by decide +kernel
theorem dX6_numberAt_8 : decode cX6_numberAt 8 = .ok (.ireturn, 1) := by decide +kernel
theorem dX6_lay_0 : decode cX6_lay 0 = .ok (.aload_n 0, 1) := by decide +kernel
theorem dX6_lay_1 : decode cX6_lay 1 = .ok (.iload_n 1, 1) := by decide +kernel
theorem dX6_lay_2 : decode cX6_lay 2 = .ok (.putfield 15, 3) := by decide +kernel
theorem dX6_lay_5 : decode cX6_lay 5 = .ok (.aload_n 0, 1) := by decide +kernel
theorem dX6_lay_6 : decode cX6_lay 6 = .ok (.iload_n 1, 1) := by decide +kernel
theorem dX6_lay_7 : decode cX6_lay 7 = .ok (.ifCond .ne 7, 3) := by decide +kernel
theorem dX6_lay_10 : decode cX6_lay 10 = .ok (.iconst 0, 1) := by decide +kernel
theorem dX6_lay_11 : decode cX6_lay 11 = .ok (.goto 4, 3) := by decide +kernel
theorem dX6_lay_14 : decode cX6_lay 14 = .ok (.iload_n 2, 1) := by decide +kernel
theorem dX6_lay_15 : decode cX6_lay 15 = .ok (.putfield 19, 3) := by decide +kernel
theorem dX6_lay_18 : decode cX6_lay 18 = .ok (.iconst 0, 1) := by decide +kernel
theorem dX6_lay_19 : decode cX6_lay 19 = .ok (.istore_n 3, 1) := by decide +kernel
theorem dX6_lay_20 : decode cX6_lay 20 = .ok (.iload_n 3, 1) := by decide +kernel
theorem dX6_lay_21 : decode cX6_lay 21 = .ok (.aload_n 0, 1) := by decide +kernel
theorem dX6_lay_22 : decode cX6_lay 22 = .ok (.getfield 9, 3) := by decide +kernel
theorem dX6_lay_25 : decode cX6_lay 25 = .ok (.arraylength, 1) := by decide +kernel
theorem dX6_lay_26 : decode cX6_lay 26 = .ok (.if_icmp .ge 16, 3) := by decide +kernel
theorem dX6_lay_29 : decode cX6_lay 29 = .ok (.aload_n 0, 1) := by decide +kernel
theorem dX6_lay_30 : decode cX6_lay 30 = .ok (.getfield 9, 3) := by decide +kernel
theorem dX6_lay_33 : decode cX6_lay 33 = .ok (.iload_n 3, 1) := by decide +kernel
theorem dX6_lay_34 : decode cX6_lay 34 = .ok (.iconst 0, 1) := by decide +kernel
theorem dX6_lay_35 : decode cX6_lay 35 = .ok (.iastore, 1) := by decide +kernel
theorem dX6_lay_36 : decode cX6_lay 36 = .ok (.iinc 3 1, 3) := by decide +kernel
theorem dX6_lay_39 : decode cX6_lay 39 = .ok (.goto (-19), 3) := by decide +kernel
theorem dX6_lay_42 : decode cX6_lay 42 = .ok (.return_, 1) := by decide +kernel
theorem dX6_store_0 : decode cX6_store 0 = .ok (.aload_n 0, 1) := by decide +kernel
theorem dX6_store_1 : decode cX6_store 1 = .ok (.getfield 9, 3) := by decide +kernel
theorem dX6_store_4 : decode cX6_store 4 = .ok (.iload_n 1, 1) := by decide +kernel
theorem dX6_store_5 : decode cX6_store 5 = .ok (.aload_n 0, 1) := by decide +kernel
theorem dX6_store_6 : decode cX6_store 6 = .ok (.iload_n 2, 1) := by decide +kernel
theorem dX6_store_7 : decode cX6_store 7 = .ok (.invokevirtual 26, 3) := by decide +kernel
theorem dX6_store_10 : decode cX6_store 10 = .ok (.invokestatic 30, 3) := by decide +kernel
theorem dX6_store_13 : decode cX6_store 13 = .ok (.return_, 1) := by decide +kernel
theorem dX6_lowestBits_0 : decode cX6_lowestBits 0 = .ok (.aload_n 0, 1) := by decide +kernel
theorem dX6_lowestBits_1 : decode cX6_lowestBits 1 = .ok (.getfield 15, 3) := by decide +kernel
theorem dX6_lowestBits_4 : decode cX6_lowestBits 4 = .ok (.lookupswitch 39 #[(8, 28), (16, 34)], 28) := by decide +kernel
theorem dX6_lowestBits_32 : decode cX6_lowestBits 32 = .ok (.iload_n 1, 1) := by decide +kernel
theorem dX6_lowestBits_33 : decode cX6_lowestBits 33 = .ok (.sipush 255, 3) := by decide +kernel
theorem dX6_lowestBits_36 : decode cX6_lowestBits 36 = .ok (.iand, 1) := by decide +kernel
theorem dX6_lowestBits_37 : decode cX6_lowestBits 37 = .ok (.ireturn, 1) := by decide +kernel
theorem dX6_lowestBits_38 : decode cX6_lowestBits 38 = .ok (.iload_n 1, 1) := by decide +kernel
theorem dX6_lowestBits_39 : decode cX6_lowestBits 39 = .ok (.ldc 34, 2) := by decide +kernel
theorem dX6_lowestBits_41 : decode cX6_lowestBits 41 = .ok (.iand, 1) := by decide +kernel
theorem dX6_lowestBits_42 : decode cX6_lowestBits 42 = .ok (.ireturn, 1) := by decide +kernel
theorem dX6_lowestBits_43 : decode cX6_lowestBits 43 = .ok (.iload_n 1, 1) := by decide +kernel
theorem dX6_lowestBits_44 : decode cX6_lowestBits 44 = .ok (.ireturn, 1) := by decide +kernel
theorem dX6_spans_0 : decode cX6_spans 0 = .ok (.iload_n 1, 1) := by decide +kernel
theorem dX6_spans_1 : decode cX6_spans 1 = .ok (.ifCond .lt 21, 3) := by decide +kernel
theorem dX6_spans_4 : decode cX6_spans 4 = .ok (.iload_n 2, 1) := by decide +kernel
theorem dX6_spans_5 : decode cX6_spans 5 = .ok (.ifCond .lt 17, 3) := by decide +kernel
theorem dX6_spans_8 : decode cX6_spans 8 = .ok (.iload_n 1, 1) := by decide +kernel
theorem dX6_spans_9 : decode cX6_spans 9 = .ok (.aload_n 0, 1) := by decide +kernel
theorem dX6_spans_10 : decode cX6_spans 10 = .ok (.getfield 19, 3) := by decide +kernel
theorem dX6_spans_13 : decode cX6_spans 13 = .ok (.iload_n 2, 1) := by decide +kernel
theorem dX6_spans_14 : decode cX6_spans 14 = .ok (.isub, 1) := by decide +kernel
theorem dX6_spans_15 : decode cX6_spans 15 = .ok (.if_icmp .gt 7, 3) := by decide +kernel
theorem dX6_spans_18 : decode cX6_spans 18 = .ok (.iconst 1, 1) := by decide +kernel
theorem dX6_spans_19 : decode cX6_spans 19 = .ok (.goto 4, 3) := by decide +kernel
theorem dX6_spans_22 : decode cX6_spans 22 = .ok (.iconst 0, 1) := by decide +kernel
theorem dX6_spans_23 : decode cX6_spans 23 = .ok (.ireturn, 1) := by decide +kernel
theorem dX6_take_0 : decode cX6_take 0 = .ok (.iload_n 3, 1) := by decide +kernel
theorem dX6_take_1 : decode cX6_take 1 = .ok (.iload_n 1, 1) := by decide +kernel
theorem dX6_take_2 : decode cX6_take 2 = .ok (.if_icmp .ge 42, 3) := by decide +kernel
theorem dX6_take_5 : decode cX6_take 5 = .ok (.iload 4, 2) := by decide +kernel
theorem dX6_take_7 : decode cX6_take 7 = .ok (.iconst 1, 1) := by decide +kernel
theorem dX6_take_8 : decode cX6_take 8 = .ok (.isub, 1) := by decide +kernel
theorem dX6_take_9 : decode cX6_take 9 = .ok (.istore 5, 2) := by decide +kernel
theorem dX6_take_11 : decode cX6_take 11 = .ok (.iload 5, 2) := by decide +kernel
theorem dX6_take_13 : decode cX6_take 13 = .ok (.ifCond .lt 28, 3) := by decide +kernel
theorem dX6_take_16 : decode cX6_take 16 = .ok (.aload_n 0, 1) := by decide +kernel
theorem dX6_take_17 : decode cX6_take 17 = .ok (.getfield 9, 3) := by decide +kernel
theorem dX6_take_20 : decode cX6_take 20 = .ok (.iload_n 1, 1) := by decide +kernel
theorem dX6_take_21 : decode cX6_take 21 = .ok (.iload 5, 2) := by decide +kernel
theorem dX6_take_23 : decode cX6_take 23 = .ok (.iadd, 1) := by decide +kernel
theorem dX6_take_24 : decode cX6_take 24 = .ok (.aload_n 2, 1) := by decide +kernel
theorem dX6_take_25 : decode cX6_take 25 = .ok (.iload_n 3, 1) := by decide +kernel
theorem dX6_take_26 : decode cX6_take 26 = .ok (.iload 5, 2) := by decide +kernel
theorem dX6_take_28 : decode cX6_take 28 = .ok (.iadd, 1) := by decide +kernel
theorem dX6_take_29 : decode cX6_take 29 = .ok (.invokevirtual 35, 3) := by decide +kernel
theorem dX6_take_32 : decode cX6_take 32 = .ok (.invokestatic 30, 3) := by decide +kernel
theorem dX6_take_35 : decode cX6_take 35 = .ok (.iinc 5 (-1), 3) := by decide +kernel
theorem dX6_take_38 : decode cX6_take 38 = .ok (.goto (-27), 3) := by decide +kernel
theorem dX6_take_41 : decode cX6_take 41 = .ok (.goto 38, 3) := by decide +kernel
theorem dX6_take_44 : decode cX6_take 44 = .ok (.iconst 0, 1) := by decide +kernel
theorem dX6_take_45 : decode cX6_take 45 = .ok (.istore 5, 2) := by decide +kernel
theorem dX6_take_47 : decode cX6_take 47 = .ok (.iload 5, 2) := by decide +kernel
theorem dX6_take_49 : decode cX6_take 49 = .ok (.iload 4, 2) := by decide +kernel
theorem dX6_take_51 : decode cX6_take 51 = .ok (.if_icmp .ge 28, 3) := by decide +kernel
theorem dX6_take_54 : decode cX6_take 54 = .ok (.aload_n 0, 1) := by decide +kernel
theorem dX6_take_55 : decode cX6_take 55 = .ok (.getfield 9, 3) := by decide +kernel
theorem dX6_take_58 : decode cX6_take 58 = .ok (.iload_n 1, 1) := by decide +kernel
theorem dX6_take_59 : decode cX6_take 59 = .ok (.iload 5, 2) := by decide +kernel
theorem dX6_take_61 : decode cX6_take 61 = .ok (.iadd, 1) := by decide +kernel
theorem dX6_take_62 : decode cX6_take 62 = .ok (.aload_n 2, 1) := by decide +kernel
theorem dX6_take_63 : decode cX6_take 63 = .ok (.iload_n 3, 1) := by decide +kernel
theorem dX6_take_64 : decode cX6_take 64 = .ok (.iload 5, 2) := by decide +kernel
theorem dX6_take_66 : decode cX6_take 66 = .ok (.iadd, 1) := by decide +kernel
theorem dX6_take_67 : decode cX6_take 67 = .ok (.invokevirtual 35, 3) := by decide +kernel
theorem dX6_take_70 : decode cX6_take 70 = .ok (.invokestatic 30, 3) := by decide +kernel
theorem dX6_take_73 : decode cX6_take 73 = .ok (.iinc 5 1, 3) := by decide +kernel
theorem dX6_take_76 : decode cX6_take 76 = .ok (.goto (-29), 3) := by decide +kernel
theorem dX6_take_79 : decode cX6_take 79 = .ok (.return_, 1) := by decide +kernel
theorem dX6_lengthToZero_0 : decode cX6_lengthToZero 0 = .ok (.iconst 0, 1) := by decide +kernel
theorem dX6_lengthToZero_1 : decode cX6_lengthToZero 1 = .ok (.istore_n 1, 1) := by decide +kernel
theorem dX6_lengthToZero_2 : decode cX6_lengthToZero 2 = .ok (.iload_n 1, 1) := by decide +kernel
theorem dX6_lengthToZero_3 : decode cX6_lengthToZero 3 = .ok (.aload_n 0, 1) := by decide +kernel
theorem dX6_lengthToZero_4 : decode cX6_lengthToZero 4 = .ok (.getfield 19, 3) := by decide +kernel
theorem dX6_lengthToZero_7 : decode cX6_lengthToZero 7 = .ok (.if_icmp .ge 19, 3) := by decide +kernel
theorem dX6_lengthToZero_10 : decode cX6_lengthToZero 10 = .ok (.aload_n 0, 1) := by decide +kernel
theorem dX6_lengthToZero_11 : decode cX6_lengthToZero 11 = .ok (.iload_n 1, 1) := by decide +kernel
theorem dX6_lengthToZero_12 : decode cX6_lengthToZero 12 = .ok (.invokevirtual 35, 3) := by decide +kernel
theorem dX6_lengthToZero_15 : decode cX6_lengthToZero 15 = .ok (.ifCond .ne 5, 3) := by decide +kernel
theorem dX6_lengthToZero_18 : decode cX6_lengthToZero 18 = .ok (.iload_n 1, 1) := by decide +kernel
theorem dX6_lengthToZero_19 : decode cX6_lengthToZero 19 = .ok (.ireturn, 1) := by decide +kernel
theorem dX6_lengthToZero_20 : decode cX6_lengthToZero 20 = .ok (.iinc 1 1, 3) := by decide +kernel
theorem dX6_lengthToZero_23 : decode cX6_lengthToZero 23 = .ok (.goto (-21), 3) := by decide +kernel
theorem dX6_lengthToZero_26 : decode cX6_lengthToZero 26 = .ok (.aload_n 0, 1) := by decide +kernel
theorem dX6_lengthToZero_27 : decode cX6_lengthToZero 27 = .ok (.getfield 19, 3) := by decide +kernel
theorem dX6_lengthToZero_30 : decode cX6_lengthToZero 30 = .ok (.ireturn, 1) := by decide +kernel
theorem dX7_init_0 : decode cX7_init 0 = .ok (.aload_n 0, 1) := by decide +kernel
theorem dX7_init_1 : decode cX7_init 1 = .ok (.invokespecial 3, 3) := by decide +kernel
theorem dX7_init_4 : decode cX7_init 4 = .ok (.aload_n 0, 1) := by decide +kernel
theorem dX7_init_5 : decode cX7_init 5 = .ok (.bipush 20, 2) := by decide +kernel
theorem dX7_init_7 : decode cX7_init 7 = .ok (.newarray .int, 2) := by decide +kernel
theorem dX7_init_9 : decode cX7_init 9 = .ok (.putfield 9, 3) := by decide +kernel
theorem dX7_init_12 : decode cX7_init 12 = .ok (.aload_n 0, 1) := by decide +kernel
theorem dX7_init_13 : decode cX7_init 13 = .ok (.bipush 20, 2) := by decide +kernel
theorem dX7_init_15 : decode cX7_init 15 = .ok (.newarray .int, 2) := by decide +kernel
theorem dX7_init_17 : decode cX7_init 17 = .ok (.putfield 15, 3) := by decide +kernel
theorem dX7_init_20 : decode cX7_init 20 = .ok (.aload_n 0, 1) := by decide +kernel
theorem dX7_init_21 : decode cX7_init 21 = .ok (.bipush 10, 2) := by decide +kernel
theorem dX7_init_23 : decode cX7_init 23 = .ok (.newarray .int, 2) := by decide +kernel
theorem dX7_init_25 : decode cX7_init 25 = .ok (.putfield 18, 3) := by decide +kernel
theorem dX7_init_28 : decode cX7_init 28 = .ok (.aload_n 0, 1) := by decide +kernel
theorem dX7_init_29 : decode cX7_init 29 = .ok (.bipush 10, 2) := by decide +kernel
theorem dX7_init_31 : decode cX7_init 31 = .ok (.newarray .int, 2) := by decide +kernel
theorem dX7_init_33 : decode cX7_init 33 = .ok (.putfield 21, 3) := by decide +kernel
theorem dX7_init_36 : decode cX7_init 36 = .ok (.aload_n 0, 1) := by decide +kernel
theorem dX7_init_37 : decode cX7_init 37 = .ok (.iconst 5, 1) := by decide +kernel
theorem dX7_init_38 : decode cX7_init 38 = .ok (.newarray .int, 2) := by decide +kernel
theorem dX7_init_40 : decode cX7_init 40 = .ok (.putfield 24, 3) := by decide +kernel
theorem dX7_init_43 : decode cX7_init 43 = .ok (.aload_n 0, 1) := by decide +kernel
theorem dX7_init_44 : decode cX7_init 44 = .ok (.iconst 0, 1) := by decide +kernel
theorem dX7_init_45 : decode cX7_init 45 = .ok (.putfield 27, 3) := by decide +kernel
theorem dX7_init_48 : decode cX7_init 48 = .ok (.aload_n 0, 1) := by decide +kernel
theorem dX7_init_49 : decode cX7_init 49 = .ok (.iconst (-1), 1) := by decide +kernel
theorem dX7_init_50 : decode cX7_init 50 = .ok (.putfield 31, 3) := by decide +kernel
theorem dX7_init_53 : decode cX7_init 53 = .ok (.aload_n 0, 1) := by decide +kernel
theorem dX7_init_54 : decode cX7_init 54 = .ok (.aload_n 1, 1) := by decide +kernel
theorem dX7_init_55 : decode cX7_init 55 = .ok (.putfield 34, 3) := by decide +kernel
theorem dX7_init_58 : decode cX7_init 58 = .ok (.return_, 1) := by decide +kernel
theorem dX7_become_0 : decode cX7_become 0 = .ok (.aload_n 0, 1) := by decide +kernel
theorem dX7_become_1 : decode cX7_become 1 = .ok (.getfield 9, 3) := by decide +kernel
theorem dX7_become_4 : decode cX7_become 4 = .ok (.aload_n 1, 1) := by decide +kernel
theorem dX7_become_5 : decode cX7_become 5 = .ok (.getfield 9, 3) := by decide +kernel
theorem dX7_become_8 : decode cX7_become 8 = .ok (.invokestatic 38, 3) := by decide +kernel
theorem dX7_become_11 : decode cX7_become 11 = .ok (.aload_n 0, 1) := by decide +kernel
theorem dX7_become_12 : decode cX7_become 12 = .ok (.getfield 15, 3) := by decide +kernel
theorem dX7_become_15 : decode cX7_become 15 = .ok (.aload_n 1, 1) := by decide +kernel
theorem dX7_become_16 : decode cX7_become 16 = .ok (.getfield 15, 3) := by decide +kernel
theorem dX7_become_19 : decode cX7_become 19 = .ok (.invokestatic 38, 3) := by decide +kernel
theorem dX7_become_22 : decode cX7_become 22 = .ok (.aload_n 0, 1) := by decide +kernel
theorem dX7_become_23 : decode cX7_become 23 = .ok (.getfield 18, 3) := by decide +kernel
theorem dX7_become_26 : decode cX7_become 26 = .ok (.aload_n 1, 1) := by decide +kernel
theorem dX7_become_27 : decode cX7_become 27 = .ok (.getfield 18, 3) := by decide +kernel
theorem dX7_become_30 : decode cX7_become 30 = .ok (.invokestatic 38, 3) := by decide +kernel
theorem dX7_become_33 : decode cX7_become 33 = .ok (.aload_n 0, 1) := by decide +kernel
theorem dX7_become_34 : decode cX7_become 34 = .ok (.getfield 21, 3) := by decide +kernel
theorem dX7_become_37 : decode cX7_become 37 = .ok (.aload_n 1, 1) := by decide +kernel
theorem dX7_become_38 : decode cX7_become 38 = .ok (.getfield 21, 3) := by decide +kernel
theorem dX7_become_41 : decode cX7_become 41 = .ok (.invokestatic 38, 3) := by decide +kernel
theorem dX7_become_44 : decode cX7_become 44 = .ok (.aload_n 0, 1) := by decide +kernel
theorem dX7_become_45 : decode cX7_become 45 = .ok (.getfield 24, 3) := by decide +kernel
theorem dX7_become_48 : decode cX7_become 48 = .ok (.aload_n 1, 1) := by decide +kernel
theorem dX7_become_49 : decode cX7_become 49 = .ok (.getfield 24, 3) := by decide +kernel
theorem dX7_become_52 : decode cX7_become 52 = .ok (.invokestatic 38, 3) := by decide +kernel
theorem dX7_become_55 : decode cX7_become 55 = .ok (.aload_n 0, 1) := by decide +kernel
theorem dX7_become_56 : decode cX7_become 56 = .ok (.aload_n 1, 1) := by decide +kernel
theorem dX7_become_57 : decode cX7_become 57 = .ok (.getfield 27, 3) := by decide +kernel
theorem dX7_become_60 : decode cX7_become 60 = .ok (.putfield 27, 3) := by decide +kernel
theorem dX7_become_63 : decode cX7_become 63 = .ok (.aload_n 0, 1) := by decide +kernel
theorem dX7_become_64 : decode cX7_become 64 = .ok (.aload_n 1, 1) := by decide +kernel
theorem dX7_become_65 : decode cX7_become 65 = .ok (.getfield 31, 3) := by decide +kernel
theorem dX7_become_68 : decode cX7_become 68 = .ok (.putfield 31, 3) := by decide +kernel
theorem dX7_become_71 : decode cX7_become 71 = .ok (.return_, 1) := by decide +kernel
theorem dX7_refill_0 : decode cX7_refill 0 = .ok (.iconst 0, 1) := by decide +kernel
theorem dX7_refill_1 : decode cX7_refill 1 = .ok (.istore_n 2, 1) := by decide +kernel
theorem dX7_refill_2 : decode cX7_refill 2 = .ok (.iload_n 2, 1) := by decide +kernel
theorem dX7_refill_3 : decode cX7_refill 3 = .ok (.aload_n 0, 1) := by decide +kernel
theorem dX7_refill_4 : decode cX7_refill 4 = .ok (.arraylength, 1) := by decide +kernel
theorem dX7_refill_5 : decode cX7_refill 5 = .ok (.if_icmp .ge 17, 3) := by decide +kernel
theorem dX7_refill_8 : decode cX7_refill 8 = .ok (.aload_n 0, 1) := by decide +kernel
theorem dX7_refill_9 : decode cX7_refill 9 = .ok (.iload_n 2, 1) := by decide +kernel
theorem dX7_refill_10 : decode cX7_refill 10 = .ok (.aload_n 1, 1) := by decide +kernel
theorem dX7_refill_11 : decode cX7_refill 11 = .ok (.iload_n 2, 1) := by decide +kernel
theorem dX7_refill_12 : decode cX7_refill 12 = .ok (.invokestatic 42, 3) := by decide +kernel
theorem dX7_refill_15 : decode cX7_refill 15 = .ok (.iastore, 1) := by decide +kernel
theorem dX7_refill_16 : decode cX7_refill 16 = .ok (.iinc 2 1, 3) := by decide +kernel
theorem dX7_refill_19 : decode cX7_refill 19 = .ok (.goto (-17), 3) := by decide +kernel
theorem dX7_refill_22 : decode cX7_refill 22 = .ok (.return_, 1) := by decide +kernel
theorem dX7_size_0 : decode cX7_size 0 = .ok (.aload_n 0, 1) := by decide +kernel
theorem dX7_size_1 : decode cX7_size 1 = .ok (.getfield 27, 3) := by decide +kernel
theorem dX7_size_4 : decode cX7_size 4 = .ok (.ireturn, 1) := by decide +kernel
theorem dX7_memberAt_0 : decode cX7_memberAt 0 = .ok (.aload_n 0, 1) := by decide +kernel
theorem dX7_memberAt_1 : decode cX7_memberAt 1 = .ok (.getfield 9, 3) := by decide +kernel
theorem dX7_memberAt_4 : decode cX7_memberAt 4 = .ok (.iload_n 1, 1) := by decide +kernel
theorem dX7_memberAt_5 : decode cX7_memberAt 5 = .ok (.invokestatic 42, 3) := by decide +kernel
theorem dX7_memberAt_8 : decode cX7_memberAt 8 = .ok (.ireturn, 1) := by decide +kernel
theorem dX7_sortAt_0 : decode cX7_sortAt 0 = .ok (.aload_n 0, 1) := by decide +kernel
theorem dX7_sortAt_1 : decode cX7_sortAt 1 = .ok (.getfield 15, 3) := by decide +kernel
theorem dX7_sortAt_4 : decode cX7_sortAt 4 = .ok (.iload_n 1, 1) := by decide +kernel
theorem dX7_sortAt_5 : decode cX7_sortAt 5 = .ok (.invokestatic 42, 3) := by decide +kernel
theorem dX7_sortAt_8 : decode cX7_sortAt 8 = .ok (.ireturn, 1) := by decide +kernel
theorem dX7_timeOf_0 : decode cX7_timeOf 0 = .ok (.aload_n 0, 1) := by decide +kernel
theorem dX7_timeOf_1 : decode cX7_timeOf 1 = .ok (.getfield 18, 3) := by decide +kernel
theorem dX7_timeOf_4 : decode cX7_timeOf 4 = .ok (.iload_n 1, 1) := by decide +kernel
theorem dX7_timeOf_5 : decode cX7_timeOf 5 = .ok (.invokestatic 42, 3) := by decide +kernel
theorem dX7_timeOf_8 : decode cX7_timeOf 8 = .ok (.ireturn, 1) := by decide +kernel
theorem dX7_speechesOf_0 : decode cX7_speechesOf 0 = .ok (.aload_n 0, 1) := by decide +kernel
theorem dX7_speechesOf_1 : decode cX7_speechesOf 1 = .ok (.getfield 21, 3) := by decide +kernel
theorem dX7_speechesOf_4 : decode cX7_speechesOf 4 = .ok (.iload_n 1, 1) := by decide +kernel
theorem dX7_speechesOf_5 : decode cX7_speechesOf 5 = .ok (.invokestatic 42, 3) := by decide +kernel
theorem dX7_speechesOf_8 : decode cX7_speechesOf 8 = .ok (.ireturn, 1) := by decide +kernel
theorem dX7_delegationTime_0 : decode cX7_delegationTime 0 = .ok (.aload_n 0, 1) := by decide +kernel
theorem dX7_delegationTime_1 : decode cX7_delegationTime 1 = .ok (.getfield 24, 3) := by decide +kernel
theorem dX7_delegationTime_4 : decode cX7_delegationTime 4 = .ok (.iload_n 1, 1) := by decide +kernel
theorem dX7_delegationTime_5 : decode cX7_delegationTime 5 = .ok (.invokestatic 42, 3) := by decide +kernel
theorem dX7_delegationTime_8 : decode cX7_delegationTime 8 = .ok (.ireturn, 1) := by decide +kernel
theorem dX7_latestDelegation_0 : decode cX7_latestDelegation 0 = .ok (.aload_n 0, 1) := by decide +kernel
theorem dX7_latestDelegation_1 : decode cX7_latestDelegation 1 = .ok (.getfield 31, 3) := by decide +kernel
theorem dX7_latestDelegation_4 : decode cX7_latestDelegation 4 = .ok (.ireturn, 1) := by decide +kernel
theorem dX7_find_0 : decode cX7_find 0 = .ok (.iconst 0, 1) := by decide +kernel
theorem dX7_find_1 : decode cX7_find 1 = .ok (.istore_n 3, 1) := by decide +kernel
theorem dX7_find_2 : decode cX7_find 2 = .ok (.iload_n 3, 1) := by decide +kernel
theorem dX7_find_3 : decode cX7_find 3 = .ok (.aload_n 0, 1) := by decide +kernel
theorem dX7_find_4 : decode cX7_find 4 = .ok (.getfield 27, 3) := by decide +kernel
theorem dX7_find_7 : decode cX7_find 7 = .ok (.if_icmp .ge 29, 3) := by decide +kernel
theorem dX7_find_10 : decode cX7_find 10 = .ok (.aload_n 0, 1) := by decide +kernel
theorem dX7_find_11 : decode cX7_find 11 = .ok (.iload_n 3, 1) := by decide +kernel
theorem dX7_find_12 : decode cX7_find 12 = .ok (.invokevirtual 46, 3) := by decide +kernel
theorem dX7_find_15 : decode cX7_find 15 = .ok (.iload_n 1, 1) := by decide +kernel
theorem dX7_find_16 : decode cX7_find 16 = .ok (.if_icmp .ne 14, 3) := by decide +kernel
theorem dX7_find_19 : decode cX7_find 19 = .ok (.aload_n 0, 1) := by decide +kernel
theorem dX7_find_20 : decode cX7_find 20 = .ok (.iload_n 3, 1) := by decide +kernel
theorem dX7_find_21 : decode cX7_find 21 = .ok (.invokevirtual 50, 3) := by decide +kernel
theorem dX7_find_24 : decode cX7_find 24 = .ok (.iload_n 2, 1) := by decide +kernel
theorem dX7_find_25 : decode cX7_find 25 = .ok (.if_icmp .ne 5, 3) := by decide +kernel
theorem dX7_find_28 : decode cX7_find 28 = .ok (.iload_n 3, 1) := by decide +kernel
theorem dX7_find_29 : decode cX7_find 29 = .ok (.ireturn, 1) := by decide +kernel
theorem dX7_find_30 : decode cX7_find 30 = .ok (.iinc 3 1, 3) := by decide +kernel
theorem dX7_find_33 : decode cX7_find 33 = .ok (.goto (-31), 3) := by decide +kernel
theorem dX7_find_36 : decode cX7_find 36 = .ok (.iconst (-1), 1) := by decide +kernel
theorem dX7_find_37 : decode cX7_find 37 = .ok (.ireturn, 1) := by decide +kernel
theorem dX7_append_0 : decode cX7_append 0 = .ok (.aload_n 0, 1) := by decide +kernel
theorem dX7_append_1 : decode cX7_append 1 = .ok (.getfield 27, 3) := by decide +kernel
theorem dX7_append_4 : decode cX7_append 4 = .ok (.bipush 20, 2) := by decide +kernel
theorem dX7_append_6 : decode cX7_append 6 = .ok (.if_icmp .ge 37, 3) := by decide +kernel
theorem dX7_append_9 : decode cX7_append 9 = .ok (.aload_n 0, 1) := by decide +kernel
theorem dX7_append_10 : decode cX7_append 10 = .ok (.getfield 9, 3) := by decide +kernel
theorem dX7_append_13 : decode cX7_append 13 = .ok (.aload_n 0, 1) := by decide +kernel
theorem dX7_append_14 : decode cX7_append 14 = .ok (.getfield 27, 3) := by decide +kernel
theorem dX7_append_17 : decode cX7_append 17 = .ok (.iload_n 1, 1) := by decide +kernel
theorem dX7_append_18 : decode cX7_append 18 = .ok (.invokestatic 53, 3) := by decide +kernel
theorem dX7_append_21 : decode cX7_append 21 = .ok (.aload_n 0, 1) := by decide +kernel
theorem dX7_append_22 : decode cX7_append 22 = .ok (.getfield 15, 3) := by decide +kernel
theorem dX7_append_25 : decode cX7_append 25 = .ok (.aload_n 0, 1) := by decide +kernel
theorem dX7_append_26 : decode cX7_append 26 = .ok (.getfield 27, 3) := by decide +kernel
theorem dX7_append_29 : decode cX7_append 29 = .ok (.iload_n 2, 1) := by decide +kernel
theorem dX7_append_30 : decode cX7_append 30 = .ok (.invokestatic 53, 3) := by decide +kernel
theorem dX7_append_33 : decode cX7_append 33 = .ok (.aload_n 0, 1) := by decide +kernel
theorem dX7_append_34 : decode cX7_append 34 = .ok (.dup, 1) := by decide +kernel
theorem dX7_append_35 : decode cX7_append 35 = .ok (.getfield 27, 3) := by decide +kernel
theorem dX7_append_38 : decode cX7_append 38 = .ok (.iconst 1, 1) := by decide +kernel
theorem dX7_append_39 : decode cX7_append 39 = .ok (.iadd, 1) := by decide +kernel
theorem dX7_append_40 : decode cX7_append 40 = .ok (.putfield 27, 3) := by decide +kernel
theorem dX7_append_43 : decode cX7_append 43 = .ok (.return_, 1) := by decide +kernel
theorem dX7_drop_0 : decode cX7_drop 0 = .ok (.iload_n 1, 1) := by decide +kernel
theorem dX7_drop_1 : decode cX7_drop 1 = .ok (.ifCond .lt 11, 3) := by decide +kernel
theorem dX7_drop_4 : decode cX7_drop 4 = .ok (.iload_n 1, 1) := by decide +kernel
theorem dX7_drop_5 : decode cX7_drop 5 = .ok (.aload_n 0, 1) := by decide +kernel
theorem dX7_drop_6 : decode cX7_drop 6 = .ok (.getfield 27, 3) := by decide +kernel
theorem dX7_drop_9 : decode cX7_drop 9 = .ok (.if_icmp .lt 4, 3) := by decide +kernel
theorem dX7_drop_12 : decode cX7_drop 12 = .ok (.return_, 1) := by decide +kernel
theorem dX7_drop_13 : decode cX7_drop 13 = .ok (.iload_n 1, 1) := by decide +kernel
theorem dX7_drop_14 : decode cX7_drop 14 = .ok (.istore_n 2, 1) := by decide +kernel
theorem dX7_drop_15 : decode cX7_drop 15 = .ok (.iload_n 2, 1) := by decide +kernel
theorem dX7_drop_16 : decode cX7_drop 16 = .ok (.iconst 1, 1) := by decide +kernel
theorem dX7_drop_17 : decode cX7_drop 17 = .ok (.iadd, 1) := by decide +kernel
theorem dX7_drop_18 : decode cX7_drop 18 = .ok (.aload_n 0, 1) := by decide +kernel
theorem dX7_drop_19 : decode cX7_drop 19 = .ok (.getfield 27, 3) := by decide +kernel
theorem dX7_drop_22 : decode cX7_drop 22 = .ok (.if_icmp .ge 39, 3) := by decide +kernel
theorem dX7_drop_25 : decode cX7_drop 25 = .ok (.aload_n 0, 1) := by decide +kernel
theorem dX7_drop_26 : decode cX7_drop 26 = .ok (.getfield 9, 3) := by decide +kernel
theorem dX7_drop_29 : decode cX7_drop 29 = .ok (.iload_n 2, 1) := by decide +kernel
theorem dX7_drop_30 : decode cX7_drop 30 = .ok (.aload_n 0, 1) := by decide +kernel
theorem dX7_drop_31 : decode cX7_drop 31 = .ok (.iload_n 2, 1) := by decide +kernel
theorem dX7_drop_32 : decode cX7_drop 32 = .ok (.iconst 1, 1) := by decide +kernel
theorem dX7_drop_33 : decode cX7_drop 33 = .ok (.iadd, 1) := by decide +kernel
theorem dX7_drop_34 : decode cX7_drop 34 = .ok (.invokevirtual 46, 3) := by decide +kernel
theorem dX7_drop_37 : decode cX7_drop 37 = .ok (.invokestatic 53, 3) := by decide +kernel
theorem dX7_drop_40 : decode cX7_drop 40 = .ok (.aload_n 0, 1) := by decide +kernel
theorem dX7_drop_41 : decode cX7_drop 41 = .ok (.getfield 15, 3) := by decide +kernel
theorem dX7_drop_44 : decode cX7_drop 44 = .ok (.iload_n 2, 1) := by decide +kernel
theorem dX7_drop_45 : decode cX7_drop 45 = .ok (.aload_n 0, 1) := by decide +kernel
theorem dX7_drop_46 : decode cX7_drop 46 = .ok (.iload_n 2, 1) := by decide +kernel
theorem dX7_drop_47 : decode cX7_drop 47 = .ok (.iconst 1, 1) := by decide +kernel
theorem dX7_drop_48 : decode cX7_drop 48 = .ok (.iadd, 1) := by decide +kernel
theorem dX7_drop_49 : decode cX7_drop 49 = .ok (.invokevirtual 50, 3) := by decide +kernel
theorem dX7_drop_52 : decode cX7_drop 52 = .ok (.invokestatic 53, 3) := by decide +kernel
theorem dX7_drop_55 : decode cX7_drop 55 = .ok (.iinc 2 1, 3) := by decide +kernel
theorem dX7_drop_58 : decode cX7_drop 58 = .ok (.goto (-43), 3) := by decide +kernel
theorem dX7_drop_61 : decode cX7_drop 61 = .ok (.aload_n 0, 1) := by decide +kernel
theorem dX7_drop_62 : decode cX7_drop 62 = .ok (.dup, 1) := by decide +kernel
theorem dX7_drop_63 : decode cX7_drop 63 = .ok (.getfield 27, 3) := by decide +kernel
theorem dX7_drop_66 : decode cX7_drop 66 = .ok (.iconst 1, 1) := by decide +kernel
theorem dX7_drop_67 : decode cX7_drop 67 = .ok (.isub, 1) := by decide +kernel
theorem dX7_drop_68 : decode cX7_drop 68 = .ok (.putfield 27, 3) := by decide +kernel
end
section
theorem dX7_drop_71 : decode cX7_drop 71 = .ok (.return_, 1) := by decide +kernel
theorem dX7_take_0 : decode cX7_take 0 = .ok (.aload_n 0, 1) := by decide +kernel
theorem dX7_take_1 : decode cX7_take 1 = .ok (.iload_n 1, 1) := by decide +kernel
theorem dX7_take_2 : decode cX7_take 2 = .ok (.invokevirtual 46, 3) := by decide +kernel
theorem dX7_take_5 : decode cX7_take 5 = .ok (.istore_n 2, 1) := by decide +kernel
theorem dX7_take_6 : decode cX7_take 6 = .ok (.aload_n 0, 1) := by decide +kernel
theorem dX7_take_7 : decode cX7_take 7 = .ok (.iload_n 1, 1) := by decide +kernel
theorem dX7_take_8 : decode cX7_take 8 = .ok (.invokevirtual 50, 3) := by decide +kernel
theorem dX7_take_11 : decode cX7_take 11 = .ok (.ifCond .ne 18, 3) := by decide +kernel
theorem dX7_take_14 : decode cX7_take 14 = .ok (.aload_n 0, 1) := by decide +kernel
theorem dX7_take_15 : decode cX7_take 15 = .ok (.getfield 21, 3) := by decide +kernel
theorem dX7_take_18 : decode cX7_take 18 = .ok (.iload_n 2, 1) := by decide +kernel
theorem dX7_take_19 : decode cX7_take 19 = .ok (.aload_n 0, 1) := by decide +kernel
theorem dX7_take_20 : decode cX7_take 20 = .ok (.iload_n 2, 1) := by decide +kernel
theorem dX7_take_21 : decode cX7_take 21 = .ok (.invokevirtual 57, 3) := by decide +kernel
theorem dX7_take_24 : decode cX7_take 24 = .ok (.iconst 1, 1) := by decide +kernel
theorem dX7_take_25 : decode cX7_take 25 = .ok (.iadd, 1) := by decide +kernel
theorem dX7_take_26 : decode cX7_take 26 = .ok (.invokestatic 53, 3) := by decide +kernel
theorem dX7_take_29 : decode cX7_take 29 = .ok (.aload_n 0, 1) := by decide +kernel
theorem dX7_take_30 : decode cX7_take 30 = .ok (.aload_n 0, 1) := by decide +kernel
theorem dX7_take_31 : decode cX7_take 31 = .ok (.getfield 34, 3) := by decide +kernel
theorem dX7_take_34 : decode cX7_take 34 = .ok (.iload_n 2, 1) := by decide +kernel
theorem dX7_take_35 : decode cX7_take 35 = .ok (.invokevirtual 60, 3) := by decide +kernel
theorem dX7_take_38 : decode cX7_take 38 = .ok (.putfield 31, 3) := by decide +kernel
theorem dX7_take_41 : decode cX7_take 41 = .ok (.aload_n 0, 1) := by decide +kernel
theorem dX7_take_42 : decode cX7_take 42 = .ok (.iload_n 1, 1) := by decide +kernel
theorem dX7_take_43 : decode cX7_take 43 = .ok (.invokevirtual 65, 3) := by decide +kernel
theorem dX7_take_46 : decode cX7_take 46 = .ok (.return_, 1) := by decide +kernel
theorem dX7_addTime_0 : decode cX7_addTime 0 = .ok (.aload_n 0, 1) := by decide +kernel
theorem dX7_addTime_1 : decode cX7_addTime 1 = .ok (.getfield 34, 3) := by decide +kernel
theorem dX7_addTime_4 : decode cX7_addTime 4 = .ok (.iload_n 1, 1) := by decide +kernel
theorem dX7_addTime_5 : decode cX7_addTime 5 = .ok (.invokevirtual 60, 3) := by decide +kernel
theorem dX7_addTime_8 : decode cX7_addTime 8 = .ok (.istore_n 3, 1) := by decide +kernel
theorem dX7_addTime_9 : decode cX7_addTime 9 = .ok (.aload_n 0, 1) := by decide +kernel
theorem dX7_addTime_10 : decode cX7_addTime 10 = .ok (.getfield 18, 3) := by decide +kernel
theorem dX7_addTime_13 : decode cX7_addTime 13 = .ok (.iload_n 1, 1) := by decide +kernel
theorem dX7_addTime_14 : decode cX7_addTime 14 = .ok (.aload_n 0, 1) := by decide +kernel
theorem dX7_addTime_15 : decode cX7_addTime 15 = .ok (.iload_n 1, 1) := by decide +kernel
theorem dX7_addTime_16 : decode cX7_addTime 16 = .ok (.invokevirtual 69, 3) := by decide +kernel
theorem dX7_addTime_19 : decode cX7_addTime 19 = .ok (.iload_n 2, 1) := by decide +kernel
theorem dX7_addTime_20 : decode cX7_addTime 20 = .ok (.iadd, 1) := by decide +kernel
theorem dX7_addTime_21 : decode cX7_addTime 21 = .ok (.invokestatic 53, 3) := by decide +kernel
theorem dX7_addTime_24 : decode cX7_addTime 24 = .ok (.aload_n 0, 1) := by decide +kernel
theorem dX7_addTime_25 : decode cX7_addTime 25 = .ok (.getfield 24, 3) := by decide +kernel
theorem dX7_addTime_28 : decode cX7_addTime 28 = .ok (.iload_n 3, 1) := by decide +kernel
theorem dX7_addTime_29 : decode cX7_addTime 29 = .ok (.aload_n 0, 1) := by decide +kernel
theorem dX7_addTime_30 : decode cX7_addTime 30 = .ok (.iload_n 3, 1) := by decide +kernel
theorem dX7_addTime_31 : decode cX7_addTime 31 = .ok (.invokevirtual 72, 3) := by decide +kernel
theorem dX7_addTime_34 : decode cX7_addTime 34 = .ok (.iload_n 2, 1) := by decide +kernel
theorem dX7_addTime_35 : decode cX7_addTime 35 = .ok (.iadd, 1) := by decide +kernel
theorem dX7_addTime_36 : decode cX7_addTime 36 = .ok (.invokestatic 53, 3) := by decide +kernel
theorem dX7_addTime_39 : decode cX7_addTime 39 = .ok (.return_, 1) := by decide +kernel
theorem dX8_init_0 : decode cX8_init 0 = .ok (.aload_n 0, 1) := by decide +kernel
theorem dX8_init_1 : decode cX8_init 1 = .ok (.invokespecial 1, 3) := by decide +kernel
theorem dX8_init_4 : decode cX8_init 4 = .ok (.aload_n 0, 1) := by decide +kernel
theorem dX8_init_5 : decode cX8_init 5 = .ok (.new 7, 3) := by decide +kernel
theorem dX8_init_8 : decode cX8_init 8 = .ok (.dup, 1) := by decide +kernel
theorem dX8_init_9 : decode cX8_init 9 = .ok (.invokespecial 9, 3) := by decide +kernel
theorem dX8_init_12 : decode cX8_init 12 = .ok (.putfield 10, 3) := by decide +kernel
theorem dX8_init_15 : decode cX8_init 15 = .ok (.aload_n 0, 1) := by decide +kernel
theorem dX8_init_16 : decode cX8_init 16 = .ok (.new 16, 3) := by decide +kernel
theorem dX8_init_19 : decode cX8_init 19 = .ok (.dup, 1) := by decide +kernel
theorem dX8_init_20 : decode cX8_init 20 = .ok (.aload_n 0, 1) := by decide +kernel
theorem dX8_init_21 : decode cX8_init 21 = .ok (.getfield 10, 3) := by decide +kernel
theorem dX8_init_24 : decode cX8_init 24 = .ok (.invokespecial 18, 3) := by decide +kernel
theorem dX8_init_27 : decode cX8_init 27 = .ok (.putfield 21, 3) := by decide +kernel
theorem dX8_init_30 : decode cX8_init 30 = .ok (.aload_n 0, 1) := by decide +kernel
theorem dX8_init_31 : decode cX8_init 31 = .ok (.new 16, 3) := by decide +kernel
theorem dX8_init_34 : decode cX8_init 34 = .ok (.dup, 1) := by decide +kernel
theorem dX8_init_35 : decode cX8_init 35 = .ok (.aload_n 0, 1) := by decide +kernel
theorem dX8_init_36 : decode cX8_init 36 = .ok (.getfield 10, 3) := by decide +kernel
theorem dX8_init_39 : decode cX8_init 39 = .ok (.invokespecial 18, 3) := by decide +kernel
theorem dX8_init_42 : decode cX8_init 42 = .ok (.putfield 25, 3) := by decide +kernel
theorem dX8_init_45 : decode cX8_init 45 = .ok (.aload_n 0, 1) := by decide +kernel
theorem dX8_init_46 : decode cX8_init 46 = .ok (.new 28, 3) := by decide +kernel
theorem dX8_init_49 : decode cX8_init 49 = .ok (.dup, 1) := by decide +kernel
theorem dX8_init_50 : decode cX8_init 50 = .ok (.aload_n 0, 1) := by decide +kernel
theorem dX8_init_51 : decode cX8_init 51 = .ok (.getfield 10, 3) := by decide +kernel
theorem dX8_init_54 : decode cX8_init 54 = .ok (.invokespecial 30, 3) := by decide +kernel
theorem dX8_init_57 : decode cX8_init 57 = .ok (.putfield 31, 3) := by decide +kernel
theorem dX8_init_60 : decode cX8_init 60 = .ok (.aload_n 0, 1) := by decide +kernel
theorem dX8_init_61 : decode cX8_init 61 = .ok (.new 35, 3) := by decide +kernel
theorem dX8_init_64 : decode cX8_init 64 = .ok (.dup, 1) := by decide +kernel
theorem dX8_init_65 : decode cX8_init 65 = .ok (.aload_n 0, 1) := by decide +kernel
theorem dX8_init_66 : decode cX8_init 66 = .ok (.getfield 10, 3) := by decide +kernel
theorem dX8_init_69 : decode cX8_init 69 = .ok (.aload_n 0, 1) := by decide +kernel
theorem dX8_init_70 : decode cX8_init 70 = .ok (.getfield 31, 3) := by decide +kernel
theorem dX8_init_73 : decode cX8_init 73 = .ok (.aload_n 0, 1) := by decide +kernel
theorem dX8_init_74 : decode cX8_init 74 = .ok (.getfield 21, 3) := by decide +kernel
theorem dX8_init_77 : decode cX8_init 77 = .ok (.invokespecial 37, 3) := by decide +kernel
theorem dX8_init_80 : decode cX8_init 80 = .ok (.putfield 40, 3) := by decide +kernel
theorem dX8_init_83 : decode cX8_init 83 = .ok (.aload_n 0, 1) := by decide +kernel
theorem dX8_init_84 : decode cX8_init 84 = .ok (.new 44, 3) := by decide +kernel
theorem dX8_init_87 : decode cX8_init 87 = .ok (.dup, 1) := by decide +kernel
theorem dX8_init_88 : decode cX8_init 88 = .ok (.invokespecial 46, 3) := by decide +kernel
theorem dX8_init_91 : decode cX8_init 91 = .ok (.putfield 47, 3) := by decide +kernel
theorem dX8_init_94 : decode cX8_init 94 = .ok (.aload_n 0, 1) := by decide +kernel
theorem dX8_init_95 : decode cX8_init 95 = .ok (.new 51, 3) := by decide +kernel
theorem dX8_init_98 : decode cX8_init 98 = .ok (.dup, 1) := by decide +kernel
theorem dX8_init_99 : decode cX8_init 99 = .ok (.aload_n 0, 1) := by decide +kernel
theorem dX8_init_100 : decode cX8_init 100 = .ok (.getfield 10, 3) := by decide +kernel
theorem dX8_init_103 : decode cX8_init 103 = .ok (.invokespecial 53, 3) := by decide +kernel
theorem dX8_init_106 : decode cX8_init 106 = .ok (.putfield 54, 3) := by decide +kernel
theorem dX8_init_109 : decode cX8_init 109 = .ok (.aload_n 0, 1) := by decide +kernel
theorem dX8_init_110 : decode cX8_init 110 = .ok (.new 58, 3) := by decide +kernel
theorem dX8_init_113 : decode cX8_init 113 = .ok (.dup, 1) := by decide +kernel
theorem dX8_init_114 : decode cX8_init 114 = .ok (.invokespecial 60, 3) := by decide +kernel
theorem dX8_init_117 : decode cX8_init 117 = .ok (.putfield 61, 3) := by decide +kernel
theorem dX8_init_120 : decode cX8_init 120 = .ok (.aload_n 0, 1) := by decide +kernel
theorem dX8_init_121 : decode cX8_init 121 = .ok (.iconst 4, 1) := by decide +kernel
theorem dX8_init_122 : decode cX8_init 122 = .ok (.anewarray 65, 3) := by decide +kernel
theorem dX8_init_125 : decode cX8_init 125 = .ok (.putfield 67, 3) := by decide +kernel
theorem dX8_init_128 : decode cX8_init 128 = .ok (.iconst 0, 1) := by decide +kernel
theorem dX8_init_129 : decode cX8_init 129 = .ok (.istore_n 1, 1) := by decide +kernel
theorem dX8_init_130 : decode cX8_init 130 = .ok (.iload_n 1, 1) := by decide +kernel
theorem dX8_init_131 : decode cX8_init 131 = .ok (.aload_n 0, 1) := by decide +kernel
theorem dX8_init_132 : decode cX8_init 132 = .ok (.getfield 67, 3) := by decide +kernel
theorem dX8_init_135 : decode cX8_init 135 = .ok (.arraylength, 1) := by decide +kernel
theorem dX8_init_136 : decode cX8_init 136 = .ok (.if_icmp .ge 22, 3) := by decide +kernel
theorem dX8_init_139 : decode cX8_init 139 = .ok (.aload_n 0, 1) := by decide +kernel
theorem dX8_init_140 : decode cX8_init 140 = .ok (.getfield 67, 3) := by decide +kernel
theorem dX8_init_143 : decode cX8_init 143 = .ok (.iload_n 1, 1) := by decide +kernel
theorem dX8_init_144 : decode cX8_init 144 = .ok (.new 65, 3) := by decide +kernel
theorem dX8_init_147 : decode cX8_init 147 = .ok (.dup, 1) := by decide +kernel
theorem dX8_init_148 : decode cX8_init 148 = .ok (.invokespecial 71, 3) := by decide +kernel
theorem dX8_init_151 : decode cX8_init 151 = .ok (.aastore, 1) := by decide +kernel
theorem dX8_init_152 : decode cX8_init 152 = .ok (.iinc 1 1, 3) := by decide +kernel
theorem dX8_init_155 : decode cX8_init 155 = .ok (.goto (-25), 3) := by decide +kernel
theorem dX8_init_158 : decode cX8_init 158 = .ok (.aload_n 0, 1) := by decide +kernel
theorem dX8_init_159 : decode cX8_init 159 = .ok (.iconst 0, 1) := by decide +kernel
theorem dX8_init_160 : decode cX8_init 160 = .ok (.putfield 72, 3) := by decide +kernel
theorem dX8_init_163 : decode cX8_init 163 = .ok (.return_, 1) := by decide +kernel
theorem dX8_member_0 : decode cX8_member 0 = .ok (.iload_n 1, 1) := by decide +kernel
theorem dX8_member_1 : decode cX8_member 1 = .ok (.iconst 0, 1) := by decide +kernel
theorem dX8_member_2 : decode cX8_member 2 = .ok (.iconst 3, 1) := by decide +kernel
theorem dX8_member_3 : decode cX8_member 3 = .ok (.invokestatic 76, 3) := by decide +kernel
theorem dX8_member_6 : decode cX8_member 6 = .ok (.ifCond .eq 12, 3) := by decide +kernel
theorem dX8_member_9 : decode cX8_member 9 = .ok (.iload_n 2, 1) := by decide +kernel
theorem dX8_member_10 : decode cX8_member 10 = .ok (.iconst 0, 1) := by decide +kernel
theorem dX8_member_11 : decode cX8_member 11 = .ok (.iconst 4, 1) := by decide +kernel
theorem dX8_member_12 : decode cX8_member 12 = .ok (.invokestatic 76, 3) := by decide +kernel
theorem dX8_member_15 : decode cX8_member 15 = .ok (.ifCond .ne 10, 3) := by decide +kernel
theorem dX8_member_18 : decode cX8_member 18 = .ok (.aload_n 0, 1) := by decide +kernel
theorem dX8_member_19 : decode cX8_member 19 = .ok (.ldc 80, 2) := by decide +kernel
theorem dX8_member_21 : decode cX8_member 21 = .ok (.invokevirtual 81, 3) := by decide +kernel
theorem dX8_member_24 : decode cX8_member 24 = .ok (.ireturn, 1) := by decide +kernel
theorem dX8_member_25 : decode cX8_member 25 = .ok (.aload_n 0, 1) := by decide +kernel
theorem dX8_member_26 : decode cX8_member 26 = .ok (.getfield 10, 3) := by decide +kernel
theorem dX8_member_29 : decode cX8_member 29 = .ok (.invokevirtual 85, 3) := by decide +kernel
theorem dX8_member_32 : decode cX8_member 32 = .ok (.bipush 10, 2) := by decide +kernel
theorem dX8_member_34 : decode cX8_member 34 = .ok (.if_icmp .lt 10, 3) := by decide +kernel
theorem dX8_member_37 : decode cX8_member 37 = .ok (.aload_n 0, 1) := by decide +kernel
theorem dX8_member_38 : decode cX8_member 38 = .ok (.ldc 89, 2) := by decide +kernel
theorem dX8_member_40 : decode cX8_member 40 = .ok (.invokevirtual 81, 3) := by decide +kernel
theorem dX8_member_43 : decode cX8_member 43 = .ok (.ireturn, 1) := by decide +kernel
theorem dX8_member_44 : decode cX8_member 44 = .ok (.aload_n 0, 1) := by decide +kernel
theorem dX8_member_45 : decode cX8_member 45 = .ok (.getfield 10, 3) := by decide +kernel
theorem dX8_member_48 : decode cX8_member 48 = .ok (.iload_n 1, 1) := by decide +kernel
theorem dX8_member_49 : decode cX8_member 49 = .ok (.iload_n 2, 1) := by decide +kernel
theorem dX8_member_50 : decode cX8_member 50 = .ok (.invokevirtual 90, 3) := by decide +kernel
theorem dX8_member_53 : decode cX8_member 53 = .ok (.ireturn, 1) := by decide +kernel
theorem dX8_as_0 : decode cX8_as 0 = .ok (.aload_n 0, 1) := by decide +kernel
theorem dX8_as_1 : decode cX8_as 1 = .ok (.getfield 10, 3) := by decide +kernel
theorem dX8_as_4 : decode cX8_as 4 = .ok (.iload_n 1, 1) := by decide +kernel
theorem dX8_as_5 : decode cX8_as 5 = .ok (.invokevirtual 94, 3) := by decide +kernel
theorem dX8_as_8 : decode cX8_as 8 = .ok (.ifCond .eq 12, 3) := by decide +kernel
theorem dX8_as_11 : decode cX8_as 11 = .ok (.iload_n 2, 1) := by decide +kernel
theorem dX8_as_12 : decode cX8_as 12 = .ok (.iconst 0, 1) := by decide +kernel
theorem dX8_as_13 : decode cX8_as 13 = .ok (.iconst 3, 1) := by decide +kernel
theorem dX8_as_14 : decode cX8_as 14 = .ok (.invokestatic 76, 3) := by decide +kernel
theorem dX8_as_17 : decode cX8_as 17 = .ok (.ifCond .ne 10, 3) := by decide +kernel
theorem dX8_as_20 : decode cX8_as 20 = .ok (.aload_n 0, 1) := by decide +kernel
theorem dX8_as_21 : decode cX8_as 21 = .ok (.ldc 80, 2) := by decide +kernel
theorem dX8_as_23 : decode cX8_as 23 = .ok (.invokevirtual 81, 3) := by decide +kernel
theorem dX8_as_26 : decode cX8_as 26 = .ok (.ireturn, 1) := by decide +kernel
theorem dX8_as_27 : decode cX8_as 27 = .ok (.aload_n 0, 1) := by decide +kernel
theorem dX8_as_28 : decode cX8_as 28 = .ok (.getfield 10, 3) := by decide +kernel
theorem dX8_as_31 : decode cX8_as 31 = .ok (.iload_n 1, 1) := by decide +kernel
theorem dX8_as_32 : decode cX8_as 32 = .ok (.iload_n 2, 1) := by decide +kernel
theorem dX8_as_33 : decode cX8_as 33 = .ok (.invokevirtual 98, 3) := by decide +kernel
theorem dX8_as_36 : decode cX8_as 36 = .ok (.ifCond .ne 10, 3) := by decide +kernel
theorem dX8_as_39 : decode cX8_as 39 = .ok (.aload_n 0, 1) := by decide +kernel
theorem dX8_as_40 : decode cX8_as 40 = .ok (.ldc 102, 2) := by decide +kernel
theorem dX8_as_42 : decode cX8_as 42 = .ok (.invokevirtual 81, 3) := by decide +kernel
theorem dX8_as_45 : decode cX8_as 45 = .ok (.ireturn, 1) := by decide +kernel
theorem dX8_as_46 : decode cX8_as 46 = .ok (.iload_n 1, 1) := by decide +kernel
theorem dX8_as_47 : decode cX8_as 47 = .ok (.ireturn, 1) := by decide +kernel
theorem dX8_present_0 : decode cX8_present 0 = .ok (.aload_n 0, 1) := by decide +kernel
theorem dX8_present_1 : decode cX8_present 1 = .ok (.getfield 10, 3) := by decide +kernel
theorem dX8_present_4 : decode cX8_present 4 = .ok (.iload_n 1, 1) := by decide +kernel
theorem dX8_present_5 : decode cX8_present 5 = .ok (.invokevirtual 94, 3) := by decide +kernel
theorem dX8_present_8 : decode cX8_present 8 = .ok (.ifCond .ne 10, 3) := by decide +kernel
theorem dX8_present_11 : decode cX8_present 11 = .ok (.aload_n 0, 1) := by decide +kernel
theorem dX8_present_12 : decode cX8_present 12 = .ok (.ldc 80, 2) := by decide +kernel
theorem dX8_present_14 : decode cX8_present 14 = .ok (.invokevirtual 81, 3) := by decide +kernel
theorem dX8_present_17 : decode cX8_present 17 = .ok (.ireturn, 1) := by decide +kernel
theorem dX8_present_18 : decode cX8_present 18 = .ok (.aload_n 0, 1) := by decide +kernel
theorem dX8_present_19 : decode cX8_present 19 = .ok (.getfield 10, 3) := by decide +kernel
theorem dX8_present_22 : decode cX8_present 22 = .ok (.iload_n 1, 1) := by decide +kernel
theorem dX8_present_23 : decode cX8_present 23 = .ok (.invokevirtual 103, 3) := by decide +kernel
theorem dX8_present_26 : decode cX8_present 26 = .ok (.iload_n 2, 1) := by decide +kernel
theorem dX8_present_27 : decode cX8_present 27 = .ok (.if_icmp .ne 5, 3) := by decide +kernel
theorem dX8_present_30 : decode cX8_present 30 = .ok (.iconst 0, 1) := by decide +kernel
theorem dX8_present_31 : decode cX8_present 31 = .ok (.ireturn, 1) := by decide +kernel
theorem dX8_present_32 : decode cX8_present 32 = .ok (.aload_n 0, 1) := by decide +kernel
theorem dX8_present_33 : decode cX8_present 33 = .ok (.getfield 10, 3) := by decide +kernel
theorem dX8_present_36 : decode cX8_present 36 = .ok (.iload_n 1, 1) := by decide +kernel
theorem dX8_present_37 : decode cX8_present 37 = .ok (.iload_n 2, 1) := by decide +kernel
theorem dX8_present_38 : decode cX8_present 38 = .ok (.invokevirtual 106, 3) := by decide +kernel
theorem dX8_present_41 : decode cX8_present 41 = .ok (.iconst 1, 1) := by decide +kernel
theorem dX8_present_42 : decode cX8_present 42 = .ok (.ireturn, 1) := by decide +kernel
theorem dX8_of_0 : decode cX8_of 0 = .ok (.aload_n 0, 1) := by decide +kernel
theorem dX8_of_1 : decode cX8_of 1 = .ok (.getfield 10, 3) := by decide +kernel
theorem dX8_of_4 : decode cX8_of 4 = .ok (.iload_n 1, 1) := by decide +kernel
theorem dX8_of_5 : decode cX8_of 5 = .ok (.invokevirtual 94, 3) := by decide +kernel
theorem dX8_of_8 : decode cX8_of 8 = .ok (.ifCond .ne 10, 3) := by decide +kernel
theorem dX8_of_11 : decode cX8_of 11 = .ok (.aload_n 0, 1) := by decide +kernel
theorem dX8_of_12 : decode cX8_of 12 = .ok (.ldc 80, 2) := by decide +kernel
theorem dX8_of_14 : decode cX8_of 14 = .ok (.invokevirtual 81, 3) := by decide +kernel
theorem dX8_of_17 : decode cX8_of 17 = .ok (.ireturn, 1) := by decide +kernel
theorem dX8_of_18 : decode cX8_of 18 = .ok (.iload_n 2, 1) := by decide +kernel
theorem dX8_of_19 : decode cX8_of 19 = .ok (.tableswitch 86 0 4 #[33, 42, 51, 68, 77], 33) := by decide +kernel
theorem dX8_of_52 : decode cX8_of 52 = .ok (.aload_n 0, 1) := by decide +kernel
theorem dX8_of_53 : decode cX8_of 53 = .ok (.getfield 10, 3) := by decide +kernel
theorem dX8_of_56 : decode cX8_of 56 = .ok (.iload_n 1, 1) := by decide +kernel
theorem dX8_of_57 : decode cX8_of 57 = .ok (.invokevirtual 110, 3) := by decide +kernel
theorem dX8_of_60 : decode cX8_of 60 = .ok (.ireturn, 1) := by decide +kernel
theorem dX8_of_61 : decode cX8_of 61 = .ok (.aload_n 0, 1) := by decide +kernel
theorem dX8_of_62 : decode cX8_of 62 = .ok (.getfield 10, 3) := by decide +kernel
theorem dX8_of_65 : decode cX8_of 65 = .ok (.iload_n 1, 1) := by decide +kernel
theorem dX8_of_66 : decode cX8_of 66 = .ok (.invokevirtual 113, 3) := by decide +kernel
theorem dX8_of_69 : decode cX8_of 69 = .ok (.ireturn, 1) := by decide +kernel
theorem dX8_of_70 : decode cX8_of 70 = .ok (.aload_n 0, 1) := by decide +kernel
theorem dX8_of_71 : decode cX8_of 71 = .ok (.getfield 10, 3) := by decide +kernel
theorem dX8_of_74 : decode cX8_of 74 = .ok (.iload_n 1, 1) := by decide +kernel
theorem dX8_of_75 : decode cX8_of 75 = .ok (.invokevirtual 103, 3) := by decide +kernel
theorem dX8_of_78 : decode cX8_of 78 = .ok (.ifCond .eq 7, 3) := by decide +kernel
theorem dX8_of_81 : decode cX8_of 81 = .ok (.iconst 1, 1) := by decide +kernel
theorem dX8_of_82 : decode cX8_of 82 = .ok (.goto 4, 3) := by decide +kernel
theorem dX8_of_85 : decode cX8_of 85 = .ok (.iconst 0, 1) := by decide +kernel
theorem dX8_of_86 : decode cX8_of 86 = .ok (.ireturn, 1) := by decide +kernel
theorem dX8_of_87 : decode cX8_of 87 = .ok (.aload_n 0, 1) := by decide +kernel
theorem dX8_of_88 : decode cX8_of 88 = .ok (.getfield 21, 3) := by decide +kernel
theorem dX8_of_91 : decode cX8_of 91 = .ok (.iload_n 1, 1) := by decide +kernel
theorem dX8_of_92 : decode cX8_of 92 = .ok (.invokevirtual 116, 3) := by decide +kernel
theorem dX8_of_95 : decode cX8_of 95 = .ok (.ireturn, 1) := by decide +kernel
theorem dX8_of_96 : decode cX8_of 96 = .ok (.aload_n 0, 1) := by decide +kernel
theorem dX8_of_97 : decode cX8_of 97 = .ok (.getfield 21, 3) := by decide +kernel
theorem dX8_of_100 : decode cX8_of 100 = .ok (.iload_n 1, 1) := by decide +kernel
theorem dX8_of_101 : decode cX8_of 101 = .ok (.invokevirtual 119, 3) := by decide +kernel
theorem dX8_of_104 : decode cX8_of 104 = .ok (.ireturn, 1) := by decide +kernel
theorem dX8_of_105 : decode cX8_of 105 = .ok (.aload_n 0, 1) := by decide +kernel
theorem dX8_of_106 : decode cX8_of 106 = .ok (.ldc 80, 2) := by decide +kernel
theorem dX8_of_108 : decode cX8_of 108 = .ok (.invokevirtual 81, 3) := by decide +kernel
theorem dX8_of_111 : decode cX8_of 111 = .ok (.ireturn, 1) := by decide +kernel
theorem dX8_time_0 : decode cX8_time 0 = .ok (.iload_n 1, 1) := by decide +kernel
theorem dX8_time_1 : decode cX8_time 1 = .ok (.iconst 0, 1) := by decide +kernel
theorem dX8_time_2 : decode cX8_time 2 = .ok (.iconst 4, 1) := by decide +kernel
theorem dX8_time_3 : decode cX8_time 3 = .ok (.invokestatic 76, 3) := by decide +kernel
theorem dX8_time_6 : decode cX8_time 6 = .ok (.ifCond .ne 10, 3) := by decide +kernel
theorem dX8_time_9 : decode cX8_time 9 = .ok (.aload_n 0, 1) := by decide +kernel
theorem dX8_time_10 : decode cX8_time 10 = .ok (.ldc 80, 2) := by decide +kernel
theorem dX8_time_12 : decode cX8_time 12 = .ok (.invokevirtual 81, 3) := by decide +kernel
theorem dX8_time_15 : decode cX8_time 15 = .ok (.ireturn, 1) := by decide +kernel
theorem dX8_time_16 : decode cX8_time 16 = .ok (.aload_n 0, 1) := by decide +kernel
theorem dX8_time_17 : decode cX8_time 17 = .ok (.getfield 21, 3) := by decide +kernel
theorem dX8_time_20 : decode cX8_time 20 = .ok (.iload_n 1, 1) := by decide +kernel
theorem dX8_time_21 : decode cX8_time 21 = .ok (.invokevirtual 122, 3) := by decide +kernel
theorem dX8_time_24 : decode cX8_time 24 = .ok (.ireturn, 1) := by decide +kernel
theorem dX8_ask_0 : decode cX8_ask 0 = .ok (.aload_n 0, 1) := by decide +kernel
theorem dX8_ask_1 : decode cX8_ask 1 = .ok (.iload_n 1, 1) := by decide +kernel
theorem dX8_ask_2 : decode cX8_ask 2 = .ok (.iload_n 2, 1) := by decide +kernel
theorem dX8_ask_3 : decode cX8_ask 3 = .ok (.invokevirtual 125, 3) := by decide +kernel
theorem dX8_ask_6 : decode cX8_ask 6 = .ok (.ifCond .ne 10, 3) := by decide +kernel
theorem dX8_ask_9 : decode cX8_ask 9 = .ok (.aload_n 0, 1) := by decide +kernel
theorem dX8_ask_10 : decode cX8_ask 10 = .ok (.ldc 80, 2) := by decide +kernel
theorem dX8_ask_12 : decode cX8_ask 12 = .ok (.invokevirtual 81, 3) := by decide +kernel
theorem dX8_ask_15 : decode cX8_ask 15 = .ok (.ireturn, 1) := by decide +kernel
theorem dX8_ask_16 : decode cX8_ask 16 = .ok (.aload_n 0, 1) := by decide +kernel
theorem dX8_ask_17 : decode cX8_ask 17 = .ok (.getfield 21, 3) := by decide +kernel
theorem dX8_ask_20 : decode cX8_ask 20 = .ok (.iload_n 1, 1) := by decide +kernel
theorem dX8_ask_21 : decode cX8_ask 21 = .ok (.iload_n 2, 1) := by decide +kernel
theorem dX8_ask_22 : decode cX8_ask 22 = .ok (.invokevirtual 128, 3) := by decide +kernel
theorem dX8_ask_25 : decode cX8_ask 25 = .ok (.iconst (-1), 1) := by decide +kernel
theorem dX8_ask_26 : decode cX8_ask 26 = .ok (.if_icmp .eq 10, 3) := by decide +kernel
theorem dX8_ask_29 : decode cX8_ask 29 = .ok (.aload_n 0, 1) := by decide +kernel
theorem dX8_ask_30 : decode cX8_ask 30 = .ok (.ldc 131, 2) := by decide +kernel
theorem dX8_ask_32 : decode cX8_ask 32 = .ok (.invokevirtual 81, 3) := by decide +kernel
theorem dX8_ask_35 : decode cX8_ask 35 = .ok (.ireturn, 1) := by decide +kernel
theorem dX8_ask_36 : decode cX8_ask 36 = .ok (.aload_n 0, 1) := by decide +kernel
theorem dX8_ask_37 : decode cX8_ask 37 = .ok (.getfield 21, 3) := by decide +kernel
theorem dX8_ask_40 : decode cX8_ask 40 = .ok (.invokevirtual 132, 3) := by decide +kernel
theorem dX8_ask_43 : decode cX8_ask 43 = .ok (.bipush 20, 2) := by decide +kernel
theorem dX8_ask_45 : decode cX8_ask 45 = .ok (.if_icmp .lt 10, 3) := by decide +kernel
theorem dX8_ask_48 : decode cX8_ask 48 = .ok (.aload_n 0, 1) := by decide +kernel
theorem dX8_ask_49 : decode cX8_ask 49 = .ok (.ldc 89, 2) := by decide +kernel
theorem dX8_ask_51 : decode cX8_ask 51 = .ok (.invokevirtual 81, 3) := by decide +kernel
theorem dX8_ask_54 : decode cX8_ask 54 = .ok (.ireturn, 1) := by decide +kernel
theorem dX8_ask_55 : decode cX8_ask 55 = .ok (.aload_n 0, 1) := by decide +kernel
theorem dX8_ask_56 : decode cX8_ask 56 = .ok (.getfield 21, 3) := by decide +kernel
theorem dX8_ask_59 : decode cX8_ask 59 = .ok (.iload_n 1, 1) := by decide +kernel
theorem dX8_ask_60 : decode cX8_ask 60 = .ok (.iload_n 2, 1) := by decide +kernel
theorem dX8_ask_61 : decode cX8_ask 61 = .ok (.invokevirtual 133, 3) := by decide +kernel
theorem dX8_ask_64 : decode cX8_ask 64 = .ok (.aload_n 0, 1) := by decide +kernel
theorem dX8_ask_65 : decode cX8_ask 65 = .ok (.getfield 21, 3) := by decide +kernel
theorem dX8_ask_68 : decode cX8_ask 68 = .ok (.invokevirtual 132, 3) := by decide +kernel
theorem dX8_ask_71 : decode cX8_ask 71 = .ok (.ireturn, 1) := by decide +kernel
theorem dX8_withdraw_0 : decode cX8_withdraw 0 = .ok (.aload_n 0, 1) := by decide +kernel
theorem dX8_withdraw_1 : decode cX8_withdraw 1 = .ok (.iload_n 1, 1) := by decide +kernel
theorem dX8_withdraw_2 : decode cX8_withdraw 2 = .ok (.iload_n 2, 1) := by decide +kernel
theorem dX8_withdraw_3 : decode cX8_withdraw 3 = .ok (.invokevirtual 125, 3) := by decide +kernel
theorem dX8_withdraw_6 : decode cX8_withdraw 6 = .ok (.ifCond .ne 10, 3) := by decide +kernel
theorem dX8_withdraw_9 : decode cX8_withdraw 9 = .ok (.aload_n 0, 1) := by decide +kernel
theorem dX8_withdraw_10 : decode cX8_withdraw 10 = .ok (.ldc 80, 2) := by decide +kernel
theorem dX8_withdraw_12 : decode cX8_withdraw 12 = .ok (.invokevirtual 81, 3) := by decide +kernel
theorem dX8_withdraw_15 : decode cX8_withdraw 15 = .ok (.ireturn, 1) := by decide +kernel
theorem dX8_withdraw_16 : decode cX8_withdraw 16 = .ok (.aload_n 0, 1) := by decide +kernel
theorem dX8_withdraw_17 : decode cX8_withdraw 17 = .ok (.getfield 21, 3) := by decide +kernel
theorem dX8_withdraw_20 : decode cX8_withdraw 20 = .ok (.iload_n 1, 1) := by decide +kernel
theorem dX8_withdraw_21 : decode cX8_withdraw 21 = .ok (.iload_n 2, 1) := by decide +kernel
theorem dX8_withdraw_22 : decode cX8_withdraw 22 = .ok (.invokevirtual 128, 3) := by decide +kernel
theorem dX8_withdraw_25 : decode cX8_withdraw 25 = .ok (.istore_n 3, 1) := by decide +kernel
theorem dX8_withdraw_26 : decode cX8_withdraw 26 = .ok (.iload_n 3, 1) := by decide +kernel
theorem dX8_withdraw_27 : decode cX8_withdraw 27 = .ok (.iconst (-1), 1) := by decide +kernel
theorem dX8_withdraw_28 : decode cX8_withdraw 28 = .ok (.if_icmp .ne 10, 3) := by decide +kernel
theorem dX8_withdraw_31 : decode cX8_withdraw 31 = .ok (.aload_n 0, 1) := by decide +kernel
theorem dX8_withdraw_32 : decode cX8_withdraw 32 = .ok (.ldc 137, 2) := by decide +kernel
theorem dX8_withdraw_34 : decode cX8_withdraw 34 = .ok (.invokevirtual 81, 3) := by decide +kernel
theorem dX8_withdraw_37 : decode cX8_withdraw 37 = .ok (.ireturn, 1) := by decide +kernel
theorem dX8_withdraw_38 : decode cX8_withdraw 38 = .ok (.aload_n 0, 1) := by decide +kernel
theorem dX8_withdraw_39 : decode cX8_withdraw 39 = .ok (.getfield 21, 3) := by decide +kernel
theorem dX8_withdraw_42 : decode cX8_withdraw 42 = .ok (.iload_n 3, 1) := by decide +kernel
theorem dX8_withdraw_43 : decode cX8_withdraw 43 = .ok (.invokevirtual 138, 3) := by decide +kernel
theorem dX8_withdraw_46 : decode cX8_withdraw 46 = .ok (.aload_n 0, 1) := by decide +kernel
theorem dX8_withdraw_47 : decode cX8_withdraw 47 = .ok (.getfield 21, 3) := by decide +kernel
theorem dX8_withdraw_50 : decode cX8_withdraw 50 = .ok (.invokevirtual 132, 3) := by decide +kernel
theorem dX8_withdraw_53 : decode cX8_withdraw 53 = .ok (.ireturn, 1) := by decide +kernel
theorem dX8_key_0 : decode cX8_key 0 = .ok (.iload_n 1, 1) := by decide +kernel
theorem dX8_key_1 : decode cX8_key 1 = .ok (.invokestatic 142, 3) := by decide +kernel
theorem dX8_key_4 : decode cX8_key 4 = .ok (.ifCond .ne 10, 3) := by decide +kernel
theorem dX8_key_7 : decode cX8_key 7 = .ok (.aload_n 0, 1) := by decide +kernel
theorem dX8_key_8 : decode cX8_key 8 = .ok (.ldc 80, 2) := by decide +kernel
theorem dX8_key_10 : decode cX8_key 10 = .ok (.invokevirtual 81, 3) := by decide +kernel
theorem dX8_key_13 : decode cX8_key 13 = .ok (.ireturn, 1) := by decide +kernel
theorem dX8_key_14 : decode cX8_key 14 = .ok (.aload_n 0, 1) := by decide +kernel
theorem dX8_key_15 : decode cX8_key 15 = .ok (.getfield 31, 3) := by decide +kernel
theorem dX8_key_18 : decode cX8_key 18 = .ok (.iload_n 1, 1) := by decide +kernel
theorem dX8_key_19 : decode cX8_key 19 = .ok (.invokevirtual 145, 3) := by decide +kernel
theorem dX8_key_22 : decode cX8_key 22 = .ok (.ifCond .eq 10, 3) := by decide +kernel
theorem dX8_key_25 : decode cX8_key 25 = .ok (.aload_n 0, 1) := by decide +kernel
theorem dX8_key_26 : decode cX8_key 26 = .ok (.ldc 131, 2) := by decide +kernel
theorem dX8_key_28 : decode cX8_key 28 = .ok (.invokevirtual 81, 3) := by decide +kernel
theorem dX8_key_31 : decode cX8_key 31 = .ok (.ireturn, 1) := by decide +kernel
theorem dX8_key_32 : decode cX8_key 32 = .ok (.aload_n 0, 1) := by decide +kernel
theorem dX8_key_33 : decode cX8_key 33 = .ok (.getfield 31, 3) := by decide +kernel
theorem dX8_key_36 : decode cX8_key 36 = .ok (.invokevirtual 146, 3) := by decide +kernel
theorem dX8_key_39 : decode cX8_key 39 = .ok (.bipush 6, 2) := by decide +kernel
theorem dX8_key_41 : decode cX8_key 41 = .ok (.if_icmp .lt 10, 3) := by decide +kernel
theorem dX8_key_44 : decode cX8_key 44 = .ok (.aload_n 0, 1) := by decide +kernel
theorem dX8_key_45 : decode cX8_key 45 = .ok (.ldc 89, 2) := by decide +kernel
theorem dX8_key_47 : decode cX8_key 47 = .ok (.invokevirtual 81, 3) := by decide +kernel
theorem dX8_key_50 : decode cX8_key 50 = .ok (.ireturn, 1) := by decide +kernel
theorem dX8_key_51 : decode cX8_key 51 = .ok (.aload_n 0, 1) := by decide +kernel
theorem dX8_key_52 : decode cX8_key 52 = .ok (.getfield 31, 3) := by decide +kernel
theorem dX8_key_55 : decode cX8_key 55 = .ok (.iload_n 1, 1) := by decide +kernel
theorem dX8_key_56 : decode cX8_key 56 = .ok (.invokevirtual 147, 3) := by decide +kernel
theorem dX8_key_59 : decode cX8_key 59 = .ok (.aload_n 0, 1) := by decide +kernel
theorem dX8_key_60 : decode cX8_key 60 = .ok (.getfield 31, 3) := by decide +kernel
theorem dX8_key_63 : decode cX8_key 63 = .ok (.invokevirtual 146, 3) := by decide +kernel
theorem dX8_key_66 : decode cX8_key 66 = .ok (.ireturn, 1) := by decide +kernel
theorem dX8_noKeys_0 : decode cX8_noKeys 0 = .ok (.aload_n 0, 1) := by decide +kernel
theorem dX8_noKeys_1 : decode cX8_noKeys 1 = .ok (.getfield 31, 3) := by decide +kernel
theorem dX8_noKeys_4 : decode cX8_noKeys 4 = .ok (.invokevirtual 146, 3) := by decide +kernel
theorem dX8_noKeys_7 : decode cX8_noKeys 7 = .ok (.istore_n 1, 1) := by decide +kernel
theorem dX8_noKeys_8 : decode cX8_noKeys 8 = .ok (.aload_n 0, 1) := by decide +kernel
theorem dX8_noKeys_9 : decode cX8_noKeys 9 = .ok (.getfield 31, 3) := by decide +kernel
theorem dX8_noKeys_12 : decode cX8_noKeys 12 = .ok (.invokevirtual 149, 3) := by decide +kernel
theorem dX8_noKeys_15 : decode cX8_noKeys 15 = .ok (.iload_n 1, 1) := by decide +kernel
theorem dX8_noKeys_16 : decode cX8_noKeys 16 = .ok (.ireturn, 1) := by decide +kernel
theorem dX8_listed_0 : decode cX8_listed 0 = .ok (.aload_n 0, 1) := by decide +kernel
theorem dX8_listed_1 : decode cX8_listed 1 = .ok (.getfield 40, 3) := by decide +kernel
theorem dX8_listed_4 : decode cX8_listed 4 = .ok (.invokevirtual 152, 3) := by decide +kernel
theorem dX8_listed_7 : decode cX8_listed 7 = .ok (.iload_n 1, 1) := by decide +kernel
theorem dX8_listed_8 : decode cX8_listed 8 = .ok (.iconst 0, 1) := by decide +kernel
theorem dX8_listed_9 : decode cX8_listed 9 = .ok (.aload_n 0, 1) := by decide +kernel
theorem dX8_listed_10 : decode cX8_listed 10 = .ok (.getfield 40, 3) := by decide +kernel
theorem dX8_listed_13 : decode cX8_listed 13 = .ok (.invokevirtual 155, 3) := by decide +kernel
theorem dX8_listed_16 : decode cX8_listed 16 = .ok (.iconst 1, 1) := by decide +kernel
theorem dX8_listed_17 : decode cX8_listed 17 = .ok (.isub, 1) := by decide +kernel
theorem dX8_listed_18 : decode cX8_listed 18 = .ok (.invokestatic 76, 3) := by decide +kernel
theorem dX8_listed_21 : decode cX8_listed 21 = .ok (.ifCond .ne 10, 3) := by decide +kernel
theorem dX8_listed_24 : decode cX8_listed 24 = .ok (.aload_n 0, 1) := by decide +kernel
theorem dX8_listed_25 : decode cX8_listed 25 = .ok (.ldc 137, 2) := by decide +kernel
theorem dX8_listed_27 : decode cX8_listed 27 = .ok (.invokevirtual 81, 3) := by decide +kernel
theorem dX8_listed_30 : decode cX8_listed 30 = .ok (.ireturn, 1) := by decide +kernel
theorem dX8_listed_31 : decode cX8_listed 31 = .ok (.aload_n 0, 1) := by decide +kernel
theorem dX8_listed_32 : decode cX8_listed 32 = .ok (.getfield 40, 3) := by decide +kernel
theorem dX8_listed_35 : decode cX8_listed 35 = .ok (.iload_n 1, 1) := by decide +kernel
theorem dX8_listed_36 : decode cX8_listed 36 = .ok (.invokevirtual 156, 3) := by decide +kernel
theorem dX8_listed_39 : decode cX8_listed 39 = .ok (.istore_n 3, 1) := by decide +kernel
theorem dX8_listed_40 : decode cX8_listed 40 = .ok (.iload_n 2, 1) := by decide +kernel
theorem dX8_listed_41 : decode cX8_listed 41 = .ok (.ifCond .eq 14, 3) := by decide +kernel
theorem dX8_listed_44 : decode cX8_listed 44 = .ok (.aload_n 0, 1) := by decide +kernel
theorem dX8_listed_45 : decode cX8_listed 45 = .ok (.getfield 21, 3) := by decide +kernel
theorem dX8_listed_48 : decode cX8_listed 48 = .ok (.iload_n 3, 1) := by decide +kernel
theorem dX8_listed_49 : decode cX8_listed 49 = .ok (.invokevirtual 159, 3) := by decide +kernel
theorem dX8_listed_52 : decode cX8_listed 52 = .ok (.goto 11, 3) := by decide +kernel
theorem dX8_listed_55 : decode cX8_listed 55 = .ok (.aload_n 0, 1) := by decide +kernel
theorem dX8_listed_56 : decode cX8_listed 56 = .ok (.getfield 21, 3) := by decide +kernel
theorem dX8_listed_59 : decode cX8_listed 59 = .ok (.iload_n 3, 1) := by decide +kernel
theorem dX8_listed_60 : decode cX8_listed 60 = .ok (.invokevirtual 162, 3) := by decide +kernel
theorem dX8_listed_63 : decode cX8_listed 63 = .ok (.ireturn, 1) := by decide +kernel
theorem dX8_place_0 : decode cX8_place 0 = .ok (.aload_n 0, 1) := by decide +kernel
theorem dX8_place_1 : decode cX8_place 1 = .ok (.iload_n 1, 1) := by decide +kernel
theorem dX8_place_2 : decode cX8_place 2 = .ok (.iload_n 2, 1) := by decide +kernel
theorem dX8_place_3 : decode cX8_place 3 = .ok (.invokevirtual 125, 3) := by decide +kernel
theorem dX8_place_6 : decode cX8_place 6 = .ok (.ifCond .ne 10, 3) := by decide +kernel
theorem dX8_place_9 : decode cX8_place 9 = .ok (.aload_n 0, 1) := by decide +kernel
theorem dX8_place_10 : decode cX8_place 10 = .ok (.ldc 80, 2) := by decide +kernel
theorem dX8_place_12 : decode cX8_place 12 = .ok (.invokevirtual 81, 3) := by decide +kernel
theorem dX8_place_15 : decode cX8_place 15 = .ok (.ireturn, 1) := by decide +kernel
theorem dX8_place_16 : decode cX8_place 16 = .ok (.aload_n 0, 1) := by decide +kernel
theorem dX8_place_17 : decode cX8_place 17 = .ok (.getfield 21, 3) := by decide +kernel
theorem dX8_place_20 : decode cX8_place 20 = .ok (.iload_n 1, 1) := by decide +kernel
theorem dX8_place_21 : decode cX8_place 21 = .ok (.iload_n 2, 1) := by decide +kernel
theorem dX8_place_22 : decode cX8_place 22 = .ok (.invokevirtual 128, 3) := by decide +kernel
theorem dX8_place_25 : decode cX8_place 25 = .ok (.istore_n 3, 1) := by decide +kernel
theorem dX8_place_26 : decode cX8_place 26 = .ok (.iload_n 3, 1) := by decide +kernel
theorem dX8_place_27 : decode cX8_place 27 = .ok (.iconst (-1), 1) := by decide +kernel
theorem dX8_place_28 : decode cX8_place 28 = .ok (.if_icmp .eq 14, 3) := by decide +kernel
theorem dX8_place_31 : decode cX8_place 31 = .ok (.aload_n 0, 1) := by decide +kernel
theorem dX8_place_32 : decode cX8_place 32 = .ok (.getfield 10, 3) := by decide +kernel
theorem dX8_place_35 : decode cX8_place 35 = .ok (.iload_n 1, 1) := by decide +kernel
theorem dX8_place_36 : decode cX8_place 36 = .ok (.invokevirtual 103, 3) := by decide +kernel
theorem dX8_place_39 : decode cX8_place 39 = .ok (.ifCond .ne 10, 3) := by decide +kernel
theorem dX8_place_42 : decode cX8_place 42 = .ok (.aload_n 0, 1) := by decide +kernel
theorem dX8_place_43 : decode cX8_place 43 = .ok (.ldc 137, 2) := by decide +kernel
theorem dX8_place_45 : decode cX8_place 45 = .ok (.invokevirtual 81, 3) := by decide +kernel
theorem dX8_place_48 : decode cX8_place 48 = .ok (.ireturn, 1) := by decide +kernel
theorem dX8_place_49 : decode cX8_place 49 = .ok (.aload_n 0, 1) := by decide +kernel
theorem dX8_place_50 : decode cX8_place 50 = .ok (.getfield 40, 3) := by decide +kernel
theorem dX8_place_53 : decode cX8_place 53 = .ok (.invokevirtual 152, 3) := by decide +kernel
theorem dX8_place_56 : decode cX8_place 56 = .ok (.aload_n 0, 1) := by decide +kernel
theorem dX8_place_57 : decode cX8_place 57 = .ok (.getfield 40, 3) := by decide +kernel
theorem dX8_place_60 : decode cX8_place 60 = .ok (.iload_n 3, 1) := by decide +kernel
theorem dX8_place_61 : decode cX8_place 61 = .ok (.invokevirtual 165, 3) := by decide +kernel
theorem dX8_place_64 : decode cX8_place 64 = .ok (.ireturn, 1) := by decide +kernel
theorem dX8_wait_0 : decode cX8_wait 0 = .ok (.aload_n 0, 1) := by decide +kernel
theorem dX8_wait_1 : decode cX8_wait 1 = .ok (.getfield 10, 3) := by decide +kernel
theorem dX8_wait_4 : decode cX8_wait 4 = .ok (.iload_n 1, 1) := by decide +kernel
theorem dX8_wait_5 : decode cX8_wait 5 = .ok (.invokevirtual 94, 3) := by decide +kernel
theorem dX8_wait_8 : decode cX8_wait 8 = .ok (.ifCond .ne 10, 3) := by decide +kernel
theorem dX8_wait_11 : decode cX8_wait 11 = .ok (.aload_n 0, 1) := by decide +kernel
theorem dX8_wait_12 : decode cX8_wait 12 = .ok (.ldc 80, 2) := by decide +kernel
theorem dX8_wait_14 : decode cX8_wait 14 = .ok (.invokevirtual 81, 3) := by decide +kernel
theorem dX8_wait_17 : decode cX8_wait 17 = .ok (.ireturn, 1) := by decide +kernel
theorem dX8_wait_18 : decode cX8_wait 18 = .ok (.aload_n 0, 1) := by decide +kernel
theorem dX8_wait_19 : decode cX8_wait 19 = .ok (.getfield 21, 3) := by decide +kernel
theorem dX8_wait_22 : decode cX8_wait 22 = .ok (.iload_n 1, 1) := by decide +kernel
theorem dX8_wait_23 : decode cX8_wait 23 = .ok (.iconst 0, 1) := by decide +kernel
theorem dX8_wait_24 : decode cX8_wait 24 = .ok (.invokevirtual 128, 3) := by decide +kernel
theorem dX8_wait_27 : decode cX8_wait 27 = .ok (.iconst (-1), 1) := by decide +kernel
theorem dX8_wait_28 : decode cX8_wait 28 = .ok (.if_icmp .eq 14, 3) := by decide +kernel
theorem dX8_wait_31 : decode cX8_wait 31 = .ok (.aload_n 0, 1) := by decide +kernel
theorem dX8_wait_32 : decode cX8_wait 32 = .ok (.getfield 10, 3) := by decide +kernel
theorem dX8_wait_35 : decode cX8_wait 35 = .ok (.iload_n 1, 1) := by decide +kernel
theorem dX8_wait_36 : decode cX8_wait 36 = .ok (.invokevirtual 103, 3) := by decide +kernel
theorem dX8_wait_39 : decode cX8_wait 39 = .ok (.ifCond .ne 10, 3) := by decide +kernel
theorem dX8_wait_42 : decode cX8_wait 42 = .ok (.aload_n 0, 1) := by decide +kernel
theorem dX8_wait_43 : decode cX8_wait 43 = .ok (.ldc 137, 2) := by decide +kernel
theorem dX8_wait_45 : decode cX8_wait 45 = .ok (.invokevirtual 81, 3) := by decide +kernel
theorem dX8_wait_48 : decode cX8_wait 48 = .ok (.ireturn, 1) := by decide +kernel
theorem dX8_wait_49 : decode cX8_wait 49 = .ok (.aload_n 0, 1) := by decide +kernel
theorem dX8_wait_50 : decode cX8_wait 50 = .ok (.getfield 25, 3) := by decide +kernel
theorem dX8_wait_53 : decode cX8_wait 53 = .ok (.aload_n 0, 1) := by decide +kernel
theorem dX8_wait_54 : decode cX8_wait 54 = .ok (.getfield 21, 3) := by decide +kernel
theorem dX8_wait_57 : decode cX8_wait 57 = .ok (.invokevirtual 168, 3) := by decide +kernel
theorem dX8_wait_60 : decode cX8_wait 60 = .ok (.iconst 0, 1) := by decide +kernel
theorem dX8_wait_61 : decode cX8_wait 61 = .ok (.istore_n 2, 1) := by decide +kernel
theorem dX8_wait_62 : decode cX8_wait 62 = .ok (.iload_n 2, 1) := by decide +kernel
theorem dX8_wait_63 : decode cX8_wait 63 = .ok (.bipush 100, 2) := by decide +kernel
theorem dX8_wait_65 : decode cX8_wait 65 = .ok (.if_icmp .ge 74, 3) := by decide +kernel
theorem dX8_wait_68 : decode cX8_wait 68 = .ok (.aload_n 0, 1) := by decide +kernel
theorem dX8_wait_69 : decode cX8_wait 69 = .ok (.getfield 31, 3) := by decide +kernel
theorem dX8_wait_72 : decode cX8_wait 72 = .ok (.aload_n 0, 1) := by decide +kernel
theorem dX8_wait_73 : decode cX8_wait 73 = .ok (.getfield 25, 3) := by decide +kernel
theorem dX8_wait_76 : decode cX8_wait 76 = .ok (.iconst 0, 1) := by decide +kernel
theorem dX8_wait_77 : decode cX8_wait 77 = .ok (.invokevirtual 172, 3) := by decide +kernel
theorem dX8_wait_80 : decode cX8_wait 80 = .ok (.istore_n 3, 1) := by decide +kernel
theorem dX8_wait_81 : decode cX8_wait 81 = .ok (.aload_n 0, 1) := by decide +kernel
theorem dX8_wait_82 : decode cX8_wait 82 = .ok (.getfield 25, 3) := by decide +kernel
theorem dX8_wait_85 : decode cX8_wait 85 = .ok (.iload_n 3, 1) := by decide +kernel
theorem dX8_wait_86 : decode cX8_wait 86 = .ok (.invokevirtual 162, 3) := by decide +kernel
theorem dX8_wait_89 : decode cX8_wait 89 = .ok (.istore 4, 2) := by decide +kernel
theorem dX8_wait_91 : decode cX8_wait 91 = .ok (.iload 4, 2) := by decide +kernel
theorem dX8_wait_93 : decode cX8_wait 93 = .ok (.iload_n 1, 1) := by decide +kernel
theorem dX8_wait_94 : decode cX8_wait 94 = .ok (.if_icmp .ne 5, 3) := by decide +kernel
theorem dX8_wait_97 : decode cX8_wait 97 = .ok (.iload_n 2, 1) := by decide +kernel
theorem dX8_wait_98 : decode cX8_wait 98 = .ok (.ireturn, 1) := by decide +kernel
theorem dX8_wait_99 : decode cX8_wait 99 = .ok (.aload_n 0, 1) := by decide +kernel
theorem dX8_wait_100 : decode cX8_wait 100 = .ok (.getfield 25, 3) := by decide +kernel
theorem dX8_wait_103 : decode cX8_wait 103 = .ok (.iload_n 3, 1) := by decide +kernel
theorem dX8_wait_104 : decode cX8_wait 104 = .ok (.invokevirtual 176, 3) := by decide +kernel
theorem dX8_wait_107 : decode cX8_wait 107 = .ok (.aload_n 0, 1) := by decide +kernel
theorem dX8_wait_108 : decode cX8_wait 108 = .ok (.getfield 25, 3) := by decide +kernel
theorem dX8_wait_111 : decode cX8_wait 111 = .ok (.iload 4, 2) := by decide +kernel
theorem dX8_wait_113 : decode cX8_wait 113 = .ok (.aload_n 0, 1) := by decide +kernel
theorem dX8_wait_114 : decode cX8_wait 114 = .ok (.iload 4, 2) := by decide +kernel
theorem dX8_wait_116 : decode cX8_wait 116 = .ok (.iconst 0, 1) := by decide +kernel
theorem dX8_wait_117 : decode cX8_wait 117 = .ok (.invokevirtual 179, 3) := by decide +kernel
theorem dX8_wait_120 : decode cX8_wait 120 = .ok (.invokevirtual 182, 3) := by decide +kernel
theorem dX8_wait_123 : decode cX8_wait 123 = .ok (.aload_n 0, 1) := by decide +kernel
theorem dX8_wait_124 : decode cX8_wait 124 = .ok (.getfield 25, 3) := by decide +kernel
theorem dX8_wait_127 : decode cX8_wait 127 = .ok (.iload 4, 2) := by decide +kernel
theorem dX8_wait_129 : decode cX8_wait 129 = .ok (.iconst 0, 1) := by decide +kernel
theorem dX8_wait_130 : decode cX8_wait 130 = .ok (.invokevirtual 133, 3) := by decide +kernel
theorem dX8_wait_133 : decode cX8_wait 133 = .ok (.iinc 2 1, 3) := by decide +kernel
theorem dX8_wait_136 : decode cX8_wait 136 = .ok (.goto (-74), 3) := by decide +kernel
theorem dX8_wait_139 : decode cX8_wait 139 = .ok (.aload_n 0, 1) := by decide +kernel
theorem dX8_wait_140 : decode cX8_wait 140 = .ok (.ldc 185, 2) := by decide +kernel
theorem dX8_wait_142 : decode cX8_wait 142 = .ok (.invokevirtual 81, 3) := by decide +kernel
theorem dX8_wait_145 : decode cX8_wait 145 = .ok (.ireturn, 1) := by decide +kernel
theorem dX8_fits_0 : decode cX8_fits 0 = .ok (.iload_n 1, 1) := by decide +kernel
theorem dX8_fits_1 : decode cX8_fits 1 = .ok (.iconst 0, 1) := by decide +kernel
theorem dX8_fits_2 : decode cX8_fits 2 = .ok (.sipush 1000, 3) := by decide +kernel
theorem dX8_fits_5 : decode cX8_fits 5 = .ok (.invokestatic 76, 3) := by decide +kernel
theorem dX8_fits_8 : decode cX8_fits 8 = .ok (.ifCond .ne 10, 3) := by decide +kernel
theorem dX8_fits_11 : decode cX8_fits 11 = .ok (.aload_n 0, 1) := by decide +kernel
theorem dX8_fits_12 : decode cX8_fits 12 = .ok (.ldc 80, 2) := by decide +kernel
theorem dX8_fits_14 : decode cX8_fits 14 = .ok (.invokevirtual 81, 3) := by decide +kernel
theorem dX8_fits_17 : decode cX8_fits 17 = .ok (.ireturn, 1) := by decide +kernel
theorem dX8_fits_18 : decode cX8_fits 18 = .ok (.aload_n 0, 1) := by decide +kernel
theorem dX8_fits_19 : decode cX8_fits 19 = .ok (.getfield 40, 3) := by decide +kernel
theorem dX8_fits_22 : decode cX8_fits 22 = .ok (.invokevirtual 152, 3) := by decide +kernel
theorem dX8_fits_25 : decode cX8_fits 25 = .ok (.iload_n 1, 1) := by decide +kernel
theorem dX8_fits_26 : decode cX8_fits 26 = .ok (.istore_n 3, 1) := by decide +kernel
theorem dX8_fits_27 : decode cX8_fits 27 = .ok (.iconst 0, 1) := by decide +kernel
theorem dX8_fits_28 : decode cX8_fits 28 = .ok (.istore 4, 2) := by decide +kernel
theorem dX8_fits_30 : decode cX8_fits 30 = .ok (.iconst 0, 1) := by decide +kernel
theorem dX8_fits_31 : decode cX8_fits 31 = .ok (.istore 5, 2) := by decide +kernel
theorem dX8_fits_33 : decode cX8_fits 33 = .ok (.iload 5, 2) := by decide +kernel
theorem dX8_fits_35 : decode cX8_fits 35 = .ok (.aload_n 0, 1) := by decide +kernel
theorem dX8_fits_36 : decode cX8_fits 36 = .ok (.getfield 40, 3) := by decide +kernel
theorem dX8_fits_39 : decode cX8_fits 39 = .ok (.invokevirtual 155, 3) := by decide +kernel
theorem dX8_fits_42 : decode cX8_fits 42 = .ok (.if_icmp .ge 68, 3) := by decide +kernel
theorem dX8_fits_45 : decode cX8_fits 45 = .ok (.aload_n 0, 1) := by decide +kernel
theorem dX8_fits_46 : decode cX8_fits 46 = .ok (.getfield 40, 3) := by decide +kernel
theorem dX8_fits_49 : decode cX8_fits 49 = .ok (.iload 5, 2) := by decide +kernel
theorem dX8_fits_51 : decode cX8_fits 51 = .ok (.invokevirtual 156, 3) := by decide +kernel
theorem dX8_fits_54 : decode cX8_fits 54 = .ok (.istore 6, 2) := by decide +kernel
theorem dX8_fits_56 : decode cX8_fits 56 = .ok (.aload_n 0, 1) := by decide +kernel
theorem dX8_fits_57 : decode cX8_fits 57 = .ok (.aload_n 0, 1) := by decide +kernel
theorem dX8_fits_58 : decode cX8_fits 58 = .ok (.getfield 21, 3) := by decide +kernel
theorem dX8_fits_61 : decode cX8_fits 61 = .ok (.iload 6, 2) := by decide +kernel
theorem dX8_fits_63 : decode cX8_fits 63 = .ok (.invokevirtual 162, 3) := by decide +kernel
theorem dX8_fits_66 : decode cX8_fits 66 = .ok (.aload_n 0, 1) := by decide +kernel
theorem dX8_fits_67 : decode cX8_fits 67 = .ok (.getfield 21, 3) := by decide +kernel
theorem dX8_fits_70 : decode cX8_fits 70 = .ok (.iload 6, 2) := by decide +kernel
theorem dX8_fits_72 : decode cX8_fits 72 = .ok (.invokevirtual 159, 3) := by decide +kernel
theorem dX8_fits_75 : decode cX8_fits 75 = .ok (.invokevirtual 179, 3) := by decide +kernel
theorem dX8_fits_78 : decode cX8_fits 78 = .ok (.istore 7, 2) := by decide +kernel
theorem dX8_fits_80 : decode cX8_fits 80 = .ok (.iload 7, 2) := by decide +kernel
theorem dX8_fits_82 : decode cX8_fits 82 = .ok (.iload_n 3, 1) := by decide +kernel
theorem dX8_fits_83 : decode cX8_fits 83 = .ok (.if_icmp .gt 14, 3) := by decide +kernel
theorem dX8_fits_86 : decode cX8_fits 86 = .ok (.iload_n 3, 1) := by decide +kernel
theorem dX8_fits_87 : decode cX8_fits 87 = .ok (.iload 7, 2) := by decide +kernel
theorem dX8_fits_89 : decode cX8_fits 89 = .ok (.isub, 1) := by decide +kernel
theorem dX8_fits_90 : decode cX8_fits 90 = .ok (.istore_n 3, 1) := by decide +kernel
theorem dX8_fits_91 : decode cX8_fits 91 = .ok (.iinc 4 1, 3) := by decide +kernel
theorem dX8_fits_94 : decode cX8_fits 94 = .ok (.goto 10, 3) := by decide +kernel
theorem dX8_fits_97 : decode cX8_fits 97 = .ok (.iload_n 2, 1) := by decide +kernel
theorem dX8_fits_98 : decode cX8_fits 98 = .ok (.ifCond .ne 6, 3) := by decide +kernel
theorem dX8_fits_101 : decode cX8_fits 101 = .ok (.iload 4, 2) := by decide +kernel
theorem dX8_fits_103 : decode cX8_fits 103 = .ok (.ireturn, 1) := by decide +kernel
theorem dX8_fits_104 : decode cX8_fits 104 = .ok (.iinc 5 1, 3) := by decide +kernel
theorem dX8_fits_107 : decode cX8_fits 107 = .ok (.goto (-74), 3) := by decide +kernel
theorem dX8_fits_110 : decode cX8_fits 110 = .ok (.iload 4, 2) := by decide +kernel
theorem dX8_fits_112 : decode cX8_fits 112 = .ok (.ireturn, 1) := by decide +kernel
theorem dX8_begin_0 : decode cX8_begin 0 = .ok (.aload_n 0, 1) := by decide +kernel
theorem dX8_begin_1 : decode cX8_begin 1 = .ok (.getfield 47, 3) := by decide +kernel
theorem dX8_begin_4 : decode cX8_begin 4 = .ok (.invokevirtual 186, 3) := by decide +kernel
theorem dX8_begin_7 : decode cX8_begin 7 = .ok (.ifCond .eq 10, 3) := by decide +kernel
theorem dX8_begin_10 : decode cX8_begin 10 = .ok (.aload_n 0, 1) := by decide +kernel
theorem dX8_begin_11 : decode cX8_begin 11 = .ok (.ldc 190, 2) := by decide +kernel
theorem dX8_begin_13 : decode cX8_begin 13 = .ok (.invokevirtual 81, 3) := by decide +kernel
theorem dX8_begin_16 : decode cX8_begin 16 = .ok (.ireturn, 1) := by decide +kernel
theorem dX8_begin_17 : decode cX8_begin 17 = .ok (.aload_n 0, 1) := by decide +kernel
theorem dX8_begin_18 : decode cX8_begin 18 = .ok (.getfield 31, 3) := by decide +kernel
theorem dX8_begin_21 : decode cX8_begin 21 = .ok (.aload_n 0, 1) := by decide +kernel
theorem dX8_begin_22 : decode cX8_begin 22 = .ok (.getfield 21, 3) := by decide +kernel
theorem dX8_begin_25 : decode cX8_begin 25 = .ok (.iconst (-1), 1) := by decide +kernel
theorem dX8_begin_26 : decode cX8_begin 26 = .ok (.invokevirtual 172, 3) := by decide +kernel
theorem dX8_begin_29 : decode cX8_begin 29 = .ok (.istore_n 1, 1) := by decide +kernel
theorem dX8_begin_30 : decode cX8_begin 30 = .ok (.iload_n 1, 1) := by decide +kernel
theorem dX8_begin_31 : decode cX8_begin 31 = .ok (.iconst (-1), 1) := by decide +kernel
theorem dX8_begin_32 : decode cX8_begin 32 = .ok (.if_icmp .ne 10, 3) := by decide +kernel
theorem dX8_begin_35 : decode cX8_begin 35 = .ok (.aload_n 0, 1) := by decide +kernel
theorem dX8_begin_36 : decode cX8_begin 36 = .ok (.ldc 137, 2) := by decide +kernel
theorem dX8_begin_38 : decode cX8_begin 38 = .ok (.invokevirtual 81, 3) := by decide +kernel
theorem dX8_begin_41 : decode cX8_begin 41 = .ok (.ireturn, 1) := by decide +kernel
theorem dX8_begin_42 : decode cX8_begin 42 = .ok (.aload_n 0, 1) := by decide +kernel
theorem dX8_begin_43 : decode cX8_begin 43 = .ok (.iload_n 1, 1) := by decide +kernel
theorem dX8_begin_44 : decode cX8_begin 44 = .ok (.invokevirtual 191, 3) := by decide +kernel
theorem dX8_begin_47 : decode cX8_begin 47 = .ok (.ireturn, 1) := by decide +kernel
theorem dX8_cut_0 : decode cX8_cut 0 = .ok (.aload_n 0, 1) := by decide +kernel
theorem dX8_cut_1 : decode cX8_cut 1 = .ok (.getfield 31, 3) := by decide +kernel
theorem dX8_cut_4 : decode cX8_cut 4 = .ok (.aload_n 0, 1) := by decide +kernel
theorem dX8_cut_5 : decode cX8_cut 5 = .ok (.getfield 21, 3) := by decide +kernel
theorem dX8_cut_8 : decode cX8_cut 8 = .ok (.iconst 2, 1) := by decide +kernel
theorem dX8_cut_9 : decode cX8_cut 9 = .ok (.invokevirtual 172, 3) := by decide +kernel
theorem dX8_cut_12 : decode cX8_cut 12 = .ok (.istore_n 1, 1) := by decide +kernel
theorem dX8_cut_13 : decode cX8_cut 13 = .ok (.aload_n 0, 1) := by decide +kernel
theorem dX8_cut_14 : decode cX8_cut 14 = .ok (.getfield 47, 3) := by decide +kernel
theorem dX8_cut_17 : decode cX8_cut 17 = .ok (.invokevirtual 186, 3) := by decide +kernel
theorem dX8_cut_20 : decode cX8_cut 20 = .ok (.ifCond .eq 8, 3) := by decide +kernel
theorem dX8_cut_23 : decode cX8_cut 23 = .ok (.iload_n 1, 1) := by decide +kernel
theorem dX8_cut_24 : decode cX8_cut 24 = .ok (.iconst (-1), 1) := by decide +kernel
theorem dX8_cut_25 : decode cX8_cut 25 = .ok (.if_icmp .ne 10, 3) := by decide +kernel
theorem dX8_cut_28 : decode cX8_cut 28 = .ok (.aload_n 0, 1) := by decide +kernel
theorem dX8_cut_29 : decode cX8_cut 29 = .ok (.ldc 137, 2) := by decide +kernel
theorem dX8_cut_31 : decode cX8_cut 31 = .ok (.invokevirtual 81, 3) := by decide +kernel
theorem dX8_cut_34 : decode cX8_cut 34 = .ok (.ireturn, 1) := by decide +kernel
theorem dX8_cut_35 : decode cX8_cut 35 = .ok (.aload_n 0, 1) := by decide +kernel
theorem dX8_cut_36 : decode cX8_cut 36 = .ok (.getfield 47, 3) := by decide +kernel
theorem dX8_cut_39 : decode cX8_cut 39 = .ok (.invokevirtual 194, 3) := by decide +kernel
theorem dX8_cut_42 : decode cX8_cut 42 = .ok (.iconst 4, 1) := by decide +kernel
theorem dX8_cut_43 : decode cX8_cut 43 = .ok (.if_icmp .lt 10, 3) := by decide +kernel
theorem dX8_cut_46 : decode cX8_cut 46 = .ok (.aload_n 0, 1) := by decide +kernel
theorem dX8_cut_47 : decode cX8_cut 47 = .ok (.ldc 89, 2) := by decide +kernel
theorem dX8_cut_49 : decode cX8_cut 49 = .ok (.invokevirtual 81, 3) := by decide +kernel
theorem dX8_cut_52 : decode cX8_cut 52 = .ok (.ireturn, 1) := by decide +kernel
theorem dX8_cut_53 : decode cX8_cut 53 = .ok (.aload_n 0, 1) := by decide +kernel
theorem dX8_cut_54 : decode cX8_cut 54 = .ok (.iload_n 1, 1) := by decide +kernel
theorem dX8_cut_55 : decode cX8_cut 55 = .ok (.invokevirtual 191, 3) := by decide +kernel
theorem dX8_cut_58 : decode cX8_cut 58 = .ok (.ireturn, 1) := by decide +kernel
theorem dX8_tick_0 : decode cX8_tick 0 = .ok (.iload_n 1, 1) := by decide +kernel
theorem dX8_tick_1 : decode cX8_tick 1 = .ok (.iconst 1, 1) := by decide +kernel
theorem dX8_tick_2 : decode cX8_tick 2 = .ok (.bipush 100, 2) := by decide +kernel
theorem dX8_tick_4 : decode cX8_tick 4 = .ok (.invokestatic 76, 3) := by decide +kernel
theorem dX8_tick_7 : decode cX8_tick 7 = .ok (.ifCond .ne 10, 3) := by decide +kernel
theorem dX8_tick_10 : decode cX8_tick 10 = .ok (.aload_n 0, 1) := by decide +kernel
theorem dX8_tick_11 : decode cX8_tick 11 = .ok (.ldc 80, 2) := by decide +kernel
theorem dX8_tick_13 : decode cX8_tick 13 = .ok (.invokevirtual 81, 3) := by decide +kernel
theorem dX8_tick_16 : decode cX8_tick 16 = .ok (.ireturn, 1) := by decide +kernel
theorem dX8_tick_17 : decode cX8_tick 17 = .ok (.iconst 0, 1) := by decide +kernel
theorem dX8_tick_18 : decode cX8_tick 18 = .ok (.istore_n 2, 1) := by decide +kernel
theorem dX8_tick_19 : decode cX8_tick 19 = .ok (.iconst 0, 1) := by decide +kernel
theorem dX8_tick_20 : decode cX8_tick 20 = .ok (.istore_n 3, 1) := by decide +kernel
theorem dX8_tick_21 : decode cX8_tick 21 = .ok (.iload_n 3, 1) := by decide +kernel
theorem dX8_tick_22 : decode cX8_tick 22 = .ok (.iload_n 1, 1) := by decide +kernel
theorem dX8_tick_23 : decode cX8_tick 23 = .ok (.if_icmp .ge 58, 3) := by decide +kernel
theorem dX8_tick_26 : decode cX8_tick 26 = .ok (.aload_n 0, 1) := by decide +kernel
theorem dX8_tick_27 : decode cX8_tick 27 = .ok (.getfield 47, 3) := by decide +kernel
theorem dX8_tick_30 : decode cX8_tick 30 = .ok (.invokevirtual 186, 3) := by decide +kernel
theorem dX8_tick_33 : decode cX8_tick 33 = .ok (.ifCond .eq 48, 3) := by decide +kernel
theorem dX8_tick_36 : decode cX8_tick 36 = .ok (.aload_n 0, 1) := by decide +kernel
theorem dX8_tick_37 : decode cX8_tick 37 = .ok (.getfield 21, 3) := by decide +kernel
theorem dX8_tick_40 : decode cX8_tick 40 = .ok (.aload_n 0, 1) := by decide +kernel
theorem dX8_tick_41 : decode cX8_tick 41 = .ok (.getfield 47, 3) := by decide +kernel
theorem dX8_tick_44 : decode cX8_tick 44 = .ok (.invokevirtual 197, 3) := by decide +kernel
theorem dX8_tick_47 : decode cX8_tick 47 = .ok (.iconst 1, 1) := by decide +kernel
theorem dX8_tick_48 : decode cX8_tick 48 = .ok (.invokevirtual 182, 3) := by decide +kernel
theorem dX8_tick_51 : decode cX8_tick 51 = .ok (.aload_n 0, 1) := by decide +kernel
theorem dX8_tick_52 : decode cX8_tick 52 = .ok (.getfield 47, 3) := by decide +kernel
theorem dX8_tick_55 : decode cX8_tick 55 = .ok (.invokevirtual 200, 3) := by decide +kernel
theorem dX8_tick_58 : decode cX8_tick 58 = .ok (.aload_n 0, 1) := by decide +kernel
theorem dX8_tick_59 : decode cX8_tick 59 = .ok (.getfield 47, 3) := by decide +kernel
theorem dX8_tick_62 : decode cX8_tick 62 = .ok (.invokevirtual 203, 3) := by decide +kernel
theorem dX8_tick_65 : decode cX8_tick 65 = .ok (.ifCond .gt 7, 3) := by decide +kernel
theorem dX8_tick_68 : decode cX8_tick 68 = .ok (.aload_n 0, 1) := by decide +kernel
theorem dX8_tick_69 : decode cX8_tick 69 = .ok (.invokevirtual 206, 3) := by decide +kernel
theorem dX8_tick_72 : decode cX8_tick 72 = .ok (.iinc 2 1, 3) := by decide +kernel
theorem dX8_tick_75 : decode cX8_tick 75 = .ok (.iinc 3 1, 3) := by decide +kernel
theorem dX8_tick_78 : decode cX8_tick 78 = .ok (.goto (-57), 3) := by decide +kernel
theorem dX8_tick_81 : decode cX8_tick 81 = .ok (.iload_n 2, 1) := by decide +kernel
theorem dX8_tick_82 : decode cX8_tick 82 = .ok (.ireturn, 1) := by decide +kernel
theorem dX8_yield_0 : decode cX8_yield 0 = .ok (.aload_n 0, 1) := by decide +kernel
theorem dX8_yield_1 : decode cX8_yield 1 = .ok (.getfield 47, 3) := by decide +kernel
theorem dX8_yield_4 : decode cX8_yield 4 = .ok (.invokevirtual 186, 3) := by decide +kernel
theorem dX8_yield_7 : decode cX8_yield 7 = .ok (.ifCond .ne 10, 3) := by decide +kernel
theorem dX8_yield_10 : decode cX8_yield 10 = .ok (.aload_n 0, 1) := by decide +kernel
theorem dX8_yield_11 : decode cX8_yield 11 = .ok (.ldc 137, 2) := by decide +kernel
theorem dX8_yield_13 : decode cX8_yield 13 = .ok (.invokevirtual 81, 3) := by decide +kernel
theorem dX8_yield_16 : decode cX8_yield 16 = .ok (.ireturn, 1) := by decide +kernel
theorem dX8_yield_17 : decode cX8_yield 17 = .ok (.aload_n 0, 1) := by decide +kernel
theorem dX8_yield_18 : decode cX8_yield 18 = .ok (.invokevirtual 206, 3) := by decide +kernel
theorem dX8_yield_21 : decode cX8_yield 21 = .ok (.aload_n 0, 1) := by decide +kernel
theorem dX8_yield_22 : decode cX8_yield 22 = .ok (.getfield 47, 3) := by decide +kernel
theorem dX8_yield_25 : decode cX8_yield 25 = .ok (.invokevirtual 197, 3) := by decide +kernel
theorem dX8_yield_28 : decode cX8_yield 28 = .ok (.ireturn, 1) := by decide +kernel
theorem dX8_floor_0 : decode cX8_floor 0 = .ok (.iload_n 1, 1) := by decide +kernel
theorem dX8_floor_1 : decode cX8_floor 1 = .ok (.iconst 0, 1) := by decide +kernel
theorem dX8_floor_2 : decode cX8_floor 2 = .ok (.iconst 3, 1) := by decide +kernel
theorem dX8_floor_3 : decode cX8_floor 3 = .ok (.invokestatic 76, 3) := by decide +kernel
theorem dX8_floor_6 : decode cX8_floor 6 = .ok (.ifCond .ne 10, 3) := by decide +kernel
theorem dX8_floor_9 : decode cX8_floor 9 = .ok (.aload_n 0, 1) := by decide +kernel
theorem dX8_floor_10 : decode cX8_floor 10 = .ok (.ldc 80, 2) := by decide +kernel
theorem dX8_floor_12 : decode cX8_floor 12 = .ok (.invokevirtual 81, 3) := by decide +kernel
theorem dX8_floor_15 : decode cX8_floor 15 = .ok (.ireturn, 1) := by decide +kernel
theorem dX8_floor_16 : decode cX8_floor 16 = .ok (.iload_n 1, 1) := by decide +kernel
theorem dX8_floor_17 : decode cX8_floor 17 = .ok (.iconst 3, 1) := by decide +kernel
theorem dX8_floor_18 : decode cX8_floor 18 = .ok (.if_icmp .ne 11, 3) := by decide +kernel
theorem dX8_floor_21 : decode cX8_floor 21 = .ok (.aload_n 0, 1) := by decide +kernel
theorem dX8_floor_22 : decode cX8_floor 22 = .ok (.getfield 47, 3) := by decide +kernel
theorem dX8_floor_25 : decode cX8_floor 25 = .ok (.invokevirtual 194, 3) := by decide +kernel
theorem dX8_floor_28 : decode cX8_floor 28 = .ok (.ireturn, 1) := by decide +kernel
theorem dX8_floor_29 : decode cX8_floor 29 = .ok (.aload_n 0, 1) := by decide +kernel
theorem dX8_floor_30 : decode cX8_floor 30 = .ok (.getfield 47, 3) := by decide +kernel
theorem dX8_floor_33 : decode cX8_floor 33 = .ok (.invokevirtual 186, 3) := by decide +kernel
theorem dX8_floor_36 : decode cX8_floor 36 = .ok (.ifCond .ne 10, 3) := by decide +kernel
theorem dX8_floor_39 : decode cX8_floor 39 = .ok (.aload_n 0, 1) := by decide +kernel
theorem dX8_floor_40 : decode cX8_floor 40 = .ok (.ldc 137, 2) := by decide +kernel
theorem dX8_floor_42 : decode cX8_floor 42 = .ok (.invokevirtual 81, 3) := by decide +kernel
theorem dX8_floor_45 : decode cX8_floor 45 = .ok (.ireturn, 1) := by decide +kernel
theorem dX8_floor_46 : decode cX8_floor 46 = .ok (.iload_n 1, 1) := by decide +kernel
theorem dX8_floor_47 : decode cX8_floor 47 = .ok (.lookupswitch 41 #[(0, 25), (1, 33)], 25) := by decide +kernel
theorem dX8_floor_72 : decode cX8_floor 72 = .ok (.aload_n 0, 1) := by decide +kernel
theorem dX8_floor_73 : decode cX8_floor 73 = .ok (.getfield 47, 3) := by decide +kernel
theorem dX8_floor_76 : decode cX8_floor 76 = .ok (.invokevirtual 197, 3) := by decide +kernel
theorem dX8_floor_79 : decode cX8_floor 79 = .ok (.ireturn, 1) := by decide +kernel
theorem dX8_floor_80 : decode cX8_floor 80 = .ok (.aload_n 0, 1) := by decide +kernel
theorem dX8_floor_81 : decode cX8_floor 81 = .ok (.getfield 47, 3) := by decide +kernel
theorem dX8_floor_84 : decode cX8_floor 84 = .ok (.invokevirtual 209, 3) := by decide +kernel
theorem dX8_floor_87 : decode cX8_floor 87 = .ok (.ireturn, 1) := by decide +kernel
theorem dX8_floor_88 : decode cX8_floor 88 = .ok (.aload_n 0, 1) := by decide +kernel
theorem dX8_floor_89 : decode cX8_floor 89 = .ok (.getfield 47, 3) := by decide +kernel
theorem dX8_floor_92 : decode cX8_floor 92 = .ok (.invokevirtual 203, 3) := by decide +kernel
theorem dX8_floor_95 : decode cX8_floor 95 = .ok (.ireturn, 1) := by decide +kernel
theorem dX8_limit_0 : decode cX8_limit 0 = .ok (.iload_n 1, 1) := by decide +kernel
theorem dX8_limit_1 : decode cX8_limit 1 = .ok (.iconst 0, 1) := by decide +kernel
theorem dX8_limit_2 : decode cX8_limit 2 = .ok (.iconst 2, 1) := by decide +kernel
theorem dX8_limit_3 : decode cX8_limit 3 = .ok (.invokestatic 76, 3) := by decide +kernel
theorem dX8_limit_6 : decode cX8_limit 6 = .ok (.ifCond .eq 13, 3) := by decide +kernel
theorem dX8_limit_9 : decode cX8_limit 9 = .ok (.iload_n 2, 1) := by decide +kernel
theorem dX8_limit_10 : decode cX8_limit 10 = .ok (.iconst 1, 1) := by decide +kernel
theorem dX8_limit_11 : decode cX8_limit 11 = .ok (.bipush 50, 2) := by decide +kernel
theorem dX8_limit_13 : decode cX8_limit 13 = .ok (.invokestatic 76, 3) := by decide +kernel
theorem dX8_limit_16 : decode cX8_limit 16 = .ok (.ifCond .ne 10, 3) := by decide +kernel
theorem dX8_limit_19 : decode cX8_limit 19 = .ok (.aload_n 0, 1) := by decide +kernel
theorem dX8_limit_20 : decode cX8_limit 20 = .ok (.ldc 80, 2) := by decide +kernel
theorem dX8_limit_22 : decode cX8_limit 22 = .ok (.invokevirtual 81, 3) := by decide +kernel
theorem dX8_limit_25 : decode cX8_limit 25 = .ok (.ireturn, 1) := by decide +kernel
theorem dX8_limit_26 : decode cX8_limit 26 = .ok (.aload_n 0, 1) := by decide +kernel
theorem dX8_limit_27 : decode cX8_limit 27 = .ok (.getfield 47, 3) := by decide +kernel
theorem dX8_limit_30 : decode cX8_limit 30 = .ok (.iload_n 1, 1) := by decide +kernel
theorem dX8_limit_31 : decode cX8_limit 31 = .ok (.invokevirtual 212, 3) := by decide +kernel
theorem dX8_limit_34 : decode cX8_limit 34 = .ok (.istore_n 3, 1) := by decide +kernel
theorem dX8_limit_35 : decode cX8_limit 35 = .ok (.aload_n 0, 1) := by decide +kernel
theorem dX8_limit_36 : decode cX8_limit 36 = .ok (.getfield 47, 3) := by decide +kernel
theorem dX8_limit_39 : decode cX8_limit 39 = .ok (.iload_n 1, 1) := by decide +kernel
theorem dX8_limit_40 : decode cX8_limit 40 = .ok (.iload_n 2, 1) := by decide +kernel
theorem dX8_limit_41 : decode cX8_limit 41 = .ok (.invokevirtual 215, 3) := by decide +kernel
theorem dX8_limit_44 : decode cX8_limit 44 = .ok (.iload_n 3, 1) := by decide +kernel
theorem dX8_limit_45 : decode cX8_limit 45 = .ok (.ireturn, 1) := by decide +kernel
theorem dX8_vote_0 : decode cX8_vote 0 = .ok (.aload_n 0, 1) := by decide +kernel
theorem dX8_vote_1 : decode cX8_vote 1 = .ok (.getfield 54, 3) := by decide +kernel
theorem dX8_vote_4 : decode cX8_vote 4 = .ok (.invokevirtual 218, 3) := by decide +kernel
theorem dX8_vote_7 : decode cX8_vote 7 = .ok (.ifCond .eq 10, 3) := by decide +kernel
theorem dX8_vote_10 : decode cX8_vote 10 = .ok (.aload_n 0, 1) := by decide +kernel
theorem dX8_vote_11 : decode cX8_vote 11 = .ok (.ldc 190, 2) := by decide +kernel
theorem dX8_vote_13 : decode cX8_vote 13 = .ok (.invokevirtual 81, 3) := by decide +kernel
theorem dX8_vote_16 : decode cX8_vote 16 = .ok (.ireturn, 1) := by decide +kernel
theorem dX8_vote_17 : decode cX8_vote 17 = .ok (.aload_n 0, 1) := by decide +kernel
theorem dX8_vote_18 : decode cX8_vote 18 = .ok (.getfield 54, 3) := by decide +kernel
theorem dX8_vote_21 : decode cX8_vote 21 = .ok (.invokevirtual 221, 3) := by decide +kernel
theorem dX8_vote_24 : decode cX8_vote 24 = .ok (.iconst 1, 1) := by decide +kernel
theorem dX8_vote_25 : decode cX8_vote 25 = .ok (.ireturn, 1) := by decide +kernel
theorem dX8_say_0 : decode cX8_say 0 = .ok (.aload_n 0, 1) := by decide +kernel
theorem dX8_say_1 : decode cX8_say 1 = .ok (.getfield 10, 3) := by decide +kernel
theorem dX8_say_4 : decode cX8_say 4 = .ok (.iload_n 1, 1) := by decide +kernel
theorem dX8_say_5 : decode cX8_say 5 = .ok (.invokevirtual 94, 3) := by decide +kernel
theorem dX8_say_8 : decode cX8_say 8 = .ok (.ifCond .eq 12, 3) := by decide +kernel
theorem dX8_say_11 : decode cX8_say 11 = .ok (.iload_n 2, 1) := by decide +kernel
theorem dX8_say_12 : decode cX8_say 12 = .ok (.iconst 0, 1) := by decide +kernel
theorem dX8_say_13 : decode cX8_say 13 = .ok (.iconst 2, 1) := by decide +kernel
theorem dX8_say_14 : decode cX8_say 14 = .ok (.invokestatic 76, 3) := by decide +kernel
theorem dX8_say_17 : decode cX8_say 17 = .ok (.ifCond .ne 10, 3) := by decide +kernel
theorem dX8_say_20 : decode cX8_say 20 = .ok (.aload_n 0, 1) := by decide +kernel
theorem dX8_say_21 : decode cX8_say 21 = .ok (.ldc 80, 2) := by decide +kernel
theorem dX8_say_23 : decode cX8_say 23 = .ok (.invokevirtual 81, 3) := by decide +kernel
theorem dX8_say_26 : decode cX8_say 26 = .ok (.ireturn, 1) := by decide +kernel
theorem dX8_say_27 : decode cX8_say 27 = .ok (.aload_n 0, 1) := by decide +kernel
theorem dX8_say_28 : decode cX8_say 28 = .ok (.getfield 54, 3) := by decide +kernel
theorem dX8_say_31 : decode cX8_say 31 = .ok (.invokevirtual 218, 3) := by decide +kernel
theorem dX8_say_34 : decode cX8_say 34 = .ok (.ifCond .ne 10, 3) := by decide +kernel
theorem dX8_say_37 : decode cX8_say 37 = .ok (.aload_n 0, 1) := by decide +kernel
theorem dX8_say_38 : decode cX8_say 38 = .ok (.ldc 137, 2) := by decide +kernel
theorem dX8_say_40 : decode cX8_say 40 = .ok (.invokevirtual 81, 3) := by decide +kernel
theorem dX8_say_43 : decode cX8_say 43 = .ok (.ireturn, 1) := by decide +kernel
theorem dX8_say_44 : decode cX8_say 44 = .ok (.aload_n 0, 1) := by decide +kernel
theorem dX8_say_45 : decode cX8_say 45 = .ok (.getfield 10, 3) := by decide +kernel
theorem dX8_say_48 : decode cX8_say 48 = .ok (.iload_n 1, 1) := by decide +kernel
theorem dX8_say_49 : decode cX8_say 49 = .ok (.invokevirtual 224, 3) := by decide +kernel
theorem dX8_say_52 : decode cX8_say 52 = .ok (.ifCond .ne 10, 3) := by decide +kernel
theorem dX8_say_55 : decode cX8_say 55 = .ok (.aload_n 0, 1) := by decide +kernel
theorem dX8_say_56 : decode cX8_say 56 = .ok (.ldc 102, 2) := by decide +kernel
theorem dX8_say_58 : decode cX8_say 58 = .ok (.invokevirtual 81, 3) := by decide +kernel
theorem dX8_say_61 : decode cX8_say 61 = .ok (.ireturn, 1) := by decide +kernel
theorem dX8_say_62 : decode cX8_say 62 = .ok (.aload_n 0, 1) := by decide +kernel
theorem dX8_say_63 : decode cX8_say 63 = .ok (.getfield 54, 3) := by decide +kernel
theorem dX8_say_66 : decode cX8_say 66 = .ok (.iload_n 1, 1) := by decide +kernel
theorem dX8_say_67 : decode cX8_say 67 = .ok (.invokevirtual 227, 3) := by decide +kernel
theorem dX8_say_70 : decode cX8_say 70 = .ok (.istore_n 3, 1) := by decide +kernel
theorem dX8_say_71 : decode cX8_say 71 = .ok (.aload_n 0, 1) := by decide +kernel
theorem dX8_say_72 : decode cX8_say 72 = .ok (.getfield 54, 3) := by decide +kernel
theorem dX8_say_75 : decode cX8_say 75 = .ok (.iload_n 1, 1) := by decide +kernel
theorem dX8_say_76 : decode cX8_say 76 = .ok (.iload_n 2, 1) := by decide +kernel
theorem dX8_say_77 : decode cX8_say 77 = .ok (.invokevirtual 230, 3) := by decide +kernel
theorem dX8_say_80 : decode cX8_say 80 = .ok (.iload_n 3, 1) := by decide +kernel
theorem dX8_say_81 : decode cX8_say 81 = .ok (.ireturn, 1) := by decide +kernel
theorem dX8_votes_0 : decode cX8_votes 0 = .ok (.iload_n 1, 1) := by decide +kernel
theorem dX8_votes_1 : decode cX8_votes 1 = .ok (.iconst 0, 1) := by decide +kernel
theorem dX8_votes_2 : decode cX8_votes 2 = .ok (.iconst 2, 1) := by decide +kernel
theorem dX8_votes_3 : decode cX8_votes 3 = .ok (.invokestatic 76, 3) := by decide +kernel
theorem dX8_votes_6 : decode cX8_votes 6 = .ok (.ifCond .ne 10, 3) := by decide +kernel
theorem dX8_votes_9 : decode cX8_votes 9 = .ok (.aload_n 0, 1) := by decide +kernel
theorem dX8_votes_10 : decode cX8_votes 10 = .ok (.ldc 80, 2) := by decide +kernel
theorem dX8_votes_12 : decode cX8_votes 12 = .ok (.invokevirtual 81, 3) := by decide +kernel
theorem dX8_votes_15 : decode cX8_votes 15 = .ok (.ireturn, 1) := by decide +kernel
theorem dX8_votes_16 : decode cX8_votes 16 = .ok (.aload_n 0, 1) := by decide +kernel
theorem dX8_votes_17 : decode cX8_votes 17 = .ok (.getfield 54, 3) := by decide +kernel
theorem dX8_votes_20 : decode cX8_votes 20 = .ok (.invokevirtual 218, 3) := by decide +kernel
theorem dX8_votes_23 : decode cX8_votes 23 = .ok (.ifCond .ne 10, 3) := by decide +kernel
theorem dX8_votes_26 : decode cX8_votes 26 = .ok (.aload_n 0, 1) := by decide +kernel
theorem dX8_votes_27 : decode cX8_votes 27 = .ok (.ldc 137, 2) := by decide +kernel
theorem dX8_votes_29 : decode cX8_votes 29 = .ok (.invokevirtual 81, 3) := by decide +kernel
theorem dX8_votes_32 : decode cX8_votes 32 = .ok (.ireturn, 1) := by decide +kernel
theorem dX8_votes_33 : decode cX8_votes 33 = .ok (.aload_n 0, 1) := by decide +kernel
theorem dX8_votes_34 : decode cX8_votes 34 = .ok (.getfield 54, 3) := by decide +kernel
theorem dX8_votes_37 : decode cX8_votes 37 = .ok (.iload_n 1, 1) := by decide +kernel
theorem dX8_votes_38 : decode cX8_votes 38 = .ok (.invokevirtual 233, 3) := by decide +kernel
theorem dX8_votes_41 : decode cX8_votes 41 = .ok (.ireturn, 1) := by decide +kernel
theorem dX8_close_0 : decode cX8_close 0 = .ok (.iload_n 1, 1) := by decide +kernel
theorem dX8_close_1 : decode cX8_close 1 = .ok (.invokestatic 236, 3) := by decide +kernel
theorem dX8_close_4 : decode cX8_close 4 = .ok (.ifCond .ne 10, 3) := by decide +kernel
theorem dX8_close_7 : decode cX8_close 7 = .ok (.aload_n 0, 1) := by decide +kernel
theorem dX8_close_8 : decode cX8_close 8 = .ok (.ldc 80, 2) := by decide +kernel
theorem dX8_close_10 : decode cX8_close 10 = .ok (.invokevirtual 81, 3) := by decide +kernel
theorem dX8_close_13 : decode cX8_close 13 = .ok (.ireturn, 1) := by decide +kernel
theorem dX8_close_14 : decode cX8_close 14 = .ok (.aload_n 0, 1) := by decide +kernel
theorem dX8_close_15 : decode cX8_close 15 = .ok (.getfield 54, 3) := by decide +kernel
theorem dX8_close_18 : decode cX8_close 18 = .ok (.invokevirtual 218, 3) := by decide +kernel
theorem dX8_close_21 : decode cX8_close 21 = .ok (.ifCond .ne 10, 3) := by decide +kernel
theorem dX8_close_24 : decode cX8_close 24 = .ok (.aload_n 0, 1) := by decide +kernel
theorem dX8_close_25 : decode cX8_close 25 = .ok (.ldc 137, 2) := by decide +kernel
theorem dX8_close_27 : decode cX8_close 27 = .ok (.invokevirtual 81, 3) := by decide +kernel
theorem dX8_close_30 : decode cX8_close 30 = .ok (.ireturn, 1) := by decide +kernel
theorem dX8_close_31 : decode cX8_close 31 = .ok (.iload_n 1, 1) := by decide +kernel
theorem dX8_close_32 : decode cX8_close 32 = .ok (.aload_n 0, 1) := by decide +kernel
theorem dX8_close_33 : decode cX8_close 33 = .ok (.getfield 54, 3) := by decide +kernel
theorem dX8_close_36 : decode cX8_close 36 = .ok (.iconst 1, 1) := by decide +kernel
theorem dX8_close_37 : decode cX8_close 37 = .ok (.invokevirtual 233, 3) := by decide +kernel
theorem dX8_close_40 : decode cX8_close 40 = .ok (.aload_n 0, 1) := by decide +kernel
theorem dX8_close_41 : decode cX8_close 41 = .ok (.getfield 54, 3) := by decide +kernel
theorem dX8_close_44 : decode cX8_close 44 = .ok (.iconst 2, 1) := by decide +kernel
theorem dX8_close_45 : decode cX8_close 45 = .ok (.invokevirtual 233, 3) := by decide +kernel
theorem dX8_close_48 : decode cX8_close 48 = .ok (.invokestatic 239, 3) := by decide +kernel
theorem dX8_close_51 : decode cX8_close 51 = .ok (.istore_n 2, 1) := by decide +kernel
theorem dX8_close_52 : decode cX8_close 52 = .ok (.aload_n 0, 1) := by decide +kernel
theorem dX8_close_53 : decode cX8_close 53 = .ok (.getfield 54, 3) := by decide +kernel
theorem dX8_close_56 : decode cX8_close 56 = .ok (.invokevirtual 242, 3) := by decide +kernel
theorem dX8_close_59 : decode cX8_close 59 = .ok (.iload_n 2, 1) := by decide +kernel
theorem dX8_close_60 : decode cX8_close 60 = .ok (.ifCond .eq 7, 3) := by decide +kernel
theorem dX8_close_63 : decode cX8_close 63 = .ok (.iconst 1, 1) := by decide +kernel
theorem dX8_close_64 : decode cX8_close 64 = .ok (.goto 4, 3) := by decide +kernel
theorem dX8_close_67 : decode cX8_close 67 = .ok (.iconst 0, 1) := by decide +kernel
theorem dX8_close_68 : decode cX8_close 68 = .ok (.ireturn, 1) := by decide +kernel
theorem dX8_hands_0 : decode cX8_hands 0 = .ok (.iload_n 1, 1) := by decide +kernel
theorem dX8_hands_1 : decode cX8_hands 1 = .ok (.invokestatic 236, 3) := by decide +kernel
theorem dX8_hands_4 : decode cX8_hands 4 = .ok (.ifCond .eq 36, 3) := by decide +kernel
theorem dX8_hands_7 : decode cX8_hands 7 = .ok (.iload_n 2, 1) := by decide +kernel
theorem dX8_hands_8 : decode cX8_hands 8 = .ok (.iconst 0, 1) := by decide +kernel
theorem dX8_hands_9 : decode cX8_hands 9 = .ok (.sipush 1000, 3) := by decide +kernel
theorem dX8_hands_12 : decode cX8_hands 12 = .ok (.invokestatic 76, 3) := by decide +kernel
theorem dX8_hands_15 : decode cX8_hands 15 = .ok (.ifCond .eq 25, 3) := by decide +kernel
theorem dX8_hands_18 : decode cX8_hands 18 = .ok (.iload_n 3, 1) := by decide +kernel
theorem dX8_hands_19 : decode cX8_hands 19 = .ok (.iconst 0, 1) := by decide +kernel
theorem dX8_hands_20 : decode cX8_hands 20 = .ok (.sipush 1000, 3) := by decide +kernel
theorem dX8_hands_23 : decode cX8_hands 23 = .ok (.invokestatic 76, 3) := by decide +kernel
theorem dX8_hands_26 : decode cX8_hands 26 = .ok (.ifCond .eq 14, 3) := by decide +kernel
theorem dX8_hands_29 : decode cX8_hands 29 = .ok (.iload 4, 2) := by decide +kernel
theorem dX8_hands_31 : decode cX8_hands 31 = .ok (.iconst 0, 1) := by decide +kernel
theorem dX8_hands_32 : decode cX8_hands 32 = .ok (.bipush 100, 2) := by decide +kernel
theorem dX8_hands_34 : decode cX8_hands 34 = .ok (.invokestatic 76, 3) := by decide +kernel
theorem dX8_hands_37 : decode cX8_hands 37 = .ok (.ifCond .ne 10, 3) := by decide +kernel
theorem dX8_hands_40 : decode cX8_hands 40 = .ok (.aload_n 0, 1) := by decide +kernel
theorem dX8_hands_41 : decode cX8_hands 41 = .ok (.ldc 80, 2) := by decide +kernel
theorem dX8_hands_43 : decode cX8_hands 43 = .ok (.invokevirtual 81, 3) := by decide +kernel
theorem dX8_hands_46 : decode cX8_hands 46 = .ok (.ireturn, 1) := by decide +kernel
theorem dX8_hands_47 : decode cX8_hands 47 = .ok (.iload_n 1, 1) := by decide +kernel
theorem dX8_hands_48 : decode cX8_hands 48 = .ok (.iconst 0, 1) := by decide +kernel
theorem dX8_hands_49 : decode cX8_hands 49 = .ok (.iload_n 2, 1) := by decide +kernel
theorem dX8_hands_50 : decode cX8_hands 50 = .ok (.iload 4, 2) := by decide +kernel
theorem dX8_hands_52 : decode cX8_hands 52 = .ok (.isub, 1) := by decide +kernel
theorem dX8_hands_53 : decode cX8_hands 53 = .ok (.invokestatic 245, 3) := by decide +kernel
theorem dX8_hands_56 : decode cX8_hands 56 = .ok (.iload_n 3, 1) := by decide +kernel
theorem dX8_hands_57 : decode cX8_hands 57 = .ok (.iload 4, 2) := by decide +kernel
theorem dX8_hands_59 : decode cX8_hands 59 = .ok (.iadd, 1) := by decide +kernel
theorem dX8_hands_60 : decode cX8_hands 60 = .ok (.invokestatic 239, 3) := by decide +kernel
theorem dX8_hands_63 : decode cX8_hands 63 = .ok (.ifCond .eq 5, 3) := by decide +kernel
theorem dX8_hands_66 : decode cX8_hands 66 = .ok (.iconst 1, 1) := by decide +kernel
theorem dX8_hands_67 : decode cX8_hands 67 = .ok (.ireturn, 1) := by decide +kernel
theorem dX8_hands_68 : decode cX8_hands 68 = .ok (.iload_n 1, 1) := by decide +kernel
theorem dX8_hands_69 : decode cX8_hands 69 = .ok (.iload_n 2, 1) := by decide +kernel
theorem dX8_hands_70 : decode cX8_hands 70 = .ok (.iload 4, 2) := by decide +kernel
theorem dX8_hands_72 : decode cX8_hands 72 = .ok (.iadd, 1) := by decide +kernel
theorem dX8_hands_73 : decode cX8_hands 73 = .ok (.iconst 0, 1) := by decide +kernel
theorem dX8_hands_74 : decode cX8_hands 74 = .ok (.iload_n 3, 1) := by decide +kernel
theorem dX8_hands_75 : decode cX8_hands 75 = .ok (.iload 4, 2) := by decide +kernel
theorem dX8_hands_77 : decode cX8_hands 77 = .ok (.isub, 1) := by decide +kernel
theorem dX8_hands_78 : decode cX8_hands 78 = .ok (.invokestatic 245, 3) := by decide +kernel
theorem dX8_hands_81 : decode cX8_hands 81 = .ok (.invokestatic 239, 3) := by decide +kernel
theorem dX8_hands_84 : decode cX8_hands 84 = .ok (.ifCond .eq 7, 3) := by decide +kernel
theorem dX8_hands_87 : decode cX8_hands 87 = .ok (.iconst 2, 1) := by decide +kernel
theorem dX8_hands_88 : decode cX8_hands 88 = .ok (.goto 4, 3) := by decide +kernel
theorem dX8_hands_91 : decode cX8_hands 91 = .ok (.iconst 0, 1) := by decide +kernel
theorem dX8_hands_92 : decode cX8_hands 92 = .ok (.ireturn, 1) := by decide +kernel
theorem dX8_apart_0 : decode cX8_apart 0 = .ok (.iconst 0, 1) := by decide +kernel
theorem dX8_apart_1 : decode cX8_apart 1 = .ok (.istore_n 1, 1) := by decide +kernel
theorem dX8_apart_2 : decode cX8_apart 2 = .ok (.iconst 0, 1) := by decide +kernel
theorem dX8_apart_3 : decode cX8_apart 3 = .ok (.istore_n 2, 1) := by decide +kernel
theorem dX8_apart_4 : decode cX8_apart 4 = .ok (.iconst 0, 1) := by decide +kernel
theorem dX8_apart_5 : decode cX8_apart 5 = .ok (.istore_n 3, 1) := by decide +kernel
theorem dX8_apart_6 : decode cX8_apart 6 = .ok (.iconst 0, 1) := by decide +kernel
theorem dX8_apart_7 : decode cX8_apart 7 = .ok (.istore 4, 2) := by decide +kernel
theorem dX8_apart_9 : decode cX8_apart 9 = .ok (.iload 4, 2) := by decide +kernel
theorem dX8_apart_11 : decode cX8_apart 11 = .ok (.iconst 5, 1) := by decide +kernel
theorem dX8_apart_12 : decode cX8_apart 12 = .ok (.if_icmp .ge 66, 3) := by decide +kernel
theorem dX8_apart_15 : decode cX8_apart 15 = .ok (.aload_n 0, 1) := by decide +kernel
theorem dX8_apart_16 : decode cX8_apart 16 = .ok (.getfield 10, 3) := by decide +kernel
theorem dX8_apart_19 : decode cX8_apart 19 = .ok (.iload 4, 2) := by decide +kernel
theorem dX8_apart_21 : decode cX8_apart 21 = .ok (.invokevirtual 250, 3) := by decide +kernel
theorem dX8_apart_24 : decode cX8_apart 24 = .ok (.ifCond .eq 48, 3) := by decide +kernel
theorem dX8_apart_27 : decode cX8_apart 27 = .ok (.aload_n 0, 1) := by decide +kernel
theorem dX8_apart_28 : decode cX8_apart 28 = .ok (.getfield 21, 3) := by decide +kernel
theorem dX8_apart_31 : decode cX8_apart 31 = .ok (.iload 4, 2) := by decide +kernel
theorem dX8_apart_33 : decode cX8_apart 33 = .ok (.invokevirtual 122, 3) := by decide +kernel
theorem dX8_apart_36 : decode cX8_apart 36 = .ok (.istore 5, 2) := by decide +kernel
theorem dX8_apart_38 : decode cX8_apart 38 = .ok (.iload_n 3, 1) := by decide +kernel
theorem dX8_apart_39 : decode cX8_apart 39 = .ok (.ifCond .eq 12, 3) := by decide +kernel
theorem dX8_apart_42 : decode cX8_apart 42 = .ok (.iload_n 1, 1) := by decide +kernel
theorem dX8_apart_43 : decode cX8_apart 43 = .ok (.iload 5, 2) := by decide +kernel
theorem dX8_apart_45 : decode cX8_apart 45 = .ok (.invokestatic 245, 3) := by decide +kernel
theorem dX8_apart_48 : decode cX8_apart 48 = .ok (.goto 5, 3) := by decide +kernel
theorem dX8_apart_51 : decode cX8_apart 51 = .ok (.iload 5, 2) := by decide +kernel
theorem dX8_apart_53 : decode cX8_apart 53 = .ok (.istore_n 1, 1) := by decide +kernel
theorem dX8_apart_54 : decode cX8_apart 54 = .ok (.iload_n 3, 1) := by decide +kernel
theorem dX8_apart_55 : decode cX8_apart 55 = .ok (.ifCond .eq 12, 3) := by decide +kernel
theorem dX8_apart_58 : decode cX8_apart 58 = .ok (.iload_n 2, 1) := by decide +kernel
theorem dX8_apart_59 : decode cX8_apart 59 = .ok (.iload 5, 2) := by decide +kernel
theorem dX8_apart_61 : decode cX8_apart 61 = .ok (.invokestatic 253, 3) := by decide +kernel
theorem dX8_apart_64 : decode cX8_apart 64 = .ok (.goto 5, 3) := by decide +kernel
theorem dX8_apart_67 : decode cX8_apart 67 = .ok (.iload 5, 2) := by decide +kernel
theorem dX8_apart_69 : decode cX8_apart 69 = .ok (.istore_n 2, 1) := by decide +kernel
theorem dX8_apart_70 : decode cX8_apart 70 = .ok (.iconst 1, 1) := by decide +kernel
theorem dX8_apart_71 : decode cX8_apart 71 = .ok (.istore_n 3, 1) := by decide +kernel
theorem dX8_apart_72 : decode cX8_apart 72 = .ok (.iinc 4 1, 3) := by decide +kernel
theorem dX8_apart_75 : decode cX8_apart 75 = .ok (.goto (-66), 3) := by decide +kernel
theorem dX8_apart_78 : decode cX8_apart 78 = .ok (.iload_n 1, 1) := by decide +kernel
theorem dX8_apart_79 : decode cX8_apart 79 = .ok (.iload_n 2, 1) := by decide +kernel
theorem dX8_apart_80 : decode cX8_apart 80 = .ok (.isub, 1) := by decide +kernel
theorem dX8_apart_81 : decode cX8_apart 81 = .ok (.ireturn, 1) := by decide +kernel
theorem dX8_uneven_0 : decode cX8_uneven 0 = .ok (.aload_n 0, 1) := by decide +kernel
theorem dX8_uneven_1 : decode cX8_uneven 1 = .ok (.invokevirtual 256, 3) := by decide +kernel
theorem dX8_uneven_4 : decode cX8_uneven 4 = .ok (.istore_n 2, 1) := by decide +kernel
theorem dX8_uneven_5 : decode cX8_uneven 5 = .ok (.aload_n 0, 1) := by decide +kernel
theorem dX8_uneven_6 : decode cX8_uneven 6 = .ok (.invokevirtual 259, 3) := by decide +kernel
theorem dX8_uneven_9 : decode cX8_uneven 9 = .ok (.aload_n 0, 1) := by decide +kernel
theorem dX8_uneven_10 : decode cX8_uneven 10 = .ok (.invokevirtual 262, 3) := by decide +kernel
theorem dX8_uneven_13 : decode cX8_uneven 13 = .ok (.imul, 1) := by decide +kernel
theorem dX8_uneven_14 : decode cX8_uneven 14 = .ok (.istore_n 3, 1) := by decide +kernel
theorem dX8_uneven_15 : decode cX8_uneven 15 = .ok (.iload_n 3, 1) := by decide +kernel
theorem dX8_uneven_16 : decode cX8_uneven 16 = .ok (.ifCond .ne 13, 3) := by decide +kernel
theorem dX8_uneven_19 : decode cX8_uneven 19 = .ok (.iload_n 1, 1) := by decide +kernel
theorem dX8_uneven_20 : decode cX8_uneven 20 = .ok (.ifCond .eq 7, 3) := by decide +kernel
theorem dX8_uneven_23 : decode cX8_uneven 23 = .ok (.iconst 1, 1) := by decide +kernel
theorem dX8_uneven_24 : decode cX8_uneven 24 = .ok (.goto 4, 3) := by decide +kernel
theorem dX8_uneven_27 : decode cX8_uneven 27 = .ok (.iconst 0, 1) := by decide +kernel
theorem dX8_uneven_28 : decode cX8_uneven 28 = .ok (.ireturn, 1) := by decide +kernel
theorem dX8_uneven_29 : decode cX8_uneven 29 = .ok (.iload_n 2, 1) := by decide +kernel
theorem dX8_uneven_30 : decode cX8_uneven 30 = .ok (.iload_n 3, 1) := by decide +kernel
theorem dX8_uneven_31 : decode cX8_uneven 31 = .ok (.invokestatic 265, 3) := by decide +kernel
theorem dX8_uneven_34 : decode cX8_uneven 34 = .ok (.istore 4, 2) := by decide +kernel
theorem dX8_uneven_36 : decode cX8_uneven 36 = .ok (.iload 4, 2) := by decide +kernel
theorem dX8_uneven_38 : decode cX8_uneven 38 = .ok (.ifCond .ne 13, 3) := by decide +kernel
theorem dX8_uneven_41 : decode cX8_uneven 41 = .ok (.iload_n 1, 1) := by decide +kernel
theorem dX8_uneven_42 : decode cX8_uneven 42 = .ok (.ifCond .eq 7, 3) := by decide +kernel
theorem dX8_uneven_45 : decode cX8_uneven 45 = .ok (.iconst 1, 1) := by decide +kernel
theorem dX8_uneven_46 : decode cX8_uneven 46 = .ok (.goto 4, 3) := by decide +kernel
theorem dX8_uneven_49 : decode cX8_uneven 49 = .ok (.iconst 0, 1) := by decide +kernel
theorem dX8_uneven_50 : decode cX8_uneven 50 = .ok (.ireturn, 1) := by decide +kernel
theorem dX8_uneven_51 : decode cX8_uneven 51 = .ok (.iload_n 1, 1) := by decide +kernel
theorem dX8_uneven_52 : decode cX8_uneven 52 = .ok (.ifCond .eq 7, 3) := by decide +kernel
theorem dX8_uneven_55 : decode cX8_uneven 55 = .ok (.iload_n 3, 1) := by decide +kernel
theorem dX8_uneven_56 : decode cX8_uneven 56 = .ok (.goto 4, 3) := by decide +kernel
theorem dX8_uneven_59 : decode cX8_uneven 59 = .ok (.iload_n 2, 1) := by decide +kernel
theorem dX8_uneven_60 : decode cX8_uneven 60 = .ok (.iload 4, 2) := by decide +kernel
theorem dX8_uneven_62 : decode cX8_uneven 62 = .ok (.idiv, 1) := by decide +kernel
theorem dX8_uneven_63 : decode cX8_uneven 63 = .ok (.ireturn, 1) := by decide +kernel
theorem dX8_minutes_0 : decode cX8_minutes 0 = .ok (.aload_n 0, 1) := by decide +kernel
theorem dX8_minutes_1 : decode cX8_minutes 1 = .ok (.getfield 61, 3) := by decide +kernel
theorem dX8_minutes_4 : decode cX8_minutes 4 = .ok (.iload_n 1, 1) := by decide +kernel
theorem dX8_minutes_5 : decode cX8_minutes 5 = .ok (.invokevirtual 268, 3) := by decide +kernel
theorem dX8_minutes_8 : decode cX8_minutes 8 = .ok (.ifCond .ne 10, 3) := by decide +kernel
theorem dX8_minutes_11 : decode cX8_minutes 11 = .ok (.aload_n 0, 1) := by decide +kernel
theorem dX8_minutes_12 : decode cX8_minutes 12 = .ok (.ldc 80, 2) := by decide +kernel
theorem dX8_minutes_14 : decode cX8_minutes 14 = .ok (.invokevirtual 81, 3) := by decide +kernel
theorem dX8_minutes_17 : decode cX8_minutes 17 = .ok (.ireturn, 1) := by decide +kernel
theorem dX8_minutes_18 : decode cX8_minutes 18 = .ok (.iload_n 2, 1) := by decide +kernel
theorem dX8_minutes_19 : decode cX8_minutes 19 = .ok (.tableswitch 72 0 3 #[29, 38, 47, 63], 29) := by decide +kernel
theorem dX8_minutes_48 : decode cX8_minutes 48 = .ok (.aload_n 0, 1) := by decide +kernel
theorem dX8_minutes_49 : decode cX8_minutes 49 = .ok (.getfield 61, 3) := by decide +kernel
theorem dX8_minutes_52 : decode cX8_minutes 52 = .ok (.iload_n 1, 1) := by decide +kernel
theorem dX8_minutes_53 : decode cX8_minutes 53 = .ok (.invokevirtual 269, 3) := by decide +kernel
theorem dX8_minutes_56 : decode cX8_minutes 56 = .ok (.ireturn, 1) := by decide +kernel
theorem dX8_minutes_57 : decode cX8_minutes 57 = .ok (.aload_n 0, 1) := by decide +kernel
theorem dX8_minutes_58 : decode cX8_minutes 58 = .ok (.getfield 61, 3) := by decide +kernel
theorem dX8_minutes_61 : decode cX8_minutes 61 = .ok (.iload_n 1, 1) := by decide +kernel
theorem dX8_minutes_62 : decode cX8_minutes 62 = .ok (.invokevirtual 270, 3) := by decide +kernel
theorem dX8_minutes_65 : decode cX8_minutes 65 = .ok (.ireturn, 1) := by decide +kernel
theorem dX8_minutes_66 : decode cX8_minutes 66 = .ok (.aload_n 0, 1) := by decide +kernel
theorem dX8_minutes_67 : decode cX8_minutes 67 = .ok (.getfield 61, 3) := by decide +kernel
theorem dX8_minutes_70 : decode cX8_minutes 70 = .ok (.iload_n 1, 1) := by decide +kernel
theorem dX8_minutes_71 : decode cX8_minutes 71 = .ok (.aload_n 0, 1) := by decide +kernel
theorem dX8_minutes_72 : decode cX8_minutes 72 = .ok (.getfield 61, 3) := by decide +kernel
theorem dX8_minutes_75 : decode cX8_minutes 75 = .ok (.invokevirtual 271, 3) := by decide +kernel
theorem dX8_minutes_78 : decode cX8_minutes 78 = .ok (.invokevirtual 274, 3) := by decide +kernel
theorem dX8_minutes_81 : decode cX8_minutes 81 = .ok (.ireturn, 1) := by decide +kernel
theorem dX8_minutes_82 : decode cX8_minutes 82 = .ok (.aload_n 0, 1) := by decide +kernel
theorem dX8_minutes_83 : decode cX8_minutes 83 = .ok (.getfield 61, 3) := by decide +kernel
theorem dX8_minutes_86 : decode cX8_minutes 86 = .ok (.iload_n 1, 1) := by decide +kernel
theorem dX8_minutes_87 : decode cX8_minutes 87 = .ok (.invokevirtual 277, 3) := by decide +kernel
theorem dX8_minutes_90 : decode cX8_minutes 90 = .ok (.ireturn, 1) := by decide +kernel
theorem dX8_minutes_91 : decode cX8_minutes 91 = .ok (.aload_n 0, 1) := by decide +kernel
theorem dX8_minutes_92 : decode cX8_minutes 92 = .ok (.ldc 80, 2) := by decide +kernel
theorem dX8_minutes_94 : decode cX8_minutes 94 = .ok (.invokevirtual 81, 3) := by decide +kernel
theorem dX8_minutes_97 : decode cX8_minutes 97 = .ok (.ireturn, 1) := by decide +kernel
theorem dX8_right_0 : decode cX8_right 0 = .ok (.aload_n 0, 1) := by decide +kernel
theorem dX8_right_1 : decode cX8_right 1 = .ok (.getfield 61, 3) := by decide +kernel
theorem dX8_right_4 : decode cX8_right 4 = .ok (.iload_n 1, 1) := by decide +kernel
theorem dX8_right_5 : decode cX8_right 5 = .ok (.invokevirtual 268, 3) := by decide +kernel
theorem dX8_right_8 : decode cX8_right 8 = .ok (.ifCond .eq 14, 3) := by decide +kernel
theorem dX8_right_11 : decode cX8_right 11 = .ok (.iload_n 2, 1) := by decide +kernel
theorem dX8_right_12 : decode cX8_right 12 = .ok (.iconst 0, 1) := by decide +kernel
theorem dX8_right_13 : decode cX8_right 13 = .ok (.sipush 200, 3) := by decide +kernel
theorem dX8_right_16 : decode cX8_right 16 = .ok (.invokestatic 76, 3) := by decide +kernel
theorem dX8_right_19 : decode cX8_right 19 = .ok (.ifCond .ne 10, 3) := by decide +kernel
theorem dX8_right_22 : decode cX8_right 22 = .ok (.aload_n 0, 1) := by decide +kernel
theorem dX8_right_23 : decode cX8_right 23 = .ok (.ldc 80, 2) := by decide +kernel
theorem dX8_right_25 : decode cX8_right 25 = .ok (.invokevirtual 81, 3) := by decide +kernel
theorem dX8_right_28 : decode cX8_right 28 = .ok (.ireturn, 1) := by decide +kernel
theorem dX8_right_29 : decode cX8_right 29 = .ok (.aload_n 0, 1) := by decide +kernel
theorem dX8_right_30 : decode cX8_right 30 = .ok (.getfield 61, 3) := by decide +kernel
theorem dX8_right_33 : decode cX8_right 33 = .ok (.invokevirtual 271, 3) := by decide +kernel
theorem dX8_right_36 : decode cX8_right 36 = .ok (.bipush 40, 2) := by decide +kernel
theorem dX8_right_38 : decode cX8_right 38 = .ok (.if_icmp .lt 10, 3) := by decide +kernel
theorem dX8_right_41 : decode cX8_right 41 = .ok (.aload_n 0, 1) := by decide +kernel
theorem dX8_right_42 : decode cX8_right 42 = .ok (.ldc 89, 2) := by decide +kernel
theorem dX8_right_44 : decode cX8_right 44 = .ok (.invokevirtual 81, 3) := by decide +kernel
theorem dX8_right_47 : decode cX8_right 47 = .ok (.ireturn, 1) := by decide +kernel
theorem dX8_right_48 : decode cX8_right 48 = .ok (.aload_n 0, 1) := by decide +kernel
theorem dX8_right_49 : decode cX8_right 49 = .ok (.getfield 61, 3) := by decide +kernel
theorem dX8_right_52 : decode cX8_right 52 = .ok (.iload_n 1, 1) := by decide +kernel
theorem dX8_right_53 : decode cX8_right 53 = .ok (.iload_n 2, 1) := by decide +kernel
theorem dX8_right_54 : decode cX8_right 54 = .ok (.invokevirtual 280, 3) := by decide +kernel
theorem dX8_right_57 : decode cX8_right 57 = .ok (.aload_n 0, 1) := by decide +kernel
theorem dX8_right_58 : decode cX8_right 58 = .ok (.getfield 61, 3) := by decide +kernel
theorem dX8_right_61 : decode cX8_right 61 = .ok (.invokevirtual 271, 3) := by decide +kernel
theorem dX8_right_64 : decode cX8_right 64 = .ok (.ireturn, 1) := by decide +kernel
theorem dX8_sum_0 : decode cX8_sum 0 = .ok (.aload_n 0, 1) := by decide +kernel
theorem dX8_sum_1 : decode cX8_sum 1 = .ok (.getfield 10, 3) := by decide +kernel
theorem dX8_sum_4 : decode cX8_sum 4 = .ok (.iload_n 1, 1) := by decide +kernel
theorem dX8_sum_5 : decode cX8_sum 5 = .ok (.invokevirtual 94, 3) := by decide +kernel
theorem dX8_sum_8 : decode cX8_sum 8 = .ok (.ifCond .eq 18, 3) := by decide +kernel
theorem dX8_sum_11 : decode cX8_sum 11 = .ok (.iload_n 2, 1) := by decide +kernel
theorem dX8_sum_12 : decode cX8_sum 12 = .ok (.iconst 0, 1) := by decide +kernel
theorem dX8_sum_13 : decode cX8_sum 13 = .ok (.aload_n 0, 1) := by decide +kernel
theorem dX8_sum_14 : decode cX8_sum 14 = .ok (.getfield 61, 3) := by decide +kernel
theorem dX8_sum_17 : decode cX8_sum 17 = .ok (.invokevirtual 271, 3) := by decide +kernel
theorem dX8_sum_20 : decode cX8_sum 20 = .ok (.invokestatic 76, 3) := by decide +kernel
theorem dX8_sum_23 : decode cX8_sum 23 = .ok (.ifCond .ne 10, 3) := by decide +kernel
theorem dX8_sum_26 : decode cX8_sum 26 = .ok (.aload_n 0, 1) := by decide +kernel
theorem dX8_sum_27 : decode cX8_sum 27 = .ok (.ldc 80, 2) := by decide +kernel
theorem dX8_sum_29 : decode cX8_sum 29 = .ok (.invokevirtual 81, 3) := by decide +kernel
theorem dX8_sum_32 : decode cX8_sum 32 = .ok (.ireturn, 1) := by decide +kernel
theorem dX8_sum_33 : decode cX8_sum 33 = .ok (.aload_n 0, 1) := by decide +kernel
theorem dX8_sum_34 : decode cX8_sum 34 = .ok (.getfield 61, 3) := by decide +kernel
theorem dX8_sum_37 : decode cX8_sum 37 = .ok (.iload_n 1, 1) := by decide +kernel
theorem dX8_sum_38 : decode cX8_sum 38 = .ok (.iload_n 2, 1) := by decide +kernel
theorem dX8_sum_39 : decode cX8_sum 39 = .ok (.invokevirtual 283, 3) := by decide +kernel
theorem dX8_sum_42 : decode cX8_sum 42 = .ok (.ireturn, 1) := by decide +kernel
theorem dX8_sheet_0 : decode cX8_sheet 0 = .ok (.aload_n 0, 1) := by decide +kernel
theorem dX8_sheet_1 : decode cX8_sheet 1 = .ok (.iload_n 1, 1) := by decide +kernel
theorem dX8_sheet_2 : decode cX8_sheet 2 = .ok (.invokevirtual 286, 3) := by decide +kernel
theorem dX8_sheet_5 : decode cX8_sheet 5 = .ok (.astore 4, 2) := by decide +kernel
theorem dX8_sheet_7 : decode cX8_sheet 7 = .ok (.aload 4, 2) := by decide +kernel
theorem dX8_sheet_9 : decode cX8_sheet 9 = .ok (.ifnull 10, 3) := by decide +kernel
theorem dX8_sheet_12 : decode cX8_sheet 12 = .ok (.iload_n 2, 1) := by decide +kernel
theorem dX8_sheet_13 : decode cX8_sheet 13 = .ok (.invokestatic 290, 3) := by decide +kernel
theorem dX8_sheet_16 : decode cX8_sheet 16 = .ok (.ifCond .ne 10, 3) := by decide +kernel
theorem dX8_sheet_19 : decode cX8_sheet 19 = .ok (.aload_n 0, 1) := by decide +kernel
theorem dX8_sheet_20 : decode cX8_sheet 20 = .ok (.ldc 80, 2) := by decide +kernel
theorem dX8_sheet_22 : decode cX8_sheet 22 = .ok (.invokevirtual 81, 3) := by decide +kernel
theorem dX8_sheet_25 : decode cX8_sheet 25 = .ok (.ireturn, 1) := by decide +kernel
theorem dX8_sheet_26 : decode cX8_sheet 26 = .ok (.iload_n 3, 1) := by decide +kernel
theorem dX8_sheet_27 : decode cX8_sheet 27 = .ok (.ifCond .ge 10, 3) := by decide +kernel
theorem dX8_sheet_30 : decode cX8_sheet 30 = .ok (.aload_n 0, 1) := by decide +kernel
theorem dX8_sheet_31 : decode cX8_sheet 31 = .ok (.ldc 131, 2) := by decide +kernel
theorem dX8_sheet_33 : decode cX8_sheet 33 = .ok (.invokevirtual 81, 3) := by decide +kernel
theorem dX8_sheet_36 : decode cX8_sheet 36 = .ok (.ireturn, 1) := by decide +kernel
theorem dX8_sheet_37 : decode cX8_sheet 37 = .ok (.iload_n 3, 1) := by decide +kernel
theorem dX8_sheet_38 : decode cX8_sheet 38 = .ok (.bipush 12, 2) := by decide +kernel
theorem dX8_sheet_40 : decode cX8_sheet 40 = .ok (.if_icmp .le 10, 3) := by decide +kernel
theorem dX8_sheet_43 : decode cX8_sheet 43 = .ok (.aload_n 0, 1) := by decide +kernel
theorem dX8_sheet_44 : decode cX8_sheet 44 = .ok (.ldc 80, 2) := by decide +kernel
theorem dX8_sheet_46 : decode cX8_sheet 46 = .ok (.invokevirtual 81, 3) := by decide +kernel
theorem dX8_sheet_49 : decode cX8_sheet 49 = .ok (.ireturn, 1) := by decide +kernel
theorem dX8_sheet_50 : decode cX8_sheet 50 = .ok (.aload 4, 2) := by decide +kernel
theorem dX8_sheet_52 : decode cX8_sheet 52 = .ok (.iload_n 2, 1) := by decide +kernel
theorem dX8_sheet_53 : decode cX8_sheet 53 = .ok (.iload_n 3, 1) := by decide +kernel
theorem dX8_sheet_54 : decode cX8_sheet 54 = .ok (.invokevirtual 293, 3) := by decide +kernel
theorem dX8_sheet_57 : decode cX8_sheet 57 = .ok (.aload 4, 2) := by decide +kernel
theorem dX8_sheet_59 : decode cX8_sheet 59 = .ok (.invokevirtual 295, 3) := by decide +kernel
theorem dX8_sheet_62 : decode cX8_sheet 62 = .ok (.ireturn, 1) := by decide +kernel
theorem dX8_put_0 : decode cX8_put 0 = .ok (.aload_n 0, 1) := by decide +kernel
theorem dX8_put_1 : decode cX8_put 1 = .ok (.iload_n 1, 1) := by decide +kernel
theorem dX8_put_2 : decode cX8_put 2 = .ok (.invokevirtual 286, 3) := by decide +kernel
theorem dX8_put_5 : decode cX8_put 5 = .ok (.astore 4, 2) := by decide +kernel
theorem dX8_put_7 : decode cX8_put 7 = .ok (.aload 4, 2) := by decide +kernel
theorem dX8_put_9 : decode cX8_put 9 = .ok (.ifnonnull 10, 3) := by decide +kernel
theorem dX8_put_12 : decode cX8_put 12 = .ok (.aload_n 0, 1) := by decide +kernel
theorem dX8_put_13 : decode cX8_put 13 = .ok (.ldc 80, 2) := by decide +kernel
theorem dX8_put_15 : decode cX8_put 15 = .ok (.invokevirtual 81, 3) := by decide +kernel
theorem dX8_put_18 : decode cX8_put 18 = .ok (.ireturn, 1) := by decide +kernel
theorem dX8_put_19 : decode cX8_put 19 = .ok (.aload 4, 2) := by decide +kernel
theorem dX8_put_21 : decode cX8_put 21 = .ok (.invokevirtual 296, 3) := by decide +kernel
theorem dX8_put_24 : decode cX8_put 24 = .ok (.ifCond .eq 11, 3) := by decide +kernel
theorem dX8_put_27 : decode cX8_put 27 = .ok (.aload_n 0, 1) := by decide +kernel
theorem dX8_put_28 : decode cX8_put 28 = .ok (.ldc_w 299, 3) := by decide +kernel
theorem dX8_put_31 : decode cX8_put 31 = .ok (.invokevirtual 81, 3) := by decide +kernel
theorem dX8_put_34 : decode cX8_put 34 = .ok (.ireturn, 1) := by decide +kernel
theorem dX8_put_35 : decode cX8_put 35 = .ok (.iload_n 2, 1) := by decide +kernel
theorem dX8_put_36 : decode cX8_put 36 = .ok (.iconst 0, 1) := by decide +kernel
theorem dX8_put_37 : decode cX8_put 37 = .ok (.aload 4, 2) := by decide +kernel
theorem dX8_put_39 : decode cX8_put 39 = .ok (.invokevirtual 295, 3) := by decide +kernel
theorem dX8_put_42 : decode cX8_put 42 = .ok (.iconst 1, 1) := by decide +kernel
theorem dX8_put_43 : decode cX8_put 43 = .ok (.isub, 1) := by decide +kernel
theorem dX8_put_44 : decode cX8_put 44 = .ok (.invokestatic 76, 3) := by decide +kernel
theorem dX8_put_47 : decode cX8_put 47 = .ok (.ifCond .ne 10, 3) := by decide +kernel
theorem dX8_put_50 : decode cX8_put 50 = .ok (.aload_n 0, 1) := by decide +kernel
theorem dX8_put_51 : decode cX8_put 51 = .ok (.ldc 80, 2) := by decide +kernel
theorem dX8_put_53 : decode cX8_put 53 = .ok (.invokevirtual 81, 3) := by decide +kernel
theorem dX8_put_56 : decode cX8_put 56 = .ok (.ireturn, 1) := by decide +kernel
theorem dX8_put_57 : decode cX8_put 57 = .ok (.aload 4, 2) := by decide +kernel
theorem dX8_put_59 : decode cX8_put 59 = .ok (.iload_n 2, 1) := by decide +kernel
theorem dX8_put_60 : decode cX8_put 60 = .ok (.iload_n 3, 1) := by decide +kernel
theorem dX8_put_61 : decode cX8_put 61 = .ok (.invokevirtual 300, 3) := by decide +kernel
theorem dX8_put_64 : decode cX8_put 64 = .ok (.iconst 0, 1) := by decide +kernel
theorem dX8_put_65 : decode cX8_put 65 = .ok (.ireturn, 1) := by decide +kernel
theorem dX8_copy_0 : decode cX8_copy 0 = .ok (.aload_n 0, 1) := by decide +kernel
theorem dX8_copy_1 : decode cX8_copy 1 = .ok (.iload_n 1, 1) := by decide +kernel
theorem dX8_copy_2 : decode cX8_copy 2 = .ok (.invokevirtual 286, 3) := by decide +kernel
theorem dX8_copy_5 : decode cX8_copy 5 = .ok (.astore 6, 2) := by decide +kernel
theorem dX8_copy_7 : decode cX8_copy 7 = .ok (.aload_n 0, 1) := by decide +kernel
theorem dX8_copy_8 : decode cX8_copy 8 = .ok (.iload_n 3, 1) := by decide +kernel
theorem dX8_copy_9 : decode cX8_copy 9 = .ok (.invokevirtual 286, 3) := by decide +kernel
theorem dX8_copy_12 : decode cX8_copy 12 = .ok (.astore 7, 2) := by decide +kernel
theorem dX8_copy_14 : decode cX8_copy 14 = .ok (.aload 6, 2) := by decide +kernel
theorem dX8_copy_16 : decode cX8_copy 16 = .ok (.ifnull 8, 3) := by decide +kernel
theorem dX8_copy_19 : decode cX8_copy 19 = .ok (.aload 7, 2) := by decide +kernel
theorem dX8_copy_21 : decode cX8_copy 21 = .ok (.ifnonnull 10, 3) := by decide +kernel
theorem dX8_copy_24 : decode cX8_copy 24 = .ok (.aload_n 0, 1) := by decide +kernel
theorem dX8_copy_25 : decode cX8_copy 25 = .ok (.ldc 80, 2) := by decide +kernel
theorem dX8_copy_27 : decode cX8_copy 27 = .ok (.invokevirtual 81, 3) := by decide +kernel
theorem dX8_copy_30 : decode cX8_copy 30 = .ok (.ireturn, 1) := by decide +kernel
theorem dX8_copy_31 : decode cX8_copy 31 = .ok (.aload 6, 2) := by decide +kernel
theorem dX8_copy_33 : decode cX8_copy 33 = .ok (.invokevirtual 296, 3) := by decide +kernel
theorem dX8_copy_36 : decode cX8_copy 36 = .ok (.ifCond .ne 11, 3) := by decide +kernel
theorem dX8_copy_39 : decode cX8_copy 39 = .ok (.aload 7, 2) := by decide +kernel
theorem dX8_copy_41 : decode cX8_copy 41 = .ok (.invokevirtual 296, 3) := by decide +kernel
theorem dX8_copy_44 : decode cX8_copy 44 = .ok (.ifCond .eq 11, 3) := by decide +kernel
theorem dX8_copy_47 : decode cX8_copy 47 = .ok (.aload_n 0, 1) := by decide +kernel
theorem dX8_copy_48 : decode cX8_copy 48 = .ok (.ldc_w 299, 3) := by decide +kernel
theorem dX8_copy_51 : decode cX8_copy 51 = .ok (.invokevirtual 81, 3) := by decide +kernel
theorem dX8_copy_54 : decode cX8_copy 54 = .ok (.ireturn, 1) := by decide +kernel
theorem dX8_copy_55 : decode cX8_copy 55 = .ok (.aload 6, 2) := by decide +kernel
theorem dX8_copy_57 : decode cX8_copy 57 = .ok (.invokevirtual 303, 3) := by decide +kernel
theorem dX8_copy_60 : decode cX8_copy 60 = .ok (.aload 7, 2) := by decide +kernel
theorem dX8_copy_62 : decode cX8_copy 62 = .ok (.invokevirtual 303, 3) := by decide +kernel
theorem dX8_copy_65 : decode cX8_copy 65 = .ok (.if_icmp .eq 10, 3) := by decide +kernel
theorem dX8_copy_68 : decode cX8_copy 68 = .ok (.aload_n 0, 1) := by decide +kernel
theorem dX8_copy_69 : decode cX8_copy 69 = .ok (.ldc 102, 2) := by decide +kernel
theorem dX8_copy_71 : decode cX8_copy 71 = .ok (.invokevirtual 81, 3) := by decide +kernel
theorem dX8_copy_74 : decode cX8_copy 74 = .ok (.ireturn, 1) := by decide +kernel
theorem dX8_copy_75 : decode cX8_copy 75 = .ok (.aload 6, 2) := by decide +kernel
theorem dX8_copy_77 : decode cX8_copy 77 = .ok (.iload_n 2, 1) := by decide +kernel
theorem dX8_copy_78 : decode cX8_copy 78 = .ok (.iload 5, 2) := by decide +kernel
theorem dX8_copy_80 : decode cX8_copy 80 = .ok (.invokevirtual 306, 3) := by decide +kernel
theorem dX8_copy_83 : decode cX8_copy 83 = .ok (.ifCond .eq 15, 3) := by decide +kernel
theorem dX8_copy_86 : decode cX8_copy 86 = .ok (.aload 7, 2) := by decide +kernel
theorem dX8_copy_88 : decode cX8_copy 88 = .ok (.iload 4, 2) := by decide +kernel
theorem dX8_copy_90 : decode cX8_copy 90 = .ok (.iload 5, 2) := by decide +kernel
theorem dX8_copy_92 : decode cX8_copy 92 = .ok (.invokevirtual 306, 3) := by decide +kernel
theorem dX8_copy_95 : decode cX8_copy 95 = .ok (.ifCond .ne 10, 3) := by decide +kernel
theorem dX8_copy_98 : decode cX8_copy 98 = .ok (.aload_n 0, 1) := by decide +kernel
theorem dX8_copy_99 : decode cX8_copy 99 = .ok (.ldc 80, 2) := by decide +kernel
theorem dX8_copy_101 : decode cX8_copy 101 = .ok (.invokevirtual 81, 3) := by decide +kernel
theorem dX8_copy_104 : decode cX8_copy 104 = .ok (.ireturn, 1) := by decide +kernel
theorem dX8_copy_105 : decode cX8_copy 105 = .ok (.aload 7, 2) := by decide +kernel
theorem dX8_copy_107 : decode cX8_copy 107 = .ok (.iload 4, 2) := by decide +kernel
theorem dX8_copy_109 : decode cX8_copy 109 = .ok (.aload 6, 2) := by decide +kernel
theorem dX8_copy_111 : decode cX8_copy 111 = .ok (.iload_n 2, 1) := by decide +kernel
theorem dX8_copy_112 : decode cX8_copy 112 = .ok (.iload 5, 2) := by decide +kernel
theorem dX8_copy_114 : decode cX8_copy 114 = .ok (.invokevirtual 309, 3) := by decide +kernel
theorem dX8_copy_117 : decode cX8_copy 117 = .ok (.iload 5, 2) := by decide +kernel
theorem dX8_copy_119 : decode cX8_copy 119 = .ok (.ireturn, 1) := by decide +kernel
theorem dX8_read_0 : decode cX8_read 0 = .ok (.aload_n 0, 1) := by decide +kernel
theorem dX8_read_1 : decode cX8_read 1 = .ok (.iload_n 1, 1) := by decide +kernel
theorem dX8_read_2 : decode cX8_read 2 = .ok (.invokevirtual 286, 3) := by decide +kernel
theorem dX8_read_5 : decode cX8_read 5 = .ok (.astore_n 2, 1) := by decide +kernel
theorem dX8_read_6 : decode cX8_read 6 = .ok (.aload_n 2, 1) := by decide +kernel
theorem dX8_read_7 : decode cX8_read 7 = .ok (.ifnonnull 10, 3) := by decide +kernel
theorem dX8_read_10 : decode cX8_read 10 = .ok (.aload_n 0, 1) := by decide +kernel
theorem dX8_read_11 : decode cX8_read 11 = .ok (.ldc 80, 2) := by decide +kernel
theorem dX8_read_13 : decode cX8_read 13 = .ok (.invokevirtual 81, 3) := by decide +kernel
theorem dX8_read_16 : decode cX8_read 16 = .ok (.ireturn, 1) := by decide +kernel
theorem dX8_read_17 : decode cX8_read 17 = .ok (.aload_n 2, 1) := by decide +kernel
theorem dX8_read_18 : decode cX8_read 18 = .ok (.invokevirtual 296, 3) := by decide +kernel
theorem dX8_read_21 : decode cX8_read 21 = .ok (.ifCond .eq 11, 3) := by decide +kernel
theorem dX8_read_24 : decode cX8_read 24 = .ok (.aload_n 0, 1) := by decide +kernel
theorem dX8_read_25 : decode cX8_read 25 = .ok (.ldc_w 299, 3) := by decide +kernel
theorem dX8_read_28 : decode cX8_read 28 = .ok (.invokevirtual 81, 3) := by decide +kernel
theorem dX8_read_31 : decode cX8_read 31 = .ok (.ireturn, 1) := by decide +kernel
theorem dX8_read_32 : decode cX8_read 32 = .ok (.aload_n 2, 1) := by decide +kernel
theorem dX8_read_33 : decode cX8_read 33 = .ok (.invokevirtual 312, 3) := by decide +kernel
theorem dX8_read_36 : decode cX8_read 36 = .ok (.istore_n 3, 1) := by decide +kernel
theorem dX8_read_37 : decode cX8_read 37 = .ok (.aload_n 2, 1) := by decide +kernel
theorem dX8_read_38 : decode cX8_read 38 = .ok (.iload_n 3, 1) := by decide +kernel
theorem dX8_read_39 : decode cX8_read 39 = .ok (.invokestatic 315, 3) := by decide +kernel
theorem dX8_read_42 : decode cX8_read 42 = .ok (.istore 4, 2) := by decide +kernel
theorem dX8_read_44 : decode cX8_read 44 = .ok (.iload 4, 2) := by decide +kernel
theorem dX8_read_46 : decode cX8_read 46 = .ok (.ifCond .eq 10, 3) := by decide +kernel
theorem dX8_read_49 : decode cX8_read 49 = .ok (.aload_n 0, 1) := by decide +kernel
theorem dX8_read_50 : decode cX8_read 50 = .ok (.iload 4, 2) := by decide +kernel
theorem dX8_read_52 : decode cX8_read 52 = .ok (.invokevirtual 81, 3) := by decide +kernel
theorem dX8_read_55 : decode cX8_read 55 = .ok (.ireturn, 1) := by decide +kernel
theorem dX8_read_56 : decode cX8_read 56 = .ok (.aload_n 0, 1) := by decide +kernel
theorem dX8_read_57 : decode cX8_read 57 = .ok (.getfield 31, 3) := by decide +kernel
theorem dX8_read_60 : decode cX8_read 60 = .ok (.invokevirtual 149, 3) := by decide +kernel
theorem dX8_read_63 : decode cX8_read 63 = .ok (.iconst 0, 1) := by decide +kernel
theorem dX8_read_64 : decode cX8_read 64 = .ok (.istore 5, 2) := by decide +kernel
theorem dX8_read_66 : decode cX8_read 66 = .ok (.iload 5, 2) := by decide +kernel
theorem dX8_read_68 : decode cX8_read 68 = .ok (.iload_n 3, 1) := by decide +kernel
theorem dX8_read_69 : decode cX8_read 69 = .ok (.if_icmp .ge 22, 3) := by decide +kernel
theorem dX8_read_72 : decode cX8_read 72 = .ok (.aload_n 0, 1) := by decide +kernel
end
section
theorem dX8_read_73 : decode cX8_read 73 = .ok (.getfield 31, 3) := by decide +kernel
theorem dX8_read_76 : decode cX8_read 76 = .ok (.aload_n 2, 1) := by decide +kernel
theorem dX8_read_77 : decode cX8_read 77 = .ok (.iload 5, 2) := by decide +kernel
theorem dX8_read_79 : decode cX8_read 79 = .ok (.invokevirtual 319, 3) := by decide +kernel
theorem dX8_read_82 : decode cX8_read 82 = .ok (.invokevirtual 147, 3) := by decide +kernel
theorem dX8_read_85 : decode cX8_read 85 = .ok (.iinc 5 1, 3) := by decide +kernel
theorem dX8_read_88 : decode cX8_read 88 = .ok (.goto (-22), 3) := by decide +kernel
theorem dX8_read_91 : decode cX8_read 91 = .ok (.iload_n 3, 1) := by decide +kernel
theorem dX8_read_92 : decode cX8_read 92 = .ok (.ireturn, 1) := by decide +kernel
theorem dX8_told_0 : decode cX8_told 0 = .ok (.iload_n 1, 1) := by decide +kernel
theorem dX8_told_1 : decode cX8_told 1 = .ok (.tableswitch 104 0 6 #[43, 51, 59, 67, 75, 80, 88], 43) := by decide +kernel
theorem dX8_told_44 : decode cX8_told 44 = .ok (.aload_n 0, 1) := by decide +kernel
theorem dX8_told_45 : decode cX8_told 45 = .ok (.getfield 10, 3) := by decide +kernel
theorem dX8_told_48 : decode cX8_told 48 = .ok (.invokevirtual 85, 3) := by decide +kernel
theorem dX8_told_51 : decode cX8_told 51 = .ok (.ireturn, 1) := by decide +kernel
theorem dX8_told_52 : decode cX8_told 52 = .ok (.aload_n 0, 1) := by decide +kernel
theorem dX8_told_53 : decode cX8_told 53 = .ok (.getfield 21, 3) := by decide +kernel
theorem dX8_told_56 : decode cX8_told 56 = .ok (.invokevirtual 132, 3) := by decide +kernel
theorem dX8_told_59 : decode cX8_told 59 = .ok (.ireturn, 1) := by decide +kernel
theorem dX8_told_60 : decode cX8_told 60 = .ok (.aload_n 0, 1) := by decide +kernel
theorem dX8_told_61 : decode cX8_told 61 = .ok (.getfield 31, 3) := by decide +kernel
theorem dX8_told_64 : decode cX8_told 64 = .ok (.invokevirtual 146, 3) := by decide +kernel
theorem dX8_told_67 : decode cX8_told 67 = .ok (.ireturn, 1) := by decide +kernel
theorem dX8_told_68 : decode cX8_told 68 = .ok (.aload_n 0, 1) := by decide +kernel
theorem dX8_told_69 : decode cX8_told 69 = .ok (.getfield 61, 3) := by decide +kernel
theorem dX8_told_72 : decode cX8_told 72 = .ok (.invokevirtual 322, 3) := by decide +kernel
theorem dX8_told_75 : decode cX8_told 75 = .ok (.ireturn, 1) := by decide +kernel
theorem dX8_told_76 : decode cX8_told 76 = .ok (.aload_n 0, 1) := by decide +kernel
theorem dX8_told_77 : decode cX8_told 77 = .ok (.getfield 72, 3) := by decide +kernel
theorem dX8_told_80 : decode cX8_told 80 = .ok (.ireturn, 1) := by decide +kernel
theorem dX8_told_81 : decode cX8_told 81 = .ok (.aload_n 0, 1) := by decide +kernel
theorem dX8_told_82 : decode cX8_told 82 = .ok (.getfield 61, 3) := by decide +kernel
theorem dX8_told_85 : decode cX8_told 85 = .ok (.invokevirtual 271, 3) := by decide +kernel
theorem dX8_told_88 : decode cX8_told 88 = .ok (.ireturn, 1) := by decide +kernel
theorem dX8_told_89 : decode cX8_told 89 = .ok (.aload_n 0, 1) := by decide +kernel
theorem dX8_told_90 : decode cX8_told 90 = .ok (.getfield 54, 3) := by decide +kernel
theorem dX8_told_93 : decode cX8_told 93 = .ok (.invokevirtual 218, 3) := by decide +kernel
theorem dX8_told_96 : decode cX8_told 96 = .ok (.ifCond .eq 7, 3) := by decide +kernel
theorem dX8_told_99 : decode cX8_told 99 = .ok (.iconst 1, 1) := by decide +kernel
theorem dX8_told_100 : decode cX8_told 100 = .ok (.goto 4, 3) := by decide +kernel
theorem dX8_told_103 : decode cX8_told 103 = .ok (.iconst 0, 1) := by decide +kernel
theorem dX8_told_104 : decode cX8_told 104 = .ok (.ireturn, 1) := by decide +kernel
theorem dX8_told_105 : decode cX8_told 105 = .ok (.aload_n 0, 1) := by decide +kernel
theorem dX8_told_106 : decode cX8_told 106 = .ok (.ldc 80, 2) := by decide +kernel
theorem dX8_told_108 : decode cX8_told 108 = .ok (.invokevirtual 81, 3) := by decide +kernel
theorem dX8_told_111 : decode cX8_told 111 = .ok (.ireturn, 1) := by decide +kernel
theorem dX8_finding_0 : decode cX8_finding 0 = .ok (.aload_n 0, 1) := by decide +kernel
theorem dX8_finding_1 : decode cX8_finding 1 = .ok (.dup, 1) := by decide +kernel
theorem dX8_finding_2 : decode cX8_finding 2 = .ok (.getfield 72, 3) := by decide +kernel
theorem dX8_finding_5 : decode cX8_finding 5 = .ok (.iconst 1, 1) := by decide +kernel
theorem dX8_finding_6 : decode cX8_finding 6 = .ok (.iadd, 1) := by decide +kernel
theorem dX8_finding_7 : decode cX8_finding 7 = .ok (.putfield 72, 3) := by decide +kernel
theorem dX8_finding_10 : decode cX8_finding 10 = .ok (.iload_n 1, 1) := by decide +kernel
theorem dX8_finding_11 : decode cX8_finding 11 = .ok (.ireturn, 1) := by decide +kernel
theorem dX8_isAsking_0 : decode cX8_isAsking 0 = .ok (.aload_n 0, 1) := by decide +kernel
theorem dX8_isAsking_1 : decode cX8_isAsking 1 = .ok (.getfield 10, 3) := by decide +kernel
theorem dX8_isAsking_4 : decode cX8_isAsking 4 = .ok (.iload_n 1, 1) := by decide +kernel
theorem dX8_isAsking_5 : decode cX8_isAsking 5 = .ok (.invokevirtual 94, 3) := by decide +kernel
theorem dX8_isAsking_8 : decode cX8_isAsking 8 = .ok (.ifCond .eq 16, 3) := by decide +kernel
theorem dX8_isAsking_11 : decode cX8_isAsking 11 = .ok (.iload_n 2, 1) := by decide +kernel
theorem dX8_isAsking_12 : decode cX8_isAsking 12 = .ok (.iconst 0, 1) := by decide +kernel
theorem dX8_isAsking_13 : decode cX8_isAsking 13 = .ok (.iconst 2, 1) := by decide +kernel
theorem dX8_isAsking_14 : decode cX8_isAsking 14 = .ok (.invokestatic 76, 3) := by decide +kernel
theorem dX8_isAsking_17 : decode cX8_isAsking 17 = .ok (.ifCond .eq 7, 3) := by decide +kernel
theorem dX8_isAsking_20 : decode cX8_isAsking 20 = .ok (.iconst 1, 1) := by decide +kernel
theorem dX8_isAsking_21 : decode cX8_isAsking 21 = .ok (.goto 4, 3) := by decide +kernel
theorem dX8_isAsking_24 : decode cX8_isAsking 24 = .ok (.iconst 0, 1) := by decide +kernel
theorem dX8_isAsking_25 : decode cX8_isAsking 25 = .ok (.ireturn, 1) := by decide +kernel
theorem dX8_ticksFor_0 : decode cX8_ticksFor 0 = .ok (.aload_n 0, 1) := by decide +kernel
theorem dX8_ticksFor_1 : decode cX8_ticksFor 1 = .ok (.getfield 47, 3) := by decide +kernel
theorem dX8_ticksFor_4 : decode cX8_ticksFor 4 = .ok (.iload_n 2, 1) := by decide +kernel
theorem dX8_ticksFor_5 : decode cX8_ticksFor 5 = .ok (.invokevirtual 212, 3) := by decide +kernel
theorem dX8_ticksFor_8 : decode cX8_ticksFor 8 = .ok (.istore_n 3, 1) := by decide +kernel
theorem dX8_ticksFor_9 : decode cX8_ticksFor 9 = .ok (.aload_n 0, 1) := by decide +kernel
theorem dX8_ticksFor_10 : decode cX8_ticksFor 10 = .ok (.getfield 10, 3) := by decide +kernel
theorem dX8_ticksFor_13 : decode cX8_ticksFor 13 = .ok (.iload_n 1, 1) := by decide +kernel
theorem dX8_ticksFor_14 : decode cX8_ticksFor 14 = .ok (.iconst 3, 1) := by decide +kernel
theorem dX8_ticksFor_15 : decode cX8_ticksFor 15 = .ok (.invokevirtual 98, 3) := by decide +kernel
theorem dX8_ticksFor_18 : decode cX8_ticksFor 18 = .ok (.ifCond .eq 9, 3) := by decide +kernel
theorem dX8_ticksFor_21 : decode cX8_ticksFor 21 = .ok (.iconst 2, 1) := by decide +kernel
theorem dX8_ticksFor_22 : decode cX8_ticksFor 22 = .ok (.iload_n 3, 1) := by decide +kernel
theorem dX8_ticksFor_23 : decode cX8_ticksFor 23 = .ok (.imul, 1) := by decide +kernel
theorem dX8_ticksFor_24 : decode cX8_ticksFor 24 = .ok (.goto 4, 3) := by decide +kernel
theorem dX8_ticksFor_27 : decode cX8_ticksFor 27 = .ok (.iload_n 3, 1) := by decide +kernel
theorem dX8_ticksFor_28 : decode cX8_ticksFor 28 = .ok (.ireturn, 1) := by decide +kernel
theorem dX8_takeFloor_0 : decode cX8_takeFloor 0 = .ok (.aload_n 0, 1) := by decide +kernel
theorem dX8_takeFloor_1 : decode cX8_takeFloor 1 = .ok (.getfield 21, 3) := by decide +kernel
theorem dX8_takeFloor_4 : decode cX8_takeFloor 4 = .ok (.iload_n 1, 1) := by decide +kernel
theorem dX8_takeFloor_5 : decode cX8_takeFloor 5 = .ok (.invokevirtual 162, 3) := by decide +kernel
theorem dX8_takeFloor_8 : decode cX8_takeFloor 8 = .ok (.istore_n 2, 1) := by decide +kernel
theorem dX8_takeFloor_9 : decode cX8_takeFloor 9 = .ok (.aload_n 0, 1) := by decide +kernel
theorem dX8_takeFloor_10 : decode cX8_takeFloor 10 = .ok (.getfield 21, 3) := by decide +kernel
theorem dX8_takeFloor_13 : decode cX8_takeFloor 13 = .ok (.iload_n 1, 1) := by decide +kernel
theorem dX8_takeFloor_14 : decode cX8_takeFloor 14 = .ok (.invokevirtual 159, 3) := by decide +kernel
theorem dX8_takeFloor_17 : decode cX8_takeFloor 17 = .ok (.istore_n 3, 1) := by decide +kernel
theorem dX8_takeFloor_18 : decode cX8_takeFloor 18 = .ok (.aload_n 0, 1) := by decide +kernel
theorem dX8_takeFloor_19 : decode cX8_takeFloor 19 = .ok (.getfield 21, 3) := by decide +kernel
theorem dX8_takeFloor_22 : decode cX8_takeFloor 22 = .ok (.iload_n 1, 1) := by decide +kernel
theorem dX8_takeFloor_23 : decode cX8_takeFloor 23 = .ok (.invokevirtual 176, 3) := by decide +kernel
theorem dX8_takeFloor_26 : decode cX8_takeFloor 26 = .ok (.aload_n 0, 1) := by decide +kernel
theorem dX8_takeFloor_27 : decode cX8_takeFloor 27 = .ok (.getfield 47, 3) := by decide +kernel
theorem dX8_takeFloor_30 : decode cX8_takeFloor 30 = .ok (.iload_n 2, 1) := by decide +kernel
theorem dX8_takeFloor_31 : decode cX8_takeFloor 31 = .ok (.iload_n 3, 1) := by decide +kernel
theorem dX8_takeFloor_32 : decode cX8_takeFloor 32 = .ok (.aload_n 0, 1) := by decide +kernel
theorem dX8_takeFloor_33 : decode cX8_takeFloor 33 = .ok (.iload_n 2, 1) := by decide +kernel
theorem dX8_takeFloor_34 : decode cX8_takeFloor 34 = .ok (.iload_n 3, 1) := by decide +kernel
theorem dX8_takeFloor_35 : decode cX8_takeFloor 35 = .ok (.invokevirtual 179, 3) := by decide +kernel
theorem dX8_takeFloor_38 : decode cX8_takeFloor 38 = .ok (.invokevirtual 323, 3) := by decide +kernel
theorem dX8_takeFloor_41 : decode cX8_takeFloor 41 = .ok (.iload_n 2, 1) := by decide +kernel
theorem dX8_takeFloor_42 : decode cX8_takeFloor 42 = .ok (.ireturn, 1) := by decide +kernel
theorem dX8_endHolding_0 : decode cX8_endHolding 0 = .ok (.aload_n 0, 1) := by decide +kernel
theorem dX8_endHolding_1 : decode cX8_endHolding 1 = .ok (.getfield 61, 3) := by decide +kernel
theorem dX8_endHolding_4 : decode cX8_endHolding 4 = .ok (.aload_n 0, 1) := by decide +kernel
theorem dX8_endHolding_5 : decode cX8_endHolding 5 = .ok (.getfield 47, 3) := by decide +kernel
theorem dX8_endHolding_8 : decode cX8_endHolding 8 = .ok (.invokevirtual 197, 3) := by decide +kernel
theorem dX8_endHolding_11 : decode cX8_endHolding 11 = .ok (.aload_n 0, 1) := by decide +kernel
theorem dX8_endHolding_12 : decode cX8_endHolding 12 = .ok (.getfield 47, 3) := by decide +kernel
theorem dX8_endHolding_15 : decode cX8_endHolding 15 = .ok (.invokevirtual 209, 3) := by decide +kernel
theorem dX8_endHolding_18 : decode cX8_endHolding 18 = .ok (.aload_n 0, 1) := by decide +kernel
theorem dX8_endHolding_19 : decode cX8_endHolding 19 = .ok (.getfield 47, 3) := by decide +kernel
theorem dX8_endHolding_22 : decode cX8_endHolding 22 = .ok (.invokevirtual 327, 3) := by decide +kernel
theorem dX8_endHolding_25 : decode cX8_endHolding 25 = .ok (.invokevirtual 330, 3) := by decide +kernel
theorem dX8_endHolding_28 : decode cX8_endHolding 28 = .ok (.aload_n 0, 1) := by decide +kernel
theorem dX8_endHolding_29 : decode cX8_endHolding 29 = .ok (.getfield 47, 3) := by decide +kernel
theorem dX8_endHolding_32 : decode cX8_endHolding 32 = .ok (.invokevirtual 333, 3) := by decide +kernel
theorem dX8_endHolding_35 : decode cX8_endHolding 35 = .ok (.return_, 1) := by decide +kernel
theorem dX8_gapsOfPairs_0 : decode cX8_gapsOfPairs 0 = .ok (.iconst 0, 1) := by decide +kernel
theorem dX8_gapsOfPairs_1 : decode cX8_gapsOfPairs 1 = .ok (.istore_n 1, 1) := by decide +kernel
theorem dX8_gapsOfPairs_2 : decode cX8_gapsOfPairs 2 = .ok (.iconst 0, 1) := by decide +kernel
theorem dX8_gapsOfPairs_3 : decode cX8_gapsOfPairs 3 = .ok (.istore_n 2, 1) := by decide +kernel
theorem dX8_gapsOfPairs_4 : decode cX8_gapsOfPairs 4 = .ok (.iload_n 2, 1) := by decide +kernel
theorem dX8_gapsOfPairs_5 : decode cX8_gapsOfPairs 5 = .ok (.iconst 5, 1) := by decide +kernel
theorem dX8_gapsOfPairs_6 : decode cX8_gapsOfPairs 6 = .ok (.if_icmp .ge 67, 3) := by decide +kernel
theorem dX8_gapsOfPairs_9 : decode cX8_gapsOfPairs 9 = .ok (.iconst 0, 1) := by decide +kernel
theorem dX8_gapsOfPairs_10 : decode cX8_gapsOfPairs 10 = .ok (.istore_n 3, 1) := by decide +kernel
theorem dX8_gapsOfPairs_11 : decode cX8_gapsOfPairs 11 = .ok (.iload_n 3, 1) := by decide +kernel
theorem dX8_gapsOfPairs_12 : decode cX8_gapsOfPairs 12 = .ok (.iload_n 2, 1) := by decide +kernel
theorem dX8_gapsOfPairs_13 : decode cX8_gapsOfPairs 13 = .ok (.if_icmp .ge 54, 3) := by decide +kernel
theorem dX8_gapsOfPairs_16 : decode cX8_gapsOfPairs 16 = .ok (.aload_n 0, 1) := by decide +kernel
theorem dX8_gapsOfPairs_17 : decode cX8_gapsOfPairs 17 = .ok (.getfield 10, 3) := by decide +kernel
theorem dX8_gapsOfPairs_20 : decode cX8_gapsOfPairs 20 = .ok (.iload_n 2, 1) := by decide +kernel
theorem dX8_gapsOfPairs_21 : decode cX8_gapsOfPairs 21 = .ok (.invokevirtual 250, 3) := by decide +kernel
theorem dX8_gapsOfPairs_24 : decode cX8_gapsOfPairs 24 = .ok (.ifCond .eq 37, 3) := by decide +kernel
theorem dX8_gapsOfPairs_27 : decode cX8_gapsOfPairs 27 = .ok (.aload_n 0, 1) := by decide +kernel
theorem dX8_gapsOfPairs_28 : decode cX8_gapsOfPairs 28 = .ok (.getfield 10, 3) := by decide +kernel
theorem dX8_gapsOfPairs_31 : decode cX8_gapsOfPairs 31 = .ok (.iload_n 3, 1) := by decide +kernel
theorem dX8_gapsOfPairs_32 : decode cX8_gapsOfPairs 32 = .ok (.invokevirtual 250, 3) := by decide +kernel
theorem dX8_gapsOfPairs_35 : decode cX8_gapsOfPairs 35 = .ok (.ifCond .eq 26, 3) := by decide +kernel
theorem dX8_gapsOfPairs_38 : decode cX8_gapsOfPairs 38 = .ok (.iload_n 1, 1) := by decide +kernel
theorem dX8_gapsOfPairs_39 : decode cX8_gapsOfPairs 39 = .ok (.aload_n 0, 1) := by decide +kernel
theorem dX8_gapsOfPairs_40 : decode cX8_gapsOfPairs 40 = .ok (.getfield 21, 3) := by decide +kernel
theorem dX8_gapsOfPairs_43 : decode cX8_gapsOfPairs 43 = .ok (.iload_n 2, 1) := by decide +kernel
theorem dX8_gapsOfPairs_44 : decode cX8_gapsOfPairs 44 = .ok (.invokevirtual 122, 3) := by decide +kernel
theorem dX8_gapsOfPairs_47 : decode cX8_gapsOfPairs 47 = .ok (.aload_n 0, 1) := by decide +kernel
theorem dX8_gapsOfPairs_48 : decode cX8_gapsOfPairs 48 = .ok (.getfield 21, 3) := by decide +kernel
theorem dX8_gapsOfPairs_51 : decode cX8_gapsOfPairs 51 = .ok (.iload_n 3, 1) := by decide +kernel
theorem dX8_gapsOfPairs_52 : decode cX8_gapsOfPairs 52 = .ok (.invokevirtual 122, 3) := by decide +kernel
theorem dX8_gapsOfPairs_55 : decode cX8_gapsOfPairs 55 = .ok (.isub, 1) := by decide +kernel
theorem dX8_gapsOfPairs_56 : decode cX8_gapsOfPairs 56 = .ok (.invokestatic 336, 3) := by decide +kernel
theorem dX8_gapsOfPairs_59 : decode cX8_gapsOfPairs 59 = .ok (.iadd, 1) := by decide +kernel
theorem dX8_gapsOfPairs_60 : decode cX8_gapsOfPairs 60 = .ok (.istore_n 1, 1) := by decide +kernel
theorem dX8_gapsOfPairs_61 : decode cX8_gapsOfPairs 61 = .ok (.iinc 3 1, 3) := by decide +kernel
theorem dX8_gapsOfPairs_64 : decode cX8_gapsOfPairs 64 = .ok (.goto (-53), 3) := by decide +kernel
theorem dX8_gapsOfPairs_67 : decode cX8_gapsOfPairs 67 = .ok (.iinc 2 1, 3) := by decide +kernel
theorem dX8_gapsOfPairs_70 : decode cX8_gapsOfPairs 70 = .ok (.goto (-66), 3) := by decide +kernel
theorem dX8_gapsOfPairs_73 : decode cX8_gapsOfPairs 73 = .ok (.iload_n 1, 1) := by decide +kernel
theorem dX8_gapsOfPairs_74 : decode cX8_gapsOfPairs 74 = .ok (.ireturn, 1) := by decide +kernel
theorem dX8_peopledDelegations_0 : decode cX8_peopledDelegations 0 = .ok (.iconst 0, 1) := by decide +kernel
theorem dX8_peopledDelegations_1 : decode cX8_peopledDelegations 1 = .ok (.istore_n 1, 1) := by decide +kernel
theorem dX8_peopledDelegations_2 : decode cX8_peopledDelegations 2 = .ok (.iconst 0, 1) := by decide +kernel
theorem dX8_peopledDelegations_3 : decode cX8_peopledDelegations 3 = .ok (.istore_n 2, 1) := by decide +kernel
theorem dX8_peopledDelegations_4 : decode cX8_peopledDelegations 4 = .ok (.iload_n 2, 1) := by decide +kernel
theorem dX8_peopledDelegations_5 : decode cX8_peopledDelegations 5 = .ok (.iconst 5, 1) := by decide +kernel
theorem dX8_peopledDelegations_6 : decode cX8_peopledDelegations 6 = .ok (.if_icmp .ge 23, 3) := by decide +kernel
theorem dX8_peopledDelegations_9 : decode cX8_peopledDelegations 9 = .ok (.aload_n 0, 1) := by decide +kernel
theorem dX8_peopledDelegations_10 : decode cX8_peopledDelegations 10 = .ok (.getfield 10, 3) := by decide +kernel
theorem dX8_peopledDelegations_13 : decode cX8_peopledDelegations 13 = .ok (.iload_n 2, 1) := by decide +kernel
theorem dX8_peopledDelegations_14 : decode cX8_peopledDelegations 14 = .ok (.invokevirtual 250, 3) := by decide +kernel
theorem dX8_peopledDelegations_17 : decode cX8_peopledDelegations 17 = .ok (.ifCond .eq 6, 3) := by decide +kernel
theorem dX8_peopledDelegations_20 : decode cX8_peopledDelegations 20 = .ok (.iinc 1 1, 3) := by decide +kernel
theorem dX8_peopledDelegations_23 : decode cX8_peopledDelegations 23 = .ok (.iinc 2 1, 3) := by decide +kernel
theorem dX8_peopledDelegations_26 : decode cX8_peopledDelegations 26 = .ok (.goto (-22), 3) := by decide +kernel
theorem dX8_peopledDelegations_29 : decode cX8_peopledDelegations 29 = .ok (.iload_n 1, 1) := by decide +kernel
theorem dX8_peopledDelegations_30 : decode cX8_peopledDelegations 30 = .ok (.ireturn, 1) := by decide +kernel
theorem dX8_allTime_0 : decode cX8_allTime 0 = .ok (.iconst 0, 1) := by decide +kernel
theorem dX8_allTime_1 : decode cX8_allTime 1 = .ok (.istore_n 1, 1) := by decide +kernel
theorem dX8_allTime_2 : decode cX8_allTime 2 = .ok (.iconst 0, 1) := by decide +kernel
theorem dX8_allTime_3 : decode cX8_allTime 3 = .ok (.istore_n 2, 1) := by decide +kernel
theorem dX8_allTime_4 : decode cX8_allTime 4 = .ok (.iload_n 2, 1) := by decide +kernel
theorem dX8_allTime_5 : decode cX8_allTime 5 = .ok (.iconst 5, 1) := by decide +kernel
theorem dX8_allTime_6 : decode cX8_allTime 6 = .ok (.if_icmp .ge 20, 3) := by decide +kernel
theorem dX8_allTime_9 : decode cX8_allTime 9 = .ok (.iload_n 1, 1) := by decide +kernel
theorem dX8_allTime_10 : decode cX8_allTime 10 = .ok (.aload_n 0, 1) := by decide +kernel
theorem dX8_allTime_11 : decode cX8_allTime 11 = .ok (.getfield 21, 3) := by decide +kernel
theorem dX8_allTime_14 : decode cX8_allTime 14 = .ok (.iload_n 2, 1) := by decide +kernel
theorem dX8_allTime_15 : decode cX8_allTime 15 = .ok (.invokevirtual 122, 3) := by decide +kernel
theorem dX8_allTime_18 : decode cX8_allTime 18 = .ok (.iadd, 1) := by decide +kernel
theorem dX8_allTime_19 : decode cX8_allTime 19 = .ok (.istore_n 1, 1) := by decide +kernel
theorem dX8_allTime_20 : decode cX8_allTime 20 = .ok (.iinc 2 1, 3) := by decide +kernel
theorem dX8_allTime_23 : decode cX8_allTime 23 = .ok (.goto (-19), 3) := by decide +kernel
theorem dX8_allTime_26 : decode cX8_allTime 26 = .ok (.iload_n 1, 1) := by decide +kernel
theorem dX8_allTime_27 : decode cX8_allTime 27 = .ok (.ireturn, 1) := by decide +kernel
theorem dX8_sheetAt_0 : decode cX8_sheetAt 0 = .ok (.iload_n 1, 1) := by decide +kernel
theorem dX8_sheetAt_1 : decode cX8_sheetAt 1 = .ok (.ifCond .lt 21, 3) := by decide +kernel
theorem dX8_sheetAt_4 : decode cX8_sheetAt 4 = .ok (.iload_n 1, 1) := by decide +kernel
theorem dX8_sheetAt_5 : decode cX8_sheetAt 5 = .ok (.aload_n 0, 1) := by decide +kernel
theorem dX8_sheetAt_6 : decode cX8_sheetAt 6 = .ok (.getfield 67, 3) := by decide +kernel
theorem dX8_sheetAt_9 : decode cX8_sheetAt 9 = .ok (.arraylength, 1) := by decide +kernel
theorem dX8_sheetAt_10 : decode cX8_sheetAt 10 = .ok (.if_icmp .ge 12, 3) := by decide +kernel
theorem dX8_sheetAt_13 : decode cX8_sheetAt 13 = .ok (.aload_n 0, 1) := by decide +kernel
theorem dX8_sheetAt_14 : decode cX8_sheetAt 14 = .ok (.getfield 67, 3) := by decide +kernel
theorem dX8_sheetAt_17 : decode cX8_sheetAt 17 = .ok (.iload_n 1, 1) := by decide +kernel
theorem dX8_sheetAt_18 : decode cX8_sheetAt 18 = .ok (.aaload, 1) := by decide +kernel
theorem dX8_sheetAt_19 : decode cX8_sheetAt 19 = .ok (.goto 4, 3) := by decide +kernel
theorem dX8_sheetAt_22 : decode cX8_sheetAt 22 = .ok (.aconst_null, 1) := by decide +kernel
theorem dX8_sheetAt_23 : decode cX8_sheetAt 23 = .ok (.areturn, 1) := by decide +kernel
theorem dX8_faultOfKeys_0 : decode cX8_faultOfKeys 0 = .ok (.iconst 0, 1) := by decide +kernel
theorem dX8_faultOfKeys_1 : decode cX8_faultOfKeys 1 = .ok (.istore_n 2, 1) := by decide +kernel
theorem dX8_faultOfKeys_2 : decode cX8_faultOfKeys 2 = .ok (.iload_n 2, 1) := by decide +kernel
theorem dX8_faultOfKeys_3 : decode cX8_faultOfKeys 3 = .ok (.iload_n 1, 1) := by decide +kernel
theorem dX8_faultOfKeys_4 : decode cX8_faultOfKeys 4 = .ok (.if_icmp .ge 23, 3) := by decide +kernel
theorem dX8_faultOfKeys_7 : decode cX8_faultOfKeys 7 = .ok (.aload_n 0, 1) := by decide +kernel
theorem dX8_faultOfKeys_8 : decode cX8_faultOfKeys 8 = .ok (.iload_n 2, 1) := by decide +kernel
theorem dX8_faultOfKeys_9 : decode cX8_faultOfKeys 9 = .ok (.invokevirtual 319, 3) := by decide +kernel
theorem dX8_faultOfKeys_12 : decode cX8_faultOfKeys 12 = .ok (.invokestatic 142, 3) := by decide +kernel
theorem dX8_faultOfKeys_15 : decode cX8_faultOfKeys 15 = .ok (.ifCond .ne 6, 3) := by decide +kernel
theorem dX8_faultOfKeys_18 : decode cX8_faultOfKeys 18 = .ok (.ldc 80, 2) := by decide +kernel
theorem dX8_faultOfKeys_20 : decode cX8_faultOfKeys 20 = .ok (.ireturn, 1) := by decide +kernel
theorem dX8_faultOfKeys_21 : decode cX8_faultOfKeys 21 = .ok (.iinc 2 1, 3) := by decide +kernel
theorem dX8_faultOfKeys_24 : decode cX8_faultOfKeys 24 = .ok (.goto (-22), 3) := by decide +kernel
theorem dX8_faultOfKeys_27 : decode cX8_faultOfKeys 27 = .ok (.iconst 0, 1) := by decide +kernel
theorem dX8_faultOfKeys_28 : decode cX8_faultOfKeys 28 = .ok (.istore_n 2, 1) := by decide +kernel
theorem dX8_faultOfKeys_29 : decode cX8_faultOfKeys 29 = .ok (.iload_n 2, 1) := by decide +kernel
theorem dX8_faultOfKeys_30 : decode cX8_faultOfKeys 30 = .ok (.iload_n 1, 1) := by decide +kernel
theorem dX8_faultOfKeys_31 : decode cX8_faultOfKeys 31 = .ok (.if_icmp .ge 38, 3) := by decide +kernel
theorem dX8_faultOfKeys_34 : decode cX8_faultOfKeys 34 = .ok (.iconst 0, 1) := by decide +kernel
theorem dX8_faultOfKeys_35 : decode cX8_faultOfKeys 35 = .ok (.istore_n 3, 1) := by decide +kernel
theorem dX8_faultOfKeys_36 : decode cX8_faultOfKeys 36 = .ok (.iload_n 3, 1) := by decide +kernel
theorem dX8_faultOfKeys_37 : decode cX8_faultOfKeys 37 = .ok (.iload_n 2, 1) := by decide +kernel
theorem dX8_faultOfKeys_38 : decode cX8_faultOfKeys 38 = .ok (.if_icmp .ge 25, 3) := by decide +kernel
theorem dX8_faultOfKeys_41 : decode cX8_faultOfKeys 41 = .ok (.aload_n 0, 1) := by decide +kernel
theorem dX8_faultOfKeys_42 : decode cX8_faultOfKeys 42 = .ok (.iload_n 2, 1) := by decide +kernel
theorem dX8_faultOfKeys_43 : decode cX8_faultOfKeys 43 = .ok (.invokevirtual 319, 3) := by decide +kernel
theorem dX8_faultOfKeys_46 : decode cX8_faultOfKeys 46 = .ok (.aload_n 0, 1) := by decide +kernel
theorem dX8_faultOfKeys_47 : decode cX8_faultOfKeys 47 = .ok (.iload_n 3, 1) := by decide +kernel
theorem dX8_faultOfKeys_48 : decode cX8_faultOfKeys 48 = .ok (.invokevirtual 319, 3) := by decide +kernel
theorem dX8_faultOfKeys_51 : decode cX8_faultOfKeys 51 = .ok (.if_icmp .ne 6, 3) := by decide +kernel
theorem dX8_faultOfKeys_54 : decode cX8_faultOfKeys 54 = .ok (.ldc 131, 2) := by decide +kernel
theorem dX8_faultOfKeys_56 : decode cX8_faultOfKeys 56 = .ok (.ireturn, 1) := by decide +kernel
theorem dX8_faultOfKeys_57 : decode cX8_faultOfKeys 57 = .ok (.iinc 3 1, 3) := by decide +kernel
theorem dX8_faultOfKeys_60 : decode cX8_faultOfKeys 60 = .ok (.goto (-24), 3) := by decide +kernel
theorem dX8_faultOfKeys_63 : decode cX8_faultOfKeys 63 = .ok (.iinc 2 1, 3) := by decide +kernel
theorem dX8_faultOfKeys_66 : decode cX8_faultOfKeys 66 = .ok (.goto (-37), 3) := by decide +kernel
theorem dX8_faultOfKeys_69 : decode cX8_faultOfKeys 69 = .ok (.iload_n 1, 1) := by decide +kernel
theorem dX8_faultOfKeys_70 : decode cX8_faultOfKeys 70 = .ok (.bipush 6, 2) := by decide +kernel
theorem dX8_faultOfKeys_72 : decode cX8_faultOfKeys 72 = .ok (.if_icmp .le 8, 3) := by decide +kernel
theorem dX8_faultOfKeys_75 : decode cX8_faultOfKeys 75 = .ok (.ldc 89, 2) := by decide +kernel
theorem dX8_faultOfKeys_77 : decode cX8_faultOfKeys 77 = .ok (.goto 4, 3) := by decide +kernel
theorem dX8_faultOfKeys_80 : decode cX8_faultOfKeys 80 = .ok (.iconst 0, 1) := by decide +kernel
theorem dX8_faultOfKeys_81 : decode cX8_faultOfKeys 81 = .ok (.ireturn, 1) := by decide +kernel
theorem dX8_isKey_0 : decode cX8_isKey 0 = .ok (.iload_n 0, 1) := by decide +kernel
theorem dX8_isKey_1 : decode cX8_isKey 1 = .ok (.iconst 1, 1) := by decide +kernel
theorem dX8_isKey_2 : decode cX8_isKey 2 = .ok (.bipush 9, 2) := by decide +kernel
theorem dX8_isKey_4 : decode cX8_isKey 4 = .ok (.invokestatic 76, 3) := by decide +kernel
theorem dX8_isKey_7 : decode cX8_isKey 7 = .ok (.ireturn, 1) := by decide +kernel
theorem dX8_isNeed_0 : decode cX8_isNeed 0 = .ok (.iload_n 0, 1) := by decide +kernel
theorem dX8_isNeed_1 : decode cX8_isNeed 1 = .ok (.iconst 1, 1) := by decide +kernel
theorem dX8_isNeed_2 : decode cX8_isNeed 2 = .ok (.iconst 3, 1) := by decide +kernel
theorem dX8_isNeed_3 : decode cX8_isNeed 3 = .ok (.invokestatic 76, 3) := by decide +kernel
theorem dX8_isNeed_6 : decode cX8_isNeed 6 = .ok (.ireturn, 1) := by decide +kernel
theorem dX8_isWidth_0 : decode cX8_isWidth 0 = .ok (.iload_n 0, 1) := by decide +kernel
theorem dX8_isWidth_1 : decode cX8_isWidth 1 = .ok (.ifCond .eq 21, 3) := by decide +kernel
theorem dX8_isWidth_4 : decode cX8_isWidth 4 = .ok (.iload_n 0, 1) := by decide +kernel
theorem dX8_isWidth_5 : decode cX8_isWidth 5 = .ok (.bipush 8, 2) := by decide +kernel
theorem dX8_isWidth_7 : decode cX8_isWidth 7 = .ok (.if_icmp .eq 15, 3) := by decide +kernel
theorem dX8_isWidth_10 : decode cX8_isWidth 10 = .ok (.iload_n 0, 1) := by decide +kernel
theorem dX8_isWidth_11 : decode cX8_isWidth 11 = .ok (.bipush 16, 2) := by decide +kernel
theorem dX8_isWidth_13 : decode cX8_isWidth 13 = .ok (.if_icmp .eq 9, 3) := by decide +kernel
theorem dX8_isWidth_16 : decode cX8_isWidth 16 = .ok (.iload_n 0, 1) := by decide +kernel
theorem dX8_isWidth_17 : decode cX8_isWidth 17 = .ok (.bipush 32, 2) := by decide +kernel
theorem dX8_isWidth_19 : decode cX8_isWidth 19 = .ok (.if_icmp .ne 7, 3) := by decide +kernel
theorem dX8_isWidth_22 : decode cX8_isWidth 22 = .ok (.iconst 1, 1) := by decide +kernel
theorem dX8_isWidth_23 : decode cX8_isWidth 23 = .ok (.goto 4, 3) := by decide +kernel
theorem dX8_isWidth_26 : decode cX8_isWidth 26 = .ok (.iconst 0, 1) := by decide +kernel
theorem dX8_isWidth_27 : decode cX8_isWidth 27 = .ok (.ireturn, 1) := by decide +kernel
theorem dX8_passes_0 : decode cX8_passes 0 = .ok (.iload_n 0, 1) := by decide +kernel
theorem dX8_passes_1 : decode cX8_passes 1 = .ok (.lookupswitch 59 #[(1, 27), (2, 38)], 27) := by decide +kernel
theorem dX8_passes_28 : decode cX8_passes 28 = .ok (.iload_n 1, 1) := by decide +kernel
theorem dX8_passes_29 : decode cX8_passes 29 = .ok (.iload_n 2, 1) := by decide +kernel
theorem dX8_passes_30 : decode cX8_passes 30 = .ok (.if_icmp .le 7, 3) := by decide +kernel
theorem dX8_passes_33 : decode cX8_passes 33 = .ok (.iconst 1, 1) := by decide +kernel
theorem dX8_passes_34 : decode cX8_passes 34 = .ok (.goto 4, 3) := by decide +kernel
theorem dX8_passes_37 : decode cX8_passes 37 = .ok (.iconst 0, 1) := by decide +kernel
theorem dX8_passes_38 : decode cX8_passes 38 = .ok (.ireturn, 1) := by decide +kernel
theorem dX8_passes_39 : decode cX8_passes 39 = .ok (.iload_n 1, 1) := by decide +kernel
theorem dX8_passes_40 : decode cX8_passes 40 = .ok (.ifCond .le 18, 3) := by decide +kernel
theorem dX8_passes_43 : decode cX8_passes 43 = .ok (.iconst 3, 1) := by decide +kernel
theorem dX8_passes_44 : decode cX8_passes 44 = .ok (.iload_n 1, 1) := by decide +kernel
theorem dX8_passes_45 : decode cX8_passes 45 = .ok (.imul, 1) := by decide +kernel
theorem dX8_passes_46 : decode cX8_passes 46 = .ok (.iconst 2, 1) := by decide +kernel
theorem dX8_passes_47 : decode cX8_passes 47 = .ok (.iload_n 1, 1) := by decide +kernel
theorem dX8_passes_48 : decode cX8_passes 48 = .ok (.iload_n 2, 1) := by decide +kernel
theorem dX8_passes_49 : decode cX8_passes 49 = .ok (.iadd, 1) := by decide +kernel
theorem dX8_passes_50 : decode cX8_passes 50 = .ok (.imul, 1) := by decide +kernel
theorem dX8_passes_51 : decode cX8_passes 51 = .ok (.if_icmp .lt 7, 3) := by decide +kernel
theorem dX8_passes_54 : decode cX8_passes 54 = .ok (.iconst 1, 1) := by decide +kernel
theorem dX8_passes_55 : decode cX8_passes 55 = .ok (.goto 4, 3) := by decide +kernel
theorem dX8_passes_58 : decode cX8_passes 58 = .ok (.iconst 0, 1) := by decide +kernel
theorem dX8_passes_59 : decode cX8_passes 59 = .ok (.ireturn, 1) := by decide +kernel
theorem dX8_passes_60 : decode cX8_passes 60 = .ok (.iload_n 1, 1) := by decide +kernel
theorem dX8_passes_61 : decode cX8_passes 61 = .ok (.ifCond .le 11, 3) := by decide +kernel
theorem dX8_passes_64 : decode cX8_passes 64 = .ok (.iload_n 2, 1) := by decide +kernel
theorem dX8_passes_65 : decode cX8_passes 65 = .ok (.ifCond .ne 7, 3) := by decide +kernel
theorem dX8_passes_68 : decode cX8_passes 68 = .ok (.iconst 1, 1) := by decide +kernel
theorem dX8_passes_69 : decode cX8_passes 69 = .ok (.goto 4, 3) := by decide +kernel
theorem dX8_passes_72 : decode cX8_passes 72 = .ok (.iconst 0, 1) := by decide +kernel
theorem dX8_passes_73 : decode cX8_passes 73 = .ok (.ireturn, 1) := by decide +kernel
theorem dX8_greatestDivisor_0 : decode cX8_greatestDivisor 0 = .ok (.iload_n 0, 1) := by decide +kernel
theorem dX8_greatestDivisor_1 : decode cX8_greatestDivisor 1 = .ok (.istore_n 2, 1) := by decide +kernel
theorem dX8_greatestDivisor_2 : decode cX8_greatestDivisor 2 = .ok (.iload_n 1, 1) := by decide +kernel
theorem dX8_greatestDivisor_3 : decode cX8_greatestDivisor 3 = .ok (.istore_n 3, 1) := by decide +kernel
theorem dX8_greatestDivisor_4 : decode cX8_greatestDivisor 4 = .ok (.iconst 0, 1) := by decide +kernel
theorem dX8_greatestDivisor_5 : decode cX8_greatestDivisor 5 = .ok (.istore 4, 2) := by decide +kernel
theorem dX8_greatestDivisor_7 : decode cX8_greatestDivisor 7 = .ok (.iload 4, 2) := by decide +kernel
theorem dX8_greatestDivisor_9 : decode cX8_greatestDivisor 9 = .ok (.bipush 100, 2) := by decide +kernel
theorem dX8_greatestDivisor_11 : decode cX8_greatestDivisor 11 = .ok (.if_icmp .ge 23, 3) := by decide +kernel
theorem dX8_greatestDivisor_14 : decode cX8_greatestDivisor 14 = .ok (.iload_n 3, 1) := by decide +kernel
theorem dX8_greatestDivisor_15 : decode cX8_greatestDivisor 15 = .ok (.ifCond .eq 19, 3) := by decide +kernel
theorem dX8_greatestDivisor_18 : decode cX8_greatestDivisor 18 = .ok (.iload_n 2, 1) := by decide +kernel
theorem dX8_greatestDivisor_19 : decode cX8_greatestDivisor 19 = .ok (.iload_n 3, 1) := by decide +kernel
theorem dX8_greatestDivisor_20 : decode cX8_greatestDivisor 20 = .ok (.irem, 1) := by decide +kernel
theorem dX8_greatestDivisor_21 : decode cX8_greatestDivisor 21 = .ok (.istore 5, 2) := by decide +kernel
theorem dX8_greatestDivisor_23 : decode cX8_greatestDivisor 23 = .ok (.iload_n 3, 1) := by decide +kernel
theorem dX8_greatestDivisor_24 : decode cX8_greatestDivisor 24 = .ok (.istore_n 2, 1) := by decide +kernel
theorem dX8_greatestDivisor_25 : decode cX8_greatestDivisor 25 = .ok (.iload 5, 2) := by decide +kernel
theorem dX8_greatestDivisor_27 : decode cX8_greatestDivisor 27 = .ok (.istore_n 3, 1) := by decide +kernel
theorem dX8_greatestDivisor_28 : decode cX8_greatestDivisor 28 = .ok (.iinc 4 1, 3) := by decide +kernel
theorem dX8_greatestDivisor_31 : decode cX8_greatestDivisor 31 = .ok (.goto (-24), 3) := by decide +kernel
theorem dX8_greatestDivisor_34 : decode cX8_greatestDivisor 34 = .ok (.iload_n 2, 1) := by decide +kernel
theorem dX8_greatestDivisor_35 : decode cX8_greatestDivisor 35 = .ok (.ireturn, 1) := by decide +kernel
theorem dX8_isWithin_0 : decode cX8_isWithin 0 = .ok (.iload_n 0, 1) := by decide +kernel
theorem dX8_isWithin_1 : decode cX8_isWithin 1 = .ok (.iload_n 1, 1) := by decide +kernel
theorem dX8_isWithin_2 : decode cX8_isWithin 2 = .ok (.if_icmp .lt 12, 3) := by decide +kernel
theorem dX8_isWithin_5 : decode cX8_isWithin 5 = .ok (.iload_n 0, 1) := by decide +kernel
theorem dX8_isWithin_6 : decode cX8_isWithin 6 = .ok (.iload_n 2, 1) := by decide +kernel
theorem dX8_isWithin_7 : decode cX8_isWithin 7 = .ok (.if_icmp .gt 7, 3) := by decide +kernel
theorem dX8_isWithin_10 : decode cX8_isWithin 10 = .ok (.iconst 1, 1) := by decide +kernel
theorem dX8_isWithin_11 : decode cX8_isWithin 11 = .ok (.goto 4, 3) := by decide +kernel
theorem dX8_isWithin_14 : decode cX8_isWithin 14 = .ok (.iconst 0, 1) := by decide +kernel
theorem dX8_isWithin_15 : decode cX8_isWithin 15 = .ok (.ireturn, 1) := by decide +kernel
theorem dX8_at_0 : decode cX8_at 0 = .ok (.iload_n 1, 1) := by decide +kernel
theorem dX8_at_1 : decode cX8_at 1 = .ok (.ifCond .lt 15, 3) := by decide +kernel
theorem dX8_at_4 : decode cX8_at 4 = .ok (.iload_n 1, 1) := by decide +kernel
theorem dX8_at_5 : decode cX8_at 5 = .ok (.aload_n 0, 1) := by decide +kernel
theorem dX8_at_6 : decode cX8_at 6 = .ok (.arraylength, 1) := by decide +kernel
theorem dX8_at_7 : decode cX8_at 7 = .ok (.if_icmp .ge 9, 3) := by decide +kernel
theorem dX8_at_10 : decode cX8_at 10 = .ok (.aload_n 0, 1) := by decide +kernel
theorem dX8_at_11 : decode cX8_at 11 = .ok (.iload_n 1, 1) := by decide +kernel
theorem dX8_at_12 : decode cX8_at 12 = .ok (.iaload, 1) := by decide +kernel
theorem dX8_at_13 : decode cX8_at 13 = .ok (.goto 4, 3) := by decide +kernel
theorem dX8_at_16 : decode cX8_at 16 = .ok (.iconst 0, 1) := by decide +kernel
theorem dX8_at_17 : decode cX8_at 17 = .ok (.ireturn, 1) := by decide +kernel
theorem dX8_set_0 : decode cX8_set 0 = .ok (.iload_n 1, 1) := by decide +kernel
theorem dX8_set_1 : decode cX8_set 1 = .ok (.ifCond .lt 13, 3) := by decide +kernel
theorem dX8_set_4 : decode cX8_set 4 = .ok (.iload_n 1, 1) := by decide +kernel
theorem dX8_set_5 : decode cX8_set 5 = .ok (.aload_n 0, 1) := by decide +kernel
theorem dX8_set_6 : decode cX8_set 6 = .ok (.arraylength, 1) := by decide +kernel
theorem dX8_set_7 : decode cX8_set 7 = .ok (.if_icmp .ge 7, 3) := by decide +kernel
theorem dX8_set_10 : decode cX8_set 10 = .ok (.aload_n 0, 1) := by decide +kernel
theorem dX8_set_11 : decode cX8_set 11 = .ok (.iload_n 1, 1) := by decide +kernel
theorem dX8_set_12 : decode cX8_set 12 = .ok (.iload_n 2, 1) := by decide +kernel
theorem dX8_set_13 : decode cX8_set 13 = .ok (.iastore, 1) := by decide +kernel
theorem dX8_set_14 : decode cX8_set 14 = .ok (.return_, 1) := by decide +kernel
theorem dX9_init_0 : decode cX9_init 0 = .ok (.aload_n 0, 1) := by decide +kernel
theorem dX9_init_1 : decode cX9_init 1 = .ok (.invokespecial 1, 3) := by decide +kernel
theorem dX9_init_4 : decode cX9_init 4 = .ok (.aload_n 0, 1) := by decide +kernel
theorem dX9_init_5 : decode cX9_init 5 = .ok (.bipush 10, 2) := by decide +kernel
theorem dX9_init_7 : decode cX9_init 7 = .ok (.newarray .int, 2) := by decide +kernel
theorem dX9_init_9 : decode cX9_init 9 = .ok (.putfield 7, 3) := by decide +kernel
theorem dX9_init_12 : decode cX9_init 12 = .ok (.aload_n 0, 1) := by decide +kernel
theorem dX9_init_13 : decode cX9_init 13 = .ok (.bipush 10, 2) := by decide +kernel
theorem dX9_init_15 : decode cX9_init 15 = .ok (.newarray .int, 2) := by decide +kernel
theorem dX9_init_17 : decode cX9_init 17 = .ok (.putfield 13, 3) := by decide +kernel
theorem dX9_init_20 : decode cX9_init 20 = .ok (.aload_n 0, 1) := by decide +kernel
theorem dX9_init_21 : decode cX9_init 21 = .ok (.bipush 10, 2) := by decide +kernel
theorem dX9_init_23 : decode cX9_init 23 = .ok (.newarray .boolean, 2) := by decide +kernel
theorem dX9_init_25 : decode cX9_init 25 = .ok (.putfield 16, 3) := by decide +kernel
theorem dX9_init_28 : decode cX9_init 28 = .ok (.aload_n 0, 1) := by decide +kernel
theorem dX9_init_29 : decode cX9_init 29 = .ok (.bipush 10, 2) := by decide +kernel
theorem dX9_init_31 : decode cX9_init 31 = .ok (.newarray .int, 2) := by decide +kernel
theorem dX9_init_33 : decode cX9_init 33 = .ok (.putfield 20, 3) := by decide +kernel
theorem dX9_init_36 : decode cX9_init 36 = .ok (.aload_n 0, 1) := by decide +kernel
theorem dX9_init_37 : decode cX9_init 37 = .ok (.bipush 10, 2) := by decide +kernel
theorem dX9_init_39 : decode cX9_init 39 = .ok (.newarray .int, 2) := by decide +kernel
theorem dX9_init_41 : decode cX9_init 41 = .ok (.putfield 23, 3) := by decide +kernel
theorem dX9_init_44 : decode cX9_init 44 = .ok (.aload_n 0, 1) := by decide +kernel
theorem dX9_init_45 : decode cX9_init 45 = .ok (.bipush 20, 2) := by decide +kernel
theorem dX9_init_47 : decode cX9_init 47 = .ok (.newarray .int, 2) := by decide +kernel
theorem dX9_init_49 : decode cX9_init 49 = .ok (.putfield 26, 3) := by decide +kernel
theorem dX9_init_52 : decode cX9_init 52 = .ok (.aload_n 0, 1) := by decide +kernel
theorem dX9_init_53 : decode cX9_init 53 = .ok (.bipush 20, 2) := by decide +kernel
theorem dX9_init_55 : decode cX9_init 55 = .ok (.newarray .int, 2) := by decide +kernel
theorem dX9_init_57 : decode cX9_init 57 = .ok (.putfield 29, 3) := by decide +kernel
theorem dX9_init_60 : decode cX9_init 60 = .ok (.aload_n 0, 1) := by decide +kernel
theorem dX9_init_61 : decode cX9_init 61 = .ok (.bipush 6, 2) := by decide +kernel
theorem dX9_init_63 : decode cX9_init 63 = .ok (.newarray .int, 2) := by decide +kernel
theorem dX9_init_65 : decode cX9_init 65 = .ok (.putfield 32, 3) := by decide +kernel
theorem dX9_init_68 : decode cX9_init 68 = .ok (.aload_n 0, 1) := by decide +kernel
theorem dX9_init_69 : decode cX9_init 69 = .ok (.iconst (-1), 1) := by decide +kernel
theorem dX9_init_70 : decode cX9_init 70 = .ok (.putfield 35, 3) := by decide +kernel
theorem dX9_init_73 : decode cX9_init 73 = .ok (.aload_n 0, 1) := by decide +kernel
theorem dX9_init_74 : decode cX9_init 74 = .ok (.iconst 5, 1) := by decide +kernel
theorem dX9_init_75 : decode cX9_init 75 = .ok (.newarray .int, 2) := by decide +kernel
theorem dX9_init_77 : decode cX9_init 77 = .ok (.putfield 39, 3) := by decide +kernel
theorem dX9_init_80 : decode cX9_init 80 = .ok (.aload_n 0, 1) := by decide +kernel
theorem dX9_init_81 : decode cX9_init 81 = .ok (.iconst 5, 1) := by decide +kernel
theorem dX9_init_82 : decode cX9_init 82 = .ok (.newarray .int, 2) := by decide +kernel
theorem dX9_init_84 : decode cX9_init 84 = .ok (.putfield 42, 3) := by decide +kernel
theorem dX9_init_87 : decode cX9_init 87 = .ok (.aload_n 0, 1) := by decide +kernel
theorem dX9_init_88 : decode cX9_init 88 = .ok (.iconst 5, 1) := by decide +kernel
theorem dX9_init_89 : decode cX9_init 89 = .ok (.newarray .int, 2) := by decide +kernel
theorem dX9_init_91 : decode cX9_init 91 = .ok (.putfield 45, 3) := by decide +kernel
theorem dX9_init_94 : decode cX9_init 94 = .ok (.aload_n 0, 1) := by decide +kernel
theorem dX9_init_95 : decode cX9_init 95 = .ok (.iconst 5, 1) := by decide +kernel
theorem dX9_init_96 : decode cX9_init 96 = .ok (.newarray .int, 2) := by decide +kernel
theorem dX9_init_98 : decode cX9_init 98 = .ok (.putfield 48, 3) := by decide +kernel
theorem dX9_init_101 : decode cX9_init 101 = .ok (.aload_n 0, 1) := by decide +kernel
theorem dX9_init_102 : decode cX9_init 102 = .ok (.iconst 3, 1) := by decide +kernel
theorem dX9_init_103 : decode cX9_init 103 = .ok (.newarray .int, 2) := by decide +kernel
theorem dX9_init_105 : decode cX9_init 105 = .ok (.dup, 1) := by decide +kernel
theorem dX9_init_106 : decode cX9_init 106 = .ok (.iconst 0, 1) := by decide +kernel
theorem dX9_init_107 : decode cX9_init 107 = .ok (.bipush 10, 2) := by decide +kernel
theorem dX9_init_109 : decode cX9_init 109 = .ok (.iastore, 1) := by decide +kernel
theorem dX9_init_110 : decode cX9_init 110 = .ok (.dup, 1) := by decide +kernel
theorem dX9_init_111 : decode cX9_init 111 = .ok (.iconst 1, 1) := by decide +kernel
theorem dX9_init_112 : decode cX9_init 112 = .ok (.iconst 4, 1) := by decide +kernel
theorem dX9_init_113 : decode cX9_init 113 = .ok (.iastore, 1) := by decide +kernel
theorem dX9_init_114 : decode cX9_init 114 = .ok (.dup, 1) := by decide +kernel
theorem dX9_init_115 : decode cX9_init 115 = .ok (.iconst 2, 1) := by decide +kernel
theorem dX9_init_116 : decode cX9_init 116 = .ok (.iconst 2, 1) := by decide +kernel
theorem dX9_init_117 : decode cX9_init 117 = .ok (.iastore, 1) := by decide +kernel
theorem dX9_init_118 : decode cX9_init 118 = .ok (.putfield 51, 3) := by decide +kernel
theorem dX9_init_121 : decode cX9_init 121 = .ok (.aload_n 0, 1) := by decide +kernel
theorem dX9_init_122 : decode cX9_init 122 = .ok (.bipush 10, 2) := by decide +kernel
theorem dX9_init_124 : decode cX9_init 124 = .ok (.newarray .int, 2) := by decide +kernel
theorem dX9_init_126 : decode cX9_init 126 = .ok (.putfield 54, 3) := by decide +kernel
theorem dX9_init_129 : decode cX9_init 129 = .ok (.aload_n 0, 1) := by decide +kernel
theorem dX9_init_130 : decode cX9_init 130 = .ok (.bipush 100, 2) := by decide +kernel
theorem dX9_init_132 : decode cX9_init 132 = .ok (.newarray .int, 2) := by decide +kernel
theorem dX9_init_134 : decode cX9_init 134 = .ok (.putfield 57, 3) := by decide +kernel
theorem dX9_init_137 : decode cX9_init 137 = .ok (.aload_n 0, 1) := by decide +kernel
theorem dX9_init_138 : decode cX9_init 138 = .ok (.bipush 100, 2) := by decide +kernel
theorem dX9_init_140 : decode cX9_init 140 = .ok (.newarray .int, 2) := by decide +kernel
theorem dX9_init_142 : decode cX9_init 142 = .ok (.putfield 60, 3) := by decide +kernel
theorem dX9_init_145 : decode cX9_init 145 = .ok (.aload_n 0, 1) := by decide +kernel
theorem dX9_init_146 : decode cX9_init 146 = .ok (.bipush 100, 2) := by decide +kernel
theorem dX9_init_148 : decode cX9_init 148 = .ok (.newarray .int, 2) := by decide +kernel
theorem dX9_init_150 : decode cX9_init 150 = .ok (.putfield 63, 3) := by decide +kernel
theorem dX9_init_153 : decode cX9_init 153 = .ok (.aload_n 0, 1) := by decide +kernel
theorem dX9_init_154 : decode cX9_init 154 = .ok (.bipush 41, 2) := by decide +kernel
theorem dX9_init_156 : decode cX9_init 156 = .ok (.newarray .int, 2) := by decide +kernel
theorem dX9_init_158 : decode cX9_init 158 = .ok (.putfield 66, 3) := by decide +kernel
theorem dX9_init_161 : decode cX9_init 161 = .ok (.aload_n 0, 1) := by decide +kernel
theorem dX9_init_162 : decode cX9_init 162 = .ok (.bipush 41, 2) := by decide +kernel
theorem dX9_init_164 : decode cX9_init 164 = .ok (.newarray .int, 2) := by decide +kernel
theorem dX9_init_166 : decode cX9_init 166 = .ok (.putfield 69, 3) := by decide +kernel
theorem dX9_init_169 : decode cX9_init 169 = .ok (.aload_n 0, 1) := by decide +kernel
theorem dX9_init_170 : decode cX9_init 170 = .ok (.iconst 4, 1) := by decide +kernel
theorem dX9_init_171 : decode cX9_init 171 = .ok (.newarray .int, 2) := by decide +kernel
theorem dX9_init_173 : decode cX9_init 173 = .ok (.putfield 72, 3) := by decide +kernel
theorem dX9_init_176 : decode cX9_init 176 = .ok (.aload_n 0, 1) := by decide +kernel
theorem dX9_init_177 : decode cX9_init 177 = .ok (.iconst 4, 1) := by decide +kernel
theorem dX9_init_178 : decode cX9_init 178 = .ok (.newarray .int, 2) := by decide +kernel
theorem dX9_init_180 : decode cX9_init 180 = .ok (.putfield 75, 3) := by decide +kernel
theorem dX9_init_183 : decode cX9_init 183 = .ok (.aload_n 0, 1) := by decide +kernel
theorem dX9_init_184 : decode cX9_init 184 = .ok (.bipush 48, 2) := by decide +kernel
theorem dX9_init_186 : decode cX9_init 186 = .ok (.newarray .int, 2) := by decide +kernel
theorem dX9_init_188 : decode cX9_init 188 = .ok (.putfield 78, 3) := by decide +kernel
theorem dX9_init_191 : decode cX9_init 191 = .ok (.aload_n 0, 1) := by decide +kernel
theorem dX9_init_192 : decode cX9_init 192 = .ok (.bipush 20, 2) := by decide +kernel
theorem dX9_init_194 : decode cX9_init 194 = .ok (.newarray .int, 2) := by decide +kernel
theorem dX9_init_196 : decode cX9_init 196 = .ok (.putfield 81, 3) := by decide +kernel
theorem dX9_init_199 : decode cX9_init 199 = .ok (.aload_n 0, 1) := by decide +kernel
theorem dX9_init_200 : decode cX9_init 200 = .ok (.bipush 20, 2) := by decide +kernel
theorem dX9_init_202 : decode cX9_init 202 = .ok (.newarray .int, 2) := by decide +kernel
theorem dX9_init_204 : decode cX9_init 204 = .ok (.putfield 84, 3) := by decide +kernel
theorem dX9_init_207 : decode cX9_init 207 = .ok (.aload_n 0, 1) := by decide +kernel
theorem dX9_init_208 : decode cX9_init 208 = .ok (.bipush 20, 2) := by decide +kernel
theorem dX9_init_210 : decode cX9_init 210 = .ok (.newarray .int, 2) := by decide +kernel
theorem dX9_init_212 : decode cX9_init 212 = .ok (.putfield 87, 3) := by decide +kernel
theorem dX9_init_215 : decode cX9_init 215 = .ok (.aload_n 0, 1) := by decide +kernel
theorem dX9_init_216 : decode cX9_init 216 = .ok (.bipush 10, 2) := by decide +kernel
theorem dX9_init_218 : decode cX9_init 218 = .ok (.newarray .int, 2) := by decide +kernel
theorem dX9_init_220 : decode cX9_init 220 = .ok (.putfield 90, 3) := by decide +kernel
theorem dX9_init_223 : decode cX9_init 223 = .ok (.aload_n 0, 1) := by decide +kernel
theorem dX9_init_224 : decode cX9_init 224 = .ok (.bipush 10, 2) := by decide +kernel
theorem dX9_init_226 : decode cX9_init 226 = .ok (.newarray .int, 2) := by decide +kernel
theorem dX9_init_228 : decode cX9_init 228 = .ok (.putfield 93, 3) := by decide +kernel
theorem dX9_init_231 : decode cX9_init 231 = .ok (.aload_n 0, 1) := by decide +kernel
theorem dX9_init_232 : decode cX9_init 232 = .ok (.bipush 12, 2) := by decide +kernel
theorem dX9_init_234 : decode cX9_init 234 = .ok (.newarray .int, 2) := by decide +kernel
theorem dX9_init_236 : decode cX9_init 236 = .ok (.putfield 96, 3) := by decide +kernel
theorem dX9_init_239 : decode cX9_init 239 = .ok (.return_, 1) := by decide +kernel
theorem dX9_finding_0 : decode cX9_finding 0 = .ok (.aload_n 0, 1) := by decide +kernel
theorem dX9_finding_1 : decode cX9_finding 1 = .ok (.dup, 1) := by decide +kernel
theorem dX9_finding_2 : decode cX9_finding 2 = .ok (.getfield 99, 3) := by decide +kernel
theorem dX9_finding_5 : decode cX9_finding 5 = .ok (.iconst 1, 1) := by decide +kernel
theorem dX9_finding_6 : decode cX9_finding 6 = .ok (.iadd, 1) := by decide +kernel
theorem dX9_finding_7 : decode cX9_finding 7 = .ok (.putfield 99, 3) := by decide +kernel
theorem dX9_finding_10 : decode cX9_finding 10 = .ok (.iload_n 1, 1) := by decide +kernel
theorem dX9_finding_11 : decode cX9_finding 11 = .ok (.ireturn, 1) := by decide +kernel
theorem dX9_isIn_0 : decode cX9_isIn 0 = .ok (.iload_n 0, 1) := by decide +kernel
theorem dX9_isIn_1 : decode cX9_isIn 1 = .ok (.iload_n 1, 1) := by decide +kernel
theorem dX9_isIn_2 : decode cX9_isIn 2 = .ok (.if_icmp .lt 12, 3) := by decide +kernel
theorem dX9_isIn_5 : decode cX9_isIn 5 = .ok (.iload_n 0, 1) := by decide +kernel
theorem dX9_isIn_6 : decode cX9_isIn 6 = .ok (.iload_n 2, 1) := by decide +kernel
theorem dX9_isIn_7 : decode cX9_isIn 7 = .ok (.if_icmp .gt 7, 3) := by decide +kernel
theorem dX9_isIn_10 : decode cX9_isIn 10 = .ok (.iconst 1, 1) := by decide +kernel
theorem dX9_isIn_11 : decode cX9_isIn 11 = .ok (.goto 4, 3) := by decide +kernel
theorem dX9_isIn_14 : decode cX9_isIn 14 = .ok (.iconst 0, 1) := by decide +kernel
theorem dX9_isIn_15 : decode cX9_isIn 15 = .ok (.ireturn, 1) := by decide +kernel
theorem dX9_isMember_0 : decode cX9_isMember 0 = .ok (.iload_n 1, 1) := by decide +kernel
theorem dX9_isMember_1 : decode cX9_isMember 1 = .ok (.ifCond .lt 15, 3) := by decide +kernel
theorem dX9_isMember_4 : decode cX9_isMember 4 = .ok (.iload_n 1, 1) := by decide +kernel
theorem dX9_isMember_5 : decode cX9_isMember 5 = .ok (.aload_n 0, 1) := by decide +kernel
theorem dX9_isMember_6 : decode cX9_isMember 6 = .ok (.getfield 102, 3) := by decide +kernel
theorem dX9_isMember_9 : decode cX9_isMember 9 = .ok (.if_icmp .ge 7, 3) := by decide +kernel
theorem dX9_isMember_12 : decode cX9_isMember 12 = .ok (.iconst 1, 1) := by decide +kernel
theorem dX9_isMember_13 : decode cX9_isMember 13 = .ok (.goto 4, 3) := by decide +kernel
theorem dX9_isMember_16 : decode cX9_isMember 16 = .ok (.iconst 0, 1) := by decide +kernel
theorem dX9_isMember_17 : decode cX9_isMember 17 = .ok (.ireturn, 1) := by decide +kernel
theorem dX9_isSort_0 : decode cX9_isSort 0 = .ok (.iload_n 0, 1) := by decide +kernel
theorem dX9_isSort_1 : decode cX9_isSort 1 = .ok (.iconst 0, 1) := by decide +kernel
theorem dX9_isSort_2 : decode cX9_isSort 2 = .ok (.iconst 2, 1) := by decide +kernel
theorem dX9_isSort_3 : decode cX9_isSort 3 = .ok (.invokestatic 105, 3) := by decide +kernel
theorem dX9_isSort_6 : decode cX9_isSort 6 = .ok (.ireturn, 1) := by decide +kernel
theorem dX9_isGuest_0 : decode cX9_isGuest 0 = .ok (.aload_n 0, 1) := by decide +kernel
theorem dX9_isGuest_1 : decode cX9_isGuest 1 = .ok (.getfield 7, 3) := by decide +kernel
theorem dX9_isGuest_4 : decode cX9_isGuest 4 = .ok (.iload_n 1, 1) := by decide +kernel
theorem dX9_isGuest_5 : decode cX9_isGuest 5 = .ok (.iaload, 1) := by decide +kernel
theorem dX9_isGuest_6 : decode cX9_isGuest 6 = .ok (.iconst 1, 1) := by decide +kernel
theorem dX9_isGuest_7 : decode cX9_isGuest 7 = .ok (.if_icmp .eq 13, 3) := by decide +kernel
theorem dX9_isGuest_10 : decode cX9_isGuest 10 = .ok (.aload_n 0, 1) := by decide +kernel
theorem dX9_isGuest_11 : decode cX9_isGuest 11 = .ok (.getfield 7, 3) := by decide +kernel
theorem dX9_isGuest_14 : decode cX9_isGuest 14 = .ok (.iload_n 1, 1) := by decide +kernel
theorem dX9_isGuest_15 : decode cX9_isGuest 15 = .ok (.iaload, 1) := by decide +kernel
theorem dX9_isGuest_16 : decode cX9_isGuest 16 = .ok (.iconst 3, 1) := by decide +kernel
theorem dX9_isGuest_17 : decode cX9_isGuest 17 = .ok (.if_icmp .ne 7, 3) := by decide +kernel
theorem dX9_isGuest_20 : decode cX9_isGuest 20 = .ok (.iconst 1, 1) := by decide +kernel
theorem dX9_isGuest_21 : decode cX9_isGuest 21 = .ok (.goto 4, 3) := by decide +kernel
theorem dX9_isGuest_24 : decode cX9_isGuest 24 = .ok (.iconst 0, 1) := by decide +kernel
theorem dX9_isGuest_25 : decode cX9_isGuest 25 = .ok (.ireturn, 1) := by decide +kernel
theorem dX9_member_0 : decode cX9_member 0 = .ok (.iload_n 1, 1) := by decide +kernel
theorem dX9_member_1 : decode cX9_member 1 = .ok (.iconst 0, 1) := by decide +kernel
theorem dX9_member_2 : decode cX9_member 2 = .ok (.iconst 3, 1) := by decide +kernel
theorem dX9_member_3 : decode cX9_member 3 = .ok (.invokestatic 105, 3) := by decide +kernel
theorem dX9_member_6 : decode cX9_member 6 = .ok (.ifCond .eq 12, 3) := by decide +kernel
theorem dX9_member_9 : decode cX9_member 9 = .ok (.iload_n 2, 1) := by decide +kernel
theorem dX9_member_10 : decode cX9_member 10 = .ok (.iconst 0, 1) := by decide +kernel
theorem dX9_member_11 : decode cX9_member 11 = .ok (.iconst 4, 1) := by decide +kernel
theorem dX9_member_12 : decode cX9_member 12 = .ok (.invokestatic 105, 3) := by decide +kernel
theorem dX9_member_15 : decode cX9_member 15 = .ok (.ifCond .ne 10, 3) := by decide +kernel
theorem dX9_member_18 : decode cX9_member 18 = .ok (.aload_n 0, 1) := by decide +kernel
theorem dX9_member_19 : decode cX9_member 19 = .ok (.ldc 109, 2) := by decide +kernel
theorem dX9_member_21 : decode cX9_member 21 = .ok (.invokevirtual 110, 3) := by decide +kernel
theorem dX9_member_24 : decode cX9_member 24 = .ok (.ireturn, 1) := by decide +kernel
theorem dX9_member_25 : decode cX9_member 25 = .ok (.aload_n 0, 1) := by decide +kernel
theorem dX9_member_26 : decode cX9_member 26 = .ok (.getfield 102, 3) := by decide +kernel
theorem dX9_member_29 : decode cX9_member 29 = .ok (.bipush 10, 2) := by decide +kernel
theorem dX9_member_31 : decode cX9_member 31 = .ok (.if_icmp .ne 10, 3) := by decide +kernel
theorem dX9_member_34 : decode cX9_member 34 = .ok (.aload_n 0, 1) := by decide +kernel
theorem dX9_member_35 : decode cX9_member 35 = .ok (.ldc 114, 2) := by decide +kernel
theorem dX9_member_37 : decode cX9_member 37 = .ok (.invokevirtual 110, 3) := by decide +kernel
theorem dX9_member_40 : decode cX9_member 40 = .ok (.ireturn, 1) := by decide +kernel
theorem dX9_member_41 : decode cX9_member 41 = .ok (.aload_n 0, 1) := by decide +kernel
theorem dX9_member_42 : decode cX9_member 42 = .ok (.getfield 7, 3) := by decide +kernel
theorem dX9_member_45 : decode cX9_member 45 = .ok (.aload_n 0, 1) := by decide +kernel
theorem dX9_member_46 : decode cX9_member 46 = .ok (.getfield 102, 3) := by decide +kernel
theorem dX9_member_49 : decode cX9_member 49 = .ok (.iload_n 1, 1) := by decide +kernel
theorem dX9_member_50 : decode cX9_member 50 = .ok (.iastore, 1) := by decide +kernel
theorem dX9_member_51 : decode cX9_member 51 = .ok (.aload_n 0, 1) := by decide +kernel
theorem dX9_member_52 : decode cX9_member 52 = .ok (.getfield 13, 3) := by decide +kernel
theorem dX9_member_55 : decode cX9_member 55 = .ok (.aload_n 0, 1) := by decide +kernel
theorem dX9_member_56 : decode cX9_member 56 = .ok (.getfield 102, 3) := by decide +kernel
theorem dX9_member_59 : decode cX9_member 59 = .ok (.iload_n 2, 1) := by decide +kernel
theorem dX9_member_60 : decode cX9_member 60 = .ok (.iastore, 1) := by decide +kernel
theorem dX9_member_61 : decode cX9_member 61 = .ok (.aload_n 0, 1) := by decide +kernel
theorem dX9_member_62 : decode cX9_member 62 = .ok (.getfield 16, 3) := by decide +kernel
theorem dX9_member_65 : decode cX9_member 65 = .ok (.aload_n 0, 1) := by decide +kernel
theorem dX9_member_66 : decode cX9_member 66 = .ok (.getfield 102, 3) := by decide +kernel
theorem dX9_member_69 : decode cX9_member 69 = .ok (.iconst 1, 1) := by decide +kernel
theorem dX9_member_70 : decode cX9_member 70 = .ok (.bastore, 1) := by decide +kernel
theorem dX9_member_71 : decode cX9_member 71 = .ok (.aload_n 0, 1) := by decide +kernel
theorem dX9_member_72 : decode cX9_member 72 = .ok (.dup, 1) := by decide +kernel
theorem dX9_member_73 : decode cX9_member 73 = .ok (.getfield 102, 3) := by decide +kernel
theorem dX9_member_76 : decode cX9_member 76 = .ok (.iconst 1, 1) := by decide +kernel
theorem dX9_member_77 : decode cX9_member 77 = .ok (.iadd, 1) := by decide +kernel
theorem dX9_member_78 : decode cX9_member 78 = .ok (.putfield 102, 3) := by decide +kernel
theorem dX9_member_81 : decode cX9_member 81 = .ok (.aload_n 0, 1) := by decide +kernel
theorem dX9_member_82 : decode cX9_member 82 = .ok (.getfield 102, 3) := by decide +kernel
theorem dX9_member_85 : decode cX9_member 85 = .ok (.iconst 1, 1) := by decide +kernel
theorem dX9_member_86 : decode cX9_member 86 = .ok (.isub, 1) := by decide +kernel
theorem dX9_member_87 : decode cX9_member 87 = .ok (.ireturn, 1) := by decide +kernel
theorem dX9_as_0 : decode cX9_as 0 = .ok (.aload_n 0, 1) := by decide +kernel
theorem dX9_as_1 : decode cX9_as 1 = .ok (.iload_n 1, 1) := by decide +kernel
theorem dX9_as_2 : decode cX9_as 2 = .ok (.invokevirtual 115, 3) := by decide +kernel
theorem dX9_as_5 : decode cX9_as 5 = .ok (.ifCond .eq 12, 3) := by decide +kernel
theorem dX9_as_8 : decode cX9_as 8 = .ok (.iload_n 2, 1) := by decide +kernel
theorem dX9_as_9 : decode cX9_as 9 = .ok (.iconst 0, 1) := by decide +kernel
theorem dX9_as_10 : decode cX9_as 10 = .ok (.iconst 3, 1) := by decide +kernel
theorem dX9_as_11 : decode cX9_as 11 = .ok (.invokestatic 105, 3) := by decide +kernel
theorem dX9_as_14 : decode cX9_as 14 = .ok (.ifCond .ne 10, 3) := by decide +kernel
theorem dX9_as_17 : decode cX9_as 17 = .ok (.aload_n 0, 1) := by decide +kernel
theorem dX9_as_18 : decode cX9_as 18 = .ok (.ldc 109, 2) := by decide +kernel
theorem dX9_as_20 : decode cX9_as 20 = .ok (.invokevirtual 110, 3) := by decide +kernel
theorem dX9_as_23 : decode cX9_as 23 = .ok (.ireturn, 1) := by decide +kernel
theorem dX9_as_24 : decode cX9_as 24 = .ok (.iload_n 2, 1) := by decide +kernel
theorem dX9_as_25 : decode cX9_as 25 = .ok (.ifCond .eq 26, 3) := by decide +kernel
theorem dX9_as_28 : decode cX9_as 28 = .ok (.iload_n 2, 1) := by decide +kernel
theorem dX9_as_29 : decode cX9_as 29 = .ok (.aload_n 0, 1) := by decide +kernel
theorem dX9_as_30 : decode cX9_as 30 = .ok (.getfield 7, 3) := by decide +kernel
theorem dX9_as_33 : decode cX9_as 33 = .ok (.iload_n 1, 1) := by decide +kernel
theorem dX9_as_34 : decode cX9_as 34 = .ok (.iaload, 1) := by decide +kernel
theorem dX9_as_35 : decode cX9_as 35 = .ok (.if_icmp .eq 16, 3) := by decide +kernel
theorem dX9_as_38 : decode cX9_as 38 = .ok (.iload_n 2, 1) := by decide +kernel
theorem dX9_as_39 : decode cX9_as 39 = .ok (.iconst 1, 1) := by decide +kernel
theorem dX9_as_40 : decode cX9_as 40 = .ok (.if_icmp .ne 15, 3) := by decide +kernel
theorem dX9_as_43 : decode cX9_as 43 = .ok (.aload_n 0, 1) := by decide +kernel
theorem dX9_as_44 : decode cX9_as 44 = .ok (.iload_n 1, 1) := by decide +kernel
theorem dX9_as_45 : decode cX9_as 45 = .ok (.invokevirtual 119, 3) := by decide +kernel
theorem dX9_as_48 : decode cX9_as 48 = .ok (.ifCond .eq 7, 3) := by decide +kernel
theorem dX9_as_51 : decode cX9_as 51 = .ok (.iload_n 1, 1) := by decide +kernel
theorem dX9_as_52 : decode cX9_as 52 = .ok (.goto 9, 3) := by decide +kernel
theorem dX9_as_55 : decode cX9_as 55 = .ok (.aload_n 0, 1) := by decide +kernel
theorem dX9_as_56 : decode cX9_as 56 = .ok (.ldc 122, 2) := by decide +kernel
theorem dX9_as_58 : decode cX9_as 58 = .ok (.invokevirtual 110, 3) := by decide +kernel
theorem dX9_as_61 : decode cX9_as 61 = .ok (.ireturn, 1) := by decide +kernel
theorem dX9_present_0 : decode cX9_present 0 = .ok (.aload_n 0, 1) := by decide +kernel
theorem dX9_present_1 : decode cX9_present 1 = .ok (.iload_n 1, 1) := by decide +kernel
theorem dX9_present_2 : decode cX9_present 2 = .ok (.invokevirtual 115, 3) := by decide +kernel
theorem dX9_present_5 : decode cX9_present 5 = .ok (.ifCond .ne 10, 3) := by decide +kernel
theorem dX9_present_8 : decode cX9_present 8 = .ok (.aload_n 0, 1) := by decide +kernel
theorem dX9_present_9 : decode cX9_present 9 = .ok (.ldc 109, 2) := by decide +kernel
theorem dX9_present_11 : decode cX9_present 11 = .ok (.invokevirtual 110, 3) := by decide +kernel
theorem dX9_present_14 : decode cX9_present 14 = .ok (.ireturn, 1) := by decide +kernel
theorem dX9_present_15 : decode cX9_present 15 = .ok (.aload_n 0, 1) := by decide +kernel
theorem dX9_present_16 : decode cX9_present 16 = .ok (.getfield 16, 3) := by decide +kernel
theorem dX9_present_19 : decode cX9_present 19 = .ok (.iload_n 1, 1) := by decide +kernel
theorem dX9_present_20 : decode cX9_present 20 = .ok (.baload, 1) := by decide +kernel
theorem dX9_present_21 : decode cX9_present 21 = .ok (.istore_n 3, 1) := by decide +kernel
theorem dX9_present_22 : decode cX9_present 22 = .ok (.aload_n 0, 1) := by decide +kernel
theorem dX9_present_23 : decode cX9_present 23 = .ok (.getfield 16, 3) := by decide +kernel
theorem dX9_present_26 : decode cX9_present 26 = .ok (.iload_n 1, 1) := by decide +kernel
theorem dX9_present_27 : decode cX9_present 27 = .ok (.iload_n 2, 1) := by decide +kernel
theorem dX9_present_28 : decode cX9_present 28 = .ok (.bastore, 1) := by decide +kernel
theorem dX9_present_29 : decode cX9_present 29 = .ok (.iload_n 3, 1) := by decide +kernel
theorem dX9_present_30 : decode cX9_present 30 = .ok (.iload_n 2, 1) := by decide +kernel
theorem dX9_present_31 : decode cX9_present 31 = .ok (.if_icmp .ne 7, 3) := by decide +kernel
theorem dX9_present_34 : decode cX9_present 34 = .ok (.iconst 0, 1) := by decide +kernel
theorem dX9_present_35 : decode cX9_present 35 = .ok (.goto 4, 3) := by decide +kernel
theorem dX9_present_38 : decode cX9_present 38 = .ok (.iconst 1, 1) := by decide +kernel
theorem dX9_present_39 : decode cX9_present 39 = .ok (.ireturn, 1) := by decide +kernel
theorem dX9_of_0 : decode cX9_of 0 = .ok (.aload_n 0, 1) := by decide +kernel
theorem dX9_of_1 : decode cX9_of 1 = .ok (.iload_n 1, 1) := by decide +kernel
theorem dX9_of_2 : decode cX9_of 2 = .ok (.invokevirtual 115, 3) := by decide +kernel
theorem dX9_of_5 : decode cX9_of 5 = .ok (.ifCond .eq 12, 3) := by decide +kernel
theorem dX9_of_8 : decode cX9_of 8 = .ok (.iload_n 2, 1) := by decide +kernel
theorem dX9_of_9 : decode cX9_of 9 = .ok (.iconst 0, 1) := by decide +kernel
theorem dX9_of_10 : decode cX9_of 10 = .ok (.iconst 4, 1) := by decide +kernel
theorem dX9_of_11 : decode cX9_of 11 = .ok (.invokestatic 105, 3) := by decide +kernel
theorem dX9_of_14 : decode cX9_of 14 = .ok (.ifCond .ne 10, 3) := by decide +kernel
theorem dX9_of_17 : decode cX9_of 17 = .ok (.aload_n 0, 1) := by decide +kernel
theorem dX9_of_18 : decode cX9_of 18 = .ok (.ldc 109, 2) := by decide +kernel
theorem dX9_of_20 : decode cX9_of 20 = .ok (.invokevirtual 110, 3) := by decide +kernel
theorem dX9_of_23 : decode cX9_of 23 = .ok (.ireturn, 1) := by decide +kernel
theorem dX9_of_24 : decode cX9_of 24 = .ok (.iload_n 2, 1) := by decide +kernel
theorem dX9_of_25 : decode cX9_of 25 = .ok (.ifCond .ne 12, 3) := by decide +kernel
theorem dX9_of_28 : decode cX9_of 28 = .ok (.aload_n 0, 1) := by decide +kernel
theorem dX9_of_29 : decode cX9_of 29 = .ok (.getfield 7, 3) := by decide +kernel
theorem dX9_of_32 : decode cX9_of 32 = .ok (.iload_n 1, 1) := by decide +kernel
theorem dX9_of_33 : decode cX9_of 33 = .ok (.iaload, 1) := by decide +kernel
theorem dX9_of_34 : decode cX9_of 34 = .ok (.goto 59, 3) := by decide +kernel
theorem dX9_of_37 : decode cX9_of 37 = .ok (.iload_n 2, 1) := by decide +kernel
theorem dX9_of_38 : decode cX9_of 38 = .ok (.iconst 1, 1) := by decide +kernel
theorem dX9_of_39 : decode cX9_of 39 = .ok (.if_icmp .ne 12, 3) := by decide +kernel
theorem dX9_of_42 : decode cX9_of 42 = .ok (.aload_n 0, 1) := by decide +kernel
theorem dX9_of_43 : decode cX9_of 43 = .ok (.getfield 13, 3) := by decide +kernel
theorem dX9_of_46 : decode cX9_of 46 = .ok (.iload_n 1, 1) := by decide +kernel
theorem dX9_of_47 : decode cX9_of 47 = .ok (.iaload, 1) := by decide +kernel
theorem dX9_of_48 : decode cX9_of 48 = .ok (.goto 45, 3) := by decide +kernel
theorem dX9_of_51 : decode cX9_of 51 = .ok (.iload_n 2, 1) := by decide +kernel
theorem dX9_of_52 : decode cX9_of 52 = .ok (.iconst 2, 1) := by decide +kernel
theorem dX9_of_53 : decode cX9_of 53 = .ok (.if_icmp .ne 20, 3) := by decide +kernel
theorem dX9_of_56 : decode cX9_of 56 = .ok (.aload_n 0, 1) := by decide +kernel
theorem dX9_of_57 : decode cX9_of 57 = .ok (.getfield 16, 3) := by decide +kernel
theorem dX9_of_60 : decode cX9_of 60 = .ok (.iload_n 1, 1) := by decide +kernel
theorem dX9_of_61 : decode cX9_of 61 = .ok (.baload, 1) := by decide +kernel
theorem dX9_of_62 : decode cX9_of 62 = .ok (.ifCond .eq 7, 3) := by decide +kernel
theorem dX9_of_65 : decode cX9_of 65 = .ok (.iconst 1, 1) := by decide +kernel
theorem dX9_of_66 : decode cX9_of 66 = .ok (.goto 27, 3) := by decide +kernel
theorem dX9_of_69 : decode cX9_of 69 = .ok (.iconst 0, 1) := by decide +kernel
theorem dX9_of_70 : decode cX9_of 70 = .ok (.goto 23, 3) := by decide +kernel
theorem dX9_of_73 : decode cX9_of 73 = .ok (.iload_n 2, 1) := by decide +kernel
theorem dX9_of_74 : decode cX9_of 74 = .ok (.iconst 3, 1) := by decide +kernel
theorem dX9_of_75 : decode cX9_of 75 = .ok (.if_icmp .ne 12, 3) := by decide +kernel
theorem dX9_of_78 : decode cX9_of 78 = .ok (.aload_n 0, 1) := by decide +kernel
theorem dX9_of_79 : decode cX9_of 79 = .ok (.getfield 20, 3) := by decide +kernel
theorem dX9_of_82 : decode cX9_of 82 = .ok (.iload_n 1, 1) := by decide +kernel
theorem dX9_of_83 : decode cX9_of 83 = .ok (.iaload, 1) := by decide +kernel
theorem dX9_of_84 : decode cX9_of 84 = .ok (.goto 9, 3) := by decide +kernel
theorem dX9_of_87 : decode cX9_of 87 = .ok (.aload_n 0, 1) := by decide +kernel
theorem dX9_of_88 : decode cX9_of 88 = .ok (.getfield 23, 3) := by decide +kernel
theorem dX9_of_91 : decode cX9_of 91 = .ok (.iload_n 1, 1) := by decide +kernel
theorem dX9_of_92 : decode cX9_of 92 = .ok (.iaload, 1) := by decide +kernel
theorem dX9_of_93 : decode cX9_of 93 = .ok (.ireturn, 1) := by decide +kernel
theorem dX9_timeOf_0 : decode cX9_timeOf 0 = .ok (.iconst 0, 1) := by decide +kernel
theorem dX9_timeOf_1 : decode cX9_timeOf 1 = .ok (.istore_n 2, 1) := by decide +kernel
theorem dX9_timeOf_2 : decode cX9_timeOf 2 = .ok (.iconst 0, 1) := by decide +kernel
theorem dX9_timeOf_3 : decode cX9_timeOf 3 = .ok (.istore_n 3, 1) := by decide +kernel
theorem dX9_timeOf_4 : decode cX9_timeOf 4 = .ok (.iload_n 3, 1) := by decide +kernel
theorem dX9_timeOf_5 : decode cX9_timeOf 5 = .ok (.aload_n 0, 1) := by decide +kernel
theorem dX9_timeOf_6 : decode cX9_timeOf 6 = .ok (.getfield 102, 3) := by decide +kernel
theorem dX9_timeOf_9 : decode cX9_timeOf 9 = .ok (.if_icmp .ge 32, 3) := by decide +kernel
theorem dX9_timeOf_12 : decode cX9_timeOf 12 = .ok (.iload_n 2, 1) := by decide +kernel
theorem dX9_timeOf_13 : decode cX9_timeOf 13 = .ok (.aload_n 0, 1) := by decide +kernel
theorem dX9_timeOf_14 : decode cX9_timeOf 14 = .ok (.getfield 13, 3) := by decide +kernel
theorem dX9_timeOf_17 : decode cX9_timeOf 17 = .ok (.iload_n 3, 1) := by decide +kernel
theorem dX9_timeOf_18 : decode cX9_timeOf 18 = .ok (.iaload, 1) := by decide +kernel
theorem dX9_timeOf_19 : decode cX9_timeOf 19 = .ok (.iload_n 1, 1) := by decide +kernel
theorem dX9_timeOf_20 : decode cX9_timeOf 20 = .ok (.if_icmp .ne 12, 3) := by decide +kernel
theorem dX9_timeOf_23 : decode cX9_timeOf 23 = .ok (.aload_n 0, 1) := by decide +kernel
theorem dX9_timeOf_24 : decode cX9_timeOf 24 = .ok (.getfield 20, 3) := by decide +kernel
theorem dX9_timeOf_27 : decode cX9_timeOf 27 = .ok (.iload_n 3, 1) := by decide +kernel
theorem dX9_timeOf_28 : decode cX9_timeOf 28 = .ok (.iaload, 1) := by decide +kernel
theorem dX9_timeOf_29 : decode cX9_timeOf 29 = .ok (.goto 4, 3) := by decide +kernel
theorem dX9_timeOf_32 : decode cX9_timeOf 32 = .ok (.iconst 0, 1) := by decide +kernel
theorem dX9_timeOf_33 : decode cX9_timeOf 33 = .ok (.iadd, 1) := by decide +kernel
theorem dX9_timeOf_34 : decode cX9_timeOf 34 = .ok (.istore_n 2, 1) := by decide +kernel
theorem dX9_timeOf_35 : decode cX9_timeOf 35 = .ok (.iinc 3 1, 3) := by decide +kernel
theorem dX9_timeOf_38 : decode cX9_timeOf 38 = .ok (.goto (-34), 3) := by decide +kernel
theorem dX9_timeOf_41 : decode cX9_timeOf 41 = .ok (.iload_n 2, 1) := by decide +kernel
theorem dX9_timeOf_42 : decode cX9_timeOf 42 = .ok (.ireturn, 1) := by decide +kernel
theorem dX9_time_0 : decode cX9_time 0 = .ok (.iload_n 1, 1) := by decide +kernel
theorem dX9_time_1 : decode cX9_time 1 = .ok (.iconst 0, 1) := by decide +kernel
theorem dX9_time_2 : decode cX9_time 2 = .ok (.iconst 4, 1) := by decide +kernel
theorem dX9_time_3 : decode cX9_time 3 = .ok (.invokestatic 105, 3) := by decide +kernel
theorem dX9_time_6 : decode cX9_time 6 = .ok (.ifCond .eq 11, 3) := by decide +kernel
theorem dX9_time_9 : decode cX9_time 9 = .ok (.aload_n 0, 1) := by decide +kernel
theorem dX9_time_10 : decode cX9_time 10 = .ok (.iload_n 1, 1) := by decide +kernel
theorem dX9_time_11 : decode cX9_time 11 = .ok (.invokevirtual 123, 3) := by decide +kernel
theorem dX9_time_14 : decode cX9_time 14 = .ok (.goto 9, 3) := by decide +kernel
theorem dX9_time_17 : decode cX9_time 17 = .ok (.aload_n 0, 1) := by decide +kernel
theorem dX9_time_18 : decode cX9_time 18 = .ok (.ldc 109, 2) := by decide +kernel
theorem dX9_time_20 : decode cX9_time 20 = .ok (.invokevirtual 110, 3) := by decide +kernel
theorem dX9_time_23 : decode cX9_time 23 = .ok (.ireturn, 1) := by decide +kernel
theorem dX9_askingOf_0 : decode cX9_askingOf 0 = .ok (.iconst (-1), 1) := by decide +kernel
theorem dX9_askingOf_1 : decode cX9_askingOf 1 = .ok (.istore_n 3, 1) := by decide +kernel
theorem dX9_askingOf_2 : decode cX9_askingOf 2 = .ok (.iconst 0, 1) := by decide +kernel
theorem dX9_askingOf_3 : decode cX9_askingOf 3 = .ok (.istore 4, 2) := by decide +kernel
theorem dX9_askingOf_5 : decode cX9_askingOf 5 = .ok (.iload 4, 2) := by decide +kernel
theorem dX9_askingOf_7 : decode cX9_askingOf 7 = .ok (.aload_n 0, 1) := by decide +kernel
theorem dX9_askingOf_8 : decode cX9_askingOf 8 = .ok (.getfield 126, 3) := by decide +kernel
theorem dX9_askingOf_11 : decode cX9_askingOf 11 = .ok (.if_icmp .ge 38, 3) := by decide +kernel
theorem dX9_askingOf_14 : decode cX9_askingOf 14 = .ok (.aload_n 0, 1) := by decide +kernel
theorem dX9_askingOf_15 : decode cX9_askingOf 15 = .ok (.getfield 26, 3) := by decide +kernel
theorem dX9_askingOf_18 : decode cX9_askingOf 18 = .ok (.iload 4, 2) := by decide +kernel
theorem dX9_askingOf_20 : decode cX9_askingOf 20 = .ok (.iaload, 1) := by decide +kernel
theorem dX9_askingOf_21 : decode cX9_askingOf 21 = .ok (.iload_n 1, 1) := by decide +kernel
theorem dX9_askingOf_22 : decode cX9_askingOf 22 = .ok (.if_icmp .ne 19, 3) := by decide +kernel
theorem dX9_askingOf_25 : decode cX9_askingOf 25 = .ok (.aload_n 0, 1) := by decide +kernel
theorem dX9_askingOf_26 : decode cX9_askingOf 26 = .ok (.getfield 29, 3) := by decide +kernel
theorem dX9_askingOf_29 : decode cX9_askingOf 29 = .ok (.iload 4, 2) := by decide +kernel
theorem dX9_askingOf_31 : decode cX9_askingOf 31 = .ok (.iaload, 1) := by decide +kernel
theorem dX9_askingOf_32 : decode cX9_askingOf 32 = .ok (.iload_n 2, 1) := by decide +kernel
theorem dX9_askingOf_33 : decode cX9_askingOf 33 = .ok (.if_icmp .ne 8, 3) := by decide +kernel
theorem dX9_askingOf_36 : decode cX9_askingOf 36 = .ok (.iload 4, 2) := by decide +kernel
theorem dX9_askingOf_38 : decode cX9_askingOf 38 = .ok (.goto 4, 3) := by decide +kernel
theorem dX9_askingOf_41 : decode cX9_askingOf 41 = .ok (.iload_n 3, 1) := by decide +kernel
theorem dX9_askingOf_42 : decode cX9_askingOf 42 = .ok (.istore_n 3, 1) := by decide +kernel
theorem dX9_askingOf_43 : decode cX9_askingOf 43 = .ok (.iinc 4 1, 3) := by decide +kernel
theorem dX9_askingOf_46 : decode cX9_askingOf 46 = .ok (.goto (-41), 3) := by decide +kernel
theorem dX9_askingOf_49 : decode cX9_askingOf 49 = .ok (.iload_n 3, 1) := by decide +kernel
theorem dX9_askingOf_50 : decode cX9_askingOf 50 = .ok (.ireturn, 1) := by decide +kernel
theorem dX9_comes_0 : decode cX9_comes 0 = .ok (.aload_n 0, 1) := by decide +kernel
theorem dX9_comes_1 : decode cX9_comes 1 = .ok (.getfield 26, 3) := by decide +kernel
theorem dX9_comes_4 : decode cX9_comes 4 = .ok (.aload_n 0, 1) := by decide +kernel
theorem dX9_comes_5 : decode cX9_comes 5 = .ok (.getfield 126, 3) := by decide +kernel
theorem dX9_comes_8 : decode cX9_comes 8 = .ok (.iload_n 1, 1) := by decide +kernel
theorem dX9_comes_9 : decode cX9_comes 9 = .ok (.iastore, 1) := by decide +kernel
theorem dX9_comes_10 : decode cX9_comes 10 = .ok (.aload_n 0, 1) := by decide +kernel
theorem dX9_comes_11 : decode cX9_comes 11 = .ok (.getfield 29, 3) := by decide +kernel
theorem dX9_comes_14 : decode cX9_comes 14 = .ok (.aload_n 0, 1) := by decide +kernel
theorem dX9_comes_15 : decode cX9_comes 15 = .ok (.getfield 126, 3) := by decide +kernel
theorem dX9_comes_18 : decode cX9_comes 18 = .ok (.iload_n 2, 1) := by decide +kernel
theorem dX9_comes_19 : decode cX9_comes 19 = .ok (.iastore, 1) := by decide +kernel
theorem dX9_comes_20 : decode cX9_comes 20 = .ok (.aload_n 0, 1) := by decide +kernel
theorem dX9_comes_21 : decode cX9_comes 21 = .ok (.dup, 1) := by decide +kernel
theorem dX9_comes_22 : decode cX9_comes 22 = .ok (.getfield 126, 3) := by decide +kernel
theorem dX9_comes_25 : decode cX9_comes 25 = .ok (.iconst 1, 1) := by decide +kernel
theorem dX9_comes_26 : decode cX9_comes 26 = .ok (.iadd, 1) := by decide +kernel
theorem dX9_comes_27 : decode cX9_comes 27 = .ok (.putfield 126, 3) := by decide +kernel
theorem dX9_comes_30 : decode cX9_comes 30 = .ok (.return_, 1) := by decide +kernel
theorem dX9_goes_0 : decode cX9_goes 0 = .ok (.aload_n 0, 1) := by decide +kernel
theorem dX9_goes_1 : decode cX9_goes 1 = .ok (.dup, 1) := by decide +kernel
theorem dX9_goes_2 : decode cX9_goes 2 = .ok (.getfield 126, 3) := by decide +kernel
theorem dX9_goes_5 : decode cX9_goes 5 = .ok (.iconst 1, 1) := by decide +kernel
theorem dX9_goes_6 : decode cX9_goes 6 = .ok (.isub, 1) := by decide +kernel
theorem dX9_goes_7 : decode cX9_goes 7 = .ok (.putfield 126, 3) := by decide +kernel
theorem dX9_goes_10 : decode cX9_goes 10 = .ok (.iload_n 1, 1) := by decide +kernel
theorem dX9_goes_11 : decode cX9_goes 11 = .ok (.istore_n 2, 1) := by decide +kernel
theorem dX9_goes_12 : decode cX9_goes 12 = .ok (.iload_n 2, 1) := by decide +kernel
theorem dX9_goes_13 : decode cX9_goes 13 = .ok (.aload_n 0, 1) := by decide +kernel
theorem dX9_goes_14 : decode cX9_goes 14 = .ok (.getfield 126, 3) := by decide +kernel
theorem dX9_goes_17 : decode cX9_goes 17 = .ok (.if_icmp .ge 37, 3) := by decide +kernel
theorem dX9_goes_20 : decode cX9_goes 20 = .ok (.aload_n 0, 1) := by decide +kernel
theorem dX9_goes_21 : decode cX9_goes 21 = .ok (.getfield 26, 3) := by decide +kernel
theorem dX9_goes_24 : decode cX9_goes 24 = .ok (.iload_n 2, 1) := by decide +kernel
theorem dX9_goes_25 : decode cX9_goes 25 = .ok (.aload_n 0, 1) := by decide +kernel
theorem dX9_goes_26 : decode cX9_goes 26 = .ok (.getfield 26, 3) := by decide +kernel
theorem dX9_goes_29 : decode cX9_goes 29 = .ok (.iload_n 2, 1) := by decide +kernel
theorem dX9_goes_30 : decode cX9_goes 30 = .ok (.iconst 1, 1) := by decide +kernel
theorem dX9_goes_31 : decode cX9_goes 31 = .ok (.iadd, 1) := by decide +kernel
theorem dX9_goes_32 : decode cX9_goes 32 = .ok (.iaload, 1) := by decide +kernel
theorem dX9_goes_33 : decode cX9_goes 33 = .ok (.iastore, 1) := by decide +kernel
theorem dX9_goes_34 : decode cX9_goes 34 = .ok (.aload_n 0, 1) := by decide +kernel
theorem dX9_goes_35 : decode cX9_goes 35 = .ok (.getfield 29, 3) := by decide +kernel
theorem dX9_goes_38 : decode cX9_goes 38 = .ok (.iload_n 2, 1) := by decide +kernel
theorem dX9_goes_39 : decode cX9_goes 39 = .ok (.aload_n 0, 1) := by decide +kernel
theorem dX9_goes_40 : decode cX9_goes 40 = .ok (.getfield 29, 3) := by decide +kernel
theorem dX9_goes_43 : decode cX9_goes 43 = .ok (.iload_n 2, 1) := by decide +kernel
theorem dX9_goes_44 : decode cX9_goes 44 = .ok (.iconst 1, 1) := by decide +kernel
theorem dX9_goes_45 : decode cX9_goes 45 = .ok (.iadd, 1) := by decide +kernel
theorem dX9_goes_46 : decode cX9_goes 46 = .ok (.iaload, 1) := by decide +kernel
theorem dX9_goes_47 : decode cX9_goes 47 = .ok (.iastore, 1) := by decide +kernel
theorem dX9_goes_48 : decode cX9_goes 48 = .ok (.iinc 2 1, 3) := by decide +kernel
theorem dX9_goes_51 : decode cX9_goes 51 = .ok (.goto (-39), 3) := by decide +kernel
theorem dX9_goes_54 : decode cX9_goes 54 = .ok (.return_, 1) := by decide +kernel
theorem dX9_ask_0 : decode cX9_ask 0 = .ok (.aload_n 0, 1) := by decide +kernel
theorem dX9_ask_1 : decode cX9_ask 1 = .ok (.iload_n 1, 1) := by decide +kernel
theorem dX9_ask_2 : decode cX9_ask 2 = .ok (.invokevirtual 115, 3) := by decide +kernel
theorem dX9_ask_5 : decode cX9_ask 5 = .ok (.ifCond .eq 10, 3) := by decide +kernel
theorem dX9_ask_8 : decode cX9_ask 8 = .ok (.iload_n 2, 1) := by decide +kernel
theorem dX9_ask_9 : decode cX9_ask 9 = .ok (.invokestatic 129, 3) := by decide +kernel
theorem dX9_ask_12 : decode cX9_ask 12 = .ok (.ifCond .ne 10, 3) := by decide +kernel
theorem dX9_ask_15 : decode cX9_ask 15 = .ok (.aload_n 0, 1) := by decide +kernel
theorem dX9_ask_16 : decode cX9_ask 16 = .ok (.ldc 109, 2) := by decide +kernel
theorem dX9_ask_18 : decode cX9_ask 18 = .ok (.invokevirtual 110, 3) := by decide +kernel
theorem dX9_ask_21 : decode cX9_ask 21 = .ok (.ireturn, 1) := by decide +kernel
theorem dX9_ask_22 : decode cX9_ask 22 = .ok (.aload_n 0, 1) := by decide +kernel
theorem dX9_ask_23 : decode cX9_ask 23 = .ok (.iload_n 1, 1) := by decide +kernel
theorem dX9_ask_24 : decode cX9_ask 24 = .ok (.iload_n 2, 1) := by decide +kernel
theorem dX9_ask_25 : decode cX9_ask 25 = .ok (.invokevirtual 132, 3) := by decide +kernel
theorem dX9_ask_28 : decode cX9_ask 28 = .ok (.ifCond .lt 10, 3) := by decide +kernel
theorem dX9_ask_31 : decode cX9_ask 31 = .ok (.aload_n 0, 1) := by decide +kernel
theorem dX9_ask_32 : decode cX9_ask 32 = .ok (.ldc 136, 2) := by decide +kernel
theorem dX9_ask_34 : decode cX9_ask 34 = .ok (.invokevirtual 110, 3) := by decide +kernel
theorem dX9_ask_37 : decode cX9_ask 37 = .ok (.ireturn, 1) := by decide +kernel
theorem dX9_ask_38 : decode cX9_ask 38 = .ok (.aload_n 0, 1) := by decide +kernel
theorem dX9_ask_39 : decode cX9_ask 39 = .ok (.getfield 126, 3) := by decide +kernel
theorem dX9_ask_42 : decode cX9_ask 42 = .ok (.bipush 20, 2) := by decide +kernel
theorem dX9_ask_44 : decode cX9_ask 44 = .ok (.if_icmp .ne 10, 3) := by decide +kernel
theorem dX9_ask_47 : decode cX9_ask 47 = .ok (.aload_n 0, 1) := by decide +kernel
theorem dX9_ask_48 : decode cX9_ask 48 = .ok (.ldc 114, 2) := by decide +kernel
theorem dX9_ask_50 : decode cX9_ask 50 = .ok (.invokevirtual 110, 3) := by decide +kernel
theorem dX9_ask_53 : decode cX9_ask 53 = .ok (.ireturn, 1) := by decide +kernel
theorem dX9_ask_54 : decode cX9_ask 54 = .ok (.aload_n 0, 1) := by decide +kernel
theorem dX9_ask_55 : decode cX9_ask 55 = .ok (.iload_n 1, 1) := by decide +kernel
theorem dX9_ask_56 : decode cX9_ask 56 = .ok (.iload_n 2, 1) := by decide +kernel
theorem dX9_ask_57 : decode cX9_ask 57 = .ok (.invokevirtual 137, 3) := by decide +kernel
theorem dX9_ask_60 : decode cX9_ask 60 = .ok (.aload_n 0, 1) := by decide +kernel
theorem dX9_ask_61 : decode cX9_ask 61 = .ok (.getfield 126, 3) := by decide +kernel
theorem dX9_ask_64 : decode cX9_ask 64 = .ok (.ireturn, 1) := by decide +kernel
theorem dX9_withdraw_0 : decode cX9_withdraw 0 = .ok (.aload_n 0, 1) := by decide +kernel
theorem dX9_withdraw_1 : decode cX9_withdraw 1 = .ok (.iload_n 1, 1) := by decide +kernel
theorem dX9_withdraw_2 : decode cX9_withdraw 2 = .ok (.invokevirtual 115, 3) := by decide +kernel
theorem dX9_withdraw_5 : decode cX9_withdraw 5 = .ok (.ifCond .eq 10, 3) := by decide +kernel
theorem dX9_withdraw_8 : decode cX9_withdraw 8 = .ok (.iload_n 2, 1) := by decide +kernel
theorem dX9_withdraw_9 : decode cX9_withdraw 9 = .ok (.invokestatic 129, 3) := by decide +kernel
theorem dX9_withdraw_12 : decode cX9_withdraw 12 = .ok (.ifCond .ne 10, 3) := by decide +kernel
theorem dX9_withdraw_15 : decode cX9_withdraw 15 = .ok (.aload_n 0, 1) := by decide +kernel
theorem dX9_withdraw_16 : decode cX9_withdraw 16 = .ok (.ldc 109, 2) := by decide +kernel
theorem dX9_withdraw_18 : decode cX9_withdraw 18 = .ok (.invokevirtual 110, 3) := by decide +kernel
theorem dX9_withdraw_21 : decode cX9_withdraw 21 = .ok (.ireturn, 1) := by decide +kernel
theorem dX9_withdraw_22 : decode cX9_withdraw 22 = .ok (.aload_n 0, 1) := by decide +kernel
theorem dX9_withdraw_23 : decode cX9_withdraw 23 = .ok (.iload_n 1, 1) := by decide +kernel
theorem dX9_withdraw_24 : decode cX9_withdraw 24 = .ok (.iload_n 2, 1) := by decide +kernel
theorem dX9_withdraw_25 : decode cX9_withdraw 25 = .ok (.invokevirtual 132, 3) := by decide +kernel
theorem dX9_withdraw_28 : decode cX9_withdraw 28 = .ok (.istore_n 3, 1) := by decide +kernel
theorem dX9_withdraw_29 : decode cX9_withdraw 29 = .ok (.iload_n 3, 1) := by decide +kernel
theorem dX9_withdraw_30 : decode cX9_withdraw 30 = .ok (.ifCond .ge 10, 3) := by decide +kernel
theorem dX9_withdraw_33 : decode cX9_withdraw 33 = .ok (.aload_n 0, 1) := by decide +kernel
theorem dX9_withdraw_34 : decode cX9_withdraw 34 = .ok (.ldc 141, 2) := by decide +kernel
theorem dX9_withdraw_36 : decode cX9_withdraw 36 = .ok (.invokevirtual 110, 3) := by decide +kernel
theorem dX9_withdraw_39 : decode cX9_withdraw 39 = .ok (.ireturn, 1) := by decide +kernel
theorem dX9_withdraw_40 : decode cX9_withdraw 40 = .ok (.aload_n 0, 1) := by decide +kernel
theorem dX9_withdraw_41 : decode cX9_withdraw 41 = .ok (.iload_n 3, 1) := by decide +kernel
theorem dX9_withdraw_42 : decode cX9_withdraw 42 = .ok (.invokevirtual 142, 3) := by decide +kernel
theorem dX9_withdraw_45 : decode cX9_withdraw 45 = .ok (.aload_n 0, 1) := by decide +kernel
theorem dX9_withdraw_46 : decode cX9_withdraw 46 = .ok (.getfield 126, 3) := by decide +kernel
theorem dX9_withdraw_49 : decode cX9_withdraw 49 = .ok (.ireturn, 1) := by decide +kernel
theorem dX9_hasKey_0 : decode cX9_hasKey 0 = .ok (.iconst 0, 1) := by decide +kernel
theorem dX9_hasKey_1 : decode cX9_hasKey 1 = .ok (.istore_n 2, 1) := by decide +kernel
theorem dX9_hasKey_2 : decode cX9_hasKey 2 = .ok (.iconst 0, 1) := by decide +kernel
theorem dX9_hasKey_3 : decode cX9_hasKey 3 = .ok (.istore_n 3, 1) := by decide +kernel
theorem dX9_hasKey_4 : decode cX9_hasKey 4 = .ok (.iload_n 3, 1) := by decide +kernel
theorem dX9_hasKey_5 : decode cX9_hasKey 5 = .ok (.aload_n 0, 1) := by decide +kernel
theorem dX9_hasKey_6 : decode cX9_hasKey 6 = .ok (.getfield 146, 3) := by decide +kernel
theorem dX9_hasKey_9 : decode cX9_hasKey 9 = .ok (.if_icmp .ge 27, 3) := by decide +kernel
theorem dX9_hasKey_12 : decode cX9_hasKey 12 = .ok (.iload_n 2, 1) := by decide +kernel
theorem dX9_hasKey_13 : decode cX9_hasKey 13 = .ok (.aload_n 0, 1) := by decide +kernel
theorem dX9_hasKey_14 : decode cX9_hasKey 14 = .ok (.getfield 32, 3) := by decide +kernel
theorem dX9_hasKey_17 : decode cX9_hasKey 17 = .ok (.iload_n 3, 1) := by decide +kernel
theorem dX9_hasKey_18 : decode cX9_hasKey 18 = .ok (.iaload, 1) := by decide +kernel
theorem dX9_hasKey_19 : decode cX9_hasKey 19 = .ok (.iload_n 1, 1) := by decide +kernel
theorem dX9_hasKey_20 : decode cX9_hasKey 20 = .ok (.if_icmp .ne 7, 3) := by decide +kernel
theorem dX9_hasKey_23 : decode cX9_hasKey 23 = .ok (.iconst 1, 1) := by decide +kernel
theorem dX9_hasKey_24 : decode cX9_hasKey 24 = .ok (.goto 4, 3) := by decide +kernel
theorem dX9_hasKey_27 : decode cX9_hasKey 27 = .ok (.iconst 0, 1) := by decide +kernel
theorem dX9_hasKey_28 : decode cX9_hasKey 28 = .ok (.ior, 1) := by decide +kernel
theorem dX9_hasKey_29 : decode cX9_hasKey 29 = .ok (.istore_n 2, 1) := by decide +kernel
theorem dX9_hasKey_30 : decode cX9_hasKey 30 = .ok (.iinc 3 1, 3) := by decide +kernel
theorem dX9_hasKey_33 : decode cX9_hasKey 33 = .ok (.goto (-29), 3) := by decide +kernel
theorem dX9_hasKey_36 : decode cX9_hasKey 36 = .ok (.iload_n 2, 1) := by decide +kernel
theorem dX9_hasKey_37 : decode cX9_hasKey 37 = .ok (.ireturn, 1) := by decide +kernel
theorem dX9_key_0 : decode cX9_key 0 = .ok (.iload_n 1, 1) := by decide +kernel
theorem dX9_key_1 : decode cX9_key 1 = .ok (.iconst 1, 1) := by decide +kernel
theorem dX9_key_2 : decode cX9_key 2 = .ok (.bipush 9, 2) := by decide +kernel
theorem dX9_key_4 : decode cX9_key 4 = .ok (.invokestatic 105, 3) := by decide +kernel
theorem dX9_key_7 : decode cX9_key 7 = .ok (.ifCond .ne 10, 3) := by decide +kernel
theorem dX9_key_10 : decode cX9_key 10 = .ok (.aload_n 0, 1) := by decide +kernel
theorem dX9_key_11 : decode cX9_key 11 = .ok (.ldc 109, 2) := by decide +kernel
theorem dX9_key_13 : decode cX9_key 13 = .ok (.invokevirtual 110, 3) := by decide +kernel
theorem dX9_key_16 : decode cX9_key 16 = .ok (.ireturn, 1) := by decide +kernel
theorem dX9_key_17 : decode cX9_key 17 = .ok (.aload_n 0, 1) := by decide +kernel
theorem dX9_key_18 : decode cX9_key 18 = .ok (.iload_n 1, 1) := by decide +kernel
theorem dX9_key_19 : decode cX9_key 19 = .ok (.invokevirtual 149, 3) := by decide +kernel
theorem dX9_key_22 : decode cX9_key 22 = .ok (.ifCond .eq 10, 3) := by decide +kernel
theorem dX9_key_25 : decode cX9_key 25 = .ok (.aload_n 0, 1) := by decide +kernel
theorem dX9_key_26 : decode cX9_key 26 = .ok (.ldc 136, 2) := by decide +kernel
theorem dX9_key_28 : decode cX9_key 28 = .ok (.invokevirtual 110, 3) := by decide +kernel
theorem dX9_key_31 : decode cX9_key 31 = .ok (.ireturn, 1) := by decide +kernel
theorem dX9_key_32 : decode cX9_key 32 = .ok (.aload_n 0, 1) := by decide +kernel
theorem dX9_key_33 : decode cX9_key 33 = .ok (.getfield 146, 3) := by decide +kernel
theorem dX9_key_36 : decode cX9_key 36 = .ok (.bipush 6, 2) := by decide +kernel
theorem dX9_key_38 : decode cX9_key 38 = .ok (.if_icmp .ne 10, 3) := by decide +kernel
theorem dX9_key_41 : decode cX9_key 41 = .ok (.aload_n 0, 1) := by decide +kernel
theorem dX9_key_42 : decode cX9_key 42 = .ok (.ldc 114, 2) := by decide +kernel
theorem dX9_key_44 : decode cX9_key 44 = .ok (.invokevirtual 110, 3) := by decide +kernel
theorem dX9_key_47 : decode cX9_key 47 = .ok (.ireturn, 1) := by decide +kernel
theorem dX9_key_48 : decode cX9_key 48 = .ok (.aload_n 0, 1) := by decide +kernel
theorem dX9_key_49 : decode cX9_key 49 = .ok (.getfield 32, 3) := by decide +kernel
theorem dX9_key_52 : decode cX9_key 52 = .ok (.aload_n 0, 1) := by decide +kernel
theorem dX9_key_53 : decode cX9_key 53 = .ok (.getfield 146, 3) := by decide +kernel
theorem dX9_key_56 : decode cX9_key 56 = .ok (.iload_n 1, 1) := by decide +kernel
theorem dX9_key_57 : decode cX9_key 57 = .ok (.iastore, 1) := by decide +kernel
theorem dX9_key_58 : decode cX9_key 58 = .ok (.aload_n 0, 1) := by decide +kernel
theorem dX9_key_59 : decode cX9_key 59 = .ok (.dup, 1) := by decide +kernel
theorem dX9_key_60 : decode cX9_key 60 = .ok (.getfield 146, 3) := by decide +kernel
theorem dX9_key_63 : decode cX9_key 63 = .ok (.iconst 1, 1) := by decide +kernel
theorem dX9_key_64 : decode cX9_key 64 = .ok (.iadd, 1) := by decide +kernel
theorem dX9_key_65 : decode cX9_key 65 = .ok (.putfield 146, 3) := by decide +kernel
theorem dX9_key_68 : decode cX9_key 68 = .ok (.aload_n 0, 1) := by decide +kernel
theorem dX9_key_69 : decode cX9_key 69 = .ok (.getfield 146, 3) := by decide +kernel
theorem dX9_key_72 : decode cX9_key 72 = .ok (.ireturn, 1) := by decide +kernel
theorem dX9_noKeys_0 : decode cX9_noKeys 0 = .ok (.aload_n 0, 1) := by decide +kernel
theorem dX9_noKeys_1 : decode cX9_noKeys 1 = .ok (.getfield 146, 3) := by decide +kernel
theorem dX9_noKeys_4 : decode cX9_noKeys 4 = .ok (.istore_n 1, 1) := by decide +kernel
theorem dX9_noKeys_5 : decode cX9_noKeys 5 = .ok (.aload_n 0, 1) := by decide +kernel
theorem dX9_noKeys_6 : decode cX9_noKeys 6 = .ok (.iconst 0, 1) := by decide +kernel
theorem dX9_noKeys_7 : decode cX9_noKeys 7 = .ok (.putfield 146, 3) := by decide +kernel
theorem dX9_noKeys_10 : decode cX9_noKeys 10 = .ok (.iload_n 1, 1) := by decide +kernel
theorem dX9_noKeys_11 : decode cX9_noKeys 11 = .ok (.ireturn, 1) := by decide +kernel
theorem dX9_rank_0 : decode cX9_rank 0 = .ok (.aload_n 0, 1) := by decide +kernel
theorem dX9_rank_1 : decode cX9_rank 1 = .ok (.getfield 26, 3) := by decide +kernel
theorem dX9_rank_4 : decode cX9_rank 4 = .ok (.iload_n 2, 1) := by decide +kernel
theorem dX9_rank_5 : decode cX9_rank 5 = .ok (.iaload, 1) := by decide +kernel
theorem dX9_rank_6 : decode cX9_rank 6 = .ok (.istore_n 3, 1) := by decide +kernel
theorem dX9_rank_7 : decode cX9_rank 7 = .ok (.iload_n 1, 1) := by decide +kernel
theorem dX9_rank_8 : decode cX9_rank 8 = .ok (.tableswitch 153 1 8 #[48, 64, 80, 95, 102, 109, 120, 139], 48) := by decide +kernel
theorem dX9_rank_56 : decode cX9_rank 56 = .ok (.aload_n 0, 1) := by decide +kernel
theorem dX9_rank_57 : decode cX9_rank 57 = .ok (.getfield 29, 3) := by decide +kernel
theorem dX9_rank_60 : decode cX9_rank 60 = .ok (.iload_n 2, 1) := by decide +kernel
theorem dX9_rank_61 : decode cX9_rank 61 = .ok (.iaload, 1) := by decide +kernel
theorem dX9_rank_62 : decode cX9_rank 62 = .ok (.iconst 2, 1) := by decide +kernel
theorem dX9_rank_63 : decode cX9_rank 63 = .ok (.if_icmp .ne 7, 3) := by decide +kernel
theorem dX9_rank_66 : decode cX9_rank 66 = .ok (.iconst 0, 1) := by decide +kernel
theorem dX9_rank_67 : decode cX9_rank 67 = .ok (.goto 4, 3) := by decide +kernel
theorem dX9_rank_70 : decode cX9_rank 70 = .ok (.iconst 1, 1) := by decide +kernel
theorem dX9_rank_71 : decode cX9_rank 71 = .ok (.ireturn, 1) := by decide +kernel
theorem dX9_rank_72 : decode cX9_rank 72 = .ok (.aload_n 0, 1) := by decide +kernel
theorem dX9_rank_73 : decode cX9_rank 73 = .ok (.getfield 29, 3) := by decide +kernel
theorem dX9_rank_76 : decode cX9_rank 76 = .ok (.iload_n 2, 1) := by decide +kernel
theorem dX9_rank_77 : decode cX9_rank 77 = .ok (.iaload, 1) := by decide +kernel
theorem dX9_rank_78 : decode cX9_rank 78 = .ok (.iconst 1, 1) := by decide +kernel
theorem dX9_rank_79 : decode cX9_rank 79 = .ok (.if_icmp .ne 7, 3) := by decide +kernel
theorem dX9_rank_82 : decode cX9_rank 82 = .ok (.iconst 0, 1) := by decide +kernel
theorem dX9_rank_83 : decode cX9_rank 83 = .ok (.goto 4, 3) := by decide +kernel
theorem dX9_rank_86 : decode cX9_rank 86 = .ok (.iconst 1, 1) := by decide +kernel
theorem dX9_rank_87 : decode cX9_rank 87 = .ok (.ireturn, 1) := by decide +kernel
theorem dX9_rank_88 : decode cX9_rank 88 = .ok (.aload_n 0, 1) := by decide +kernel
theorem dX9_rank_89 : decode cX9_rank 89 = .ok (.getfield 23, 3) := by decide +kernel
theorem dX9_rank_92 : decode cX9_rank 92 = .ok (.iload_n 3, 1) := by decide +kernel
theorem dX9_rank_93 : decode cX9_rank 93 = .ok (.iaload, 1) := by decide +kernel
theorem dX9_rank_94 : decode cX9_rank 94 = .ok (.ifCond .ne 7, 3) := by decide +kernel
theorem dX9_rank_97 : decode cX9_rank 97 = .ok (.iconst 0, 1) := by decide +kernel
theorem dX9_rank_98 : decode cX9_rank 98 = .ok (.goto 4, 3) := by decide +kernel
theorem dX9_rank_101 : decode cX9_rank 101 = .ok (.iconst 1, 1) := by decide +kernel
theorem dX9_rank_102 : decode cX9_rank 102 = .ok (.ireturn, 1) := by decide +kernel
theorem dX9_rank_103 : decode cX9_rank 103 = .ok (.aload_n 0, 1) := by decide +kernel
theorem dX9_rank_104 : decode cX9_rank 104 = .ok (.getfield 23, 3) := by decide +kernel
theorem dX9_rank_107 : decode cX9_rank 107 = .ok (.iload_n 3, 1) := by decide +kernel
theorem dX9_rank_108 : decode cX9_rank 108 = .ok (.iaload, 1) := by decide +kernel
theorem dX9_rank_109 : decode cX9_rank 109 = .ok (.ireturn, 1) := by decide +kernel
theorem dX9_rank_110 : decode cX9_rank 110 = .ok (.aload_n 0, 1) := by decide +kernel
theorem dX9_rank_111 : decode cX9_rank 111 = .ok (.getfield 20, 3) := by decide +kernel
theorem dX9_rank_114 : decode cX9_rank 114 = .ok (.iload_n 3, 1) := by decide +kernel
theorem dX9_rank_115 : decode cX9_rank 115 = .ok (.iaload, 1) := by decide +kernel
theorem dX9_rank_116 : decode cX9_rank 116 = .ok (.ireturn, 1) := by decide +kernel
theorem dX9_rank_117 : decode cX9_rank 117 = .ok (.aload_n 0, 1) := by decide +kernel
theorem dX9_rank_118 : decode cX9_rank 118 = .ok (.aload_n 0, 1) := by decide +kernel
theorem dX9_rank_119 : decode cX9_rank 119 = .ok (.getfield 13, 3) := by decide +kernel
theorem dX9_rank_122 : decode cX9_rank 122 = .ok (.iload_n 3, 1) := by decide +kernel
theorem dX9_rank_123 : decode cX9_rank 123 = .ok (.iaload, 1) := by decide +kernel
theorem dX9_rank_124 : decode cX9_rank 124 = .ok (.invokevirtual 123, 3) := by decide +kernel
theorem dX9_rank_127 : decode cX9_rank 127 = .ok (.ireturn, 1) := by decide +kernel
theorem dX9_rank_128 : decode cX9_rank 128 = .ok (.aload_n 0, 1) := by decide +kernel
theorem dX9_rank_129 : decode cX9_rank 129 = .ok (.getfield 13, 3) := by decide +kernel
theorem dX9_rank_132 : decode cX9_rank 132 = .ok (.iload_n 3, 1) := by decide +kernel
theorem dX9_rank_133 : decode cX9_rank 133 = .ok (.iaload, 1) := by decide +kernel
theorem dX9_rank_134 : decode cX9_rank 134 = .ok (.aload_n 0, 1) := by decide +kernel
theorem dX9_rank_135 : decode cX9_rank 135 = .ok (.getfield 35, 3) := by decide +kernel
theorem dX9_rank_138 : decode cX9_rank 138 = .ok (.if_icmp .ne 7, 3) := by decide +kernel
theorem dX9_rank_141 : decode cX9_rank 141 = .ok (.iconst 1, 1) := by decide +kernel
theorem dX9_rank_142 : decode cX9_rank 142 = .ok (.goto 4, 3) := by decide +kernel
theorem dX9_rank_145 : decode cX9_rank 145 = .ok (.iconst 0, 1) := by decide +kernel
theorem dX9_rank_146 : decode cX9_rank 146 = .ok (.ireturn, 1) := by decide +kernel
theorem dX9_rank_147 : decode cX9_rank 147 = .ok (.aload_n 0, 1) := by decide +kernel
theorem dX9_rank_148 : decode cX9_rank 148 = .ok (.iload_n 3, 1) := by decide +kernel
theorem dX9_rank_149 : decode cX9_rank 149 = .ok (.invokevirtual 119, 3) := by decide +kernel
theorem dX9_rank_152 : decode cX9_rank 152 = .ok (.ifCond .eq 7, 3) := by decide +kernel
theorem dX9_rank_155 : decode cX9_rank 155 = .ok (.iconst 1, 1) := by decide +kernel
theorem dX9_rank_156 : decode cX9_rank 156 = .ok (.goto 4, 3) := by decide +kernel
theorem dX9_rank_159 : decode cX9_rank 159 = .ok (.iconst 0, 1) := by decide +kernel
theorem dX9_rank_160 : decode cX9_rank 160 = .ok (.ireturn, 1) := by decide +kernel
theorem dX9_rank_161 : decode cX9_rank 161 = .ok (.aload_n 0, 1) := by decide +kernel
theorem dX9_rank_162 : decode cX9_rank 162 = .ok (.getfield 7, 3) := by decide +kernel
theorem dX9_rank_165 : decode cX9_rank 165 = .ok (.iload_n 3, 1) := by decide +kernel
theorem dX9_rank_166 : decode cX9_rank 166 = .ok (.iaload, 1) := by decide +kernel
theorem dX9_rank_167 : decode cX9_rank 167 = .ok (.iconst 2, 1) := by decide +kernel
theorem dX9_rank_168 : decode cX9_rank 168 = .ok (.if_icmp .ne 7, 3) := by decide +kernel
theorem dX9_rank_171 : decode cX9_rank 171 = .ok (.iconst 0, 1) := by decide +kernel
theorem dX9_rank_172 : decode cX9_rank 172 = .ok (.goto 4, 3) := by decide +kernel
theorem dX9_rank_175 : decode cX9_rank 175 = .ok (.iconst 1, 1) := by decide +kernel
theorem dX9_rank_176 : decode cX9_rank 176 = .ok (.ireturn, 1) := by decide +kernel
theorem dX9_isAhead_0 : decode cX9_isAhead 0 = .ok (.iconst 0, 1) := by decide +kernel
theorem dX9_isAhead_1 : decode cX9_isAhead 1 = .ok (.istore_n 3, 1) := by decide +kernel
theorem dX9_isAhead_2 : decode cX9_isAhead 2 = .ok (.iload_n 3, 1) := by decide +kernel
theorem dX9_isAhead_3 : decode cX9_isAhead 3 = .ok (.aload_n 0, 1) := by decide +kernel
theorem dX9_isAhead_4 : decode cX9_isAhead 4 = .ok (.getfield 146, 3) := by decide +kernel
theorem dX9_isAhead_7 : decode cX9_isAhead 7 = .ok (.if_icmp .ge 55, 3) := by decide +kernel
theorem dX9_isAhead_10 : decode cX9_isAhead 10 = .ok (.aload_n 0, 1) := by decide +kernel
theorem dX9_isAhead_11 : decode cX9_isAhead 11 = .ok (.aload_n 0, 1) := by decide +kernel
theorem dX9_isAhead_12 : decode cX9_isAhead 12 = .ok (.getfield 32, 3) := by decide +kernel
theorem dX9_isAhead_15 : decode cX9_isAhead 15 = .ok (.iload_n 3, 1) := by decide +kernel
theorem dX9_isAhead_16 : decode cX9_isAhead 16 = .ok (.iaload, 1) := by decide +kernel
theorem dX9_isAhead_17 : decode cX9_isAhead 17 = .ok (.iload_n 1, 1) := by decide +kernel
theorem dX9_isAhead_18 : decode cX9_isAhead 18 = .ok (.invokevirtual 152, 3) := by decide +kernel
theorem dX9_isAhead_21 : decode cX9_isAhead 21 = .ok (.istore 4, 2) := by decide +kernel
theorem dX9_isAhead_23 : decode cX9_isAhead 23 = .ok (.aload_n 0, 1) := by decide +kernel
theorem dX9_isAhead_24 : decode cX9_isAhead 24 = .ok (.aload_n 0, 1) := by decide +kernel
theorem dX9_isAhead_25 : decode cX9_isAhead 25 = .ok (.getfield 32, 3) := by decide +kernel
theorem dX9_isAhead_28 : decode cX9_isAhead 28 = .ok (.iload_n 3, 1) := by decide +kernel
theorem dX9_isAhead_29 : decode cX9_isAhead 29 = .ok (.iaload, 1) := by decide +kernel
theorem dX9_isAhead_30 : decode cX9_isAhead 30 = .ok (.iload_n 2, 1) := by decide +kernel
theorem dX9_isAhead_31 : decode cX9_isAhead 31 = .ok (.invokevirtual 152, 3) := by decide +kernel
theorem dX9_isAhead_34 : decode cX9_isAhead 34 = .ok (.istore 5, 2) := by decide +kernel
theorem dX9_isAhead_36 : decode cX9_isAhead 36 = .ok (.iload 4, 2) := by decide +kernel
theorem dX9_isAhead_38 : decode cX9_isAhead 38 = .ok (.iload 5, 2) := by decide +kernel
theorem dX9_isAhead_40 : decode cX9_isAhead 40 = .ok (.if_icmp .eq 16, 3) := by decide +kernel
theorem dX9_isAhead_43 : decode cX9_isAhead 43 = .ok (.iload 4, 2) := by decide +kernel
theorem dX9_isAhead_45 : decode cX9_isAhead 45 = .ok (.iload 5, 2) := by decide +kernel
theorem dX9_isAhead_47 : decode cX9_isAhead 47 = .ok (.if_icmp .ge 7, 3) := by decide +kernel
theorem dX9_isAhead_50 : decode cX9_isAhead 50 = .ok (.iconst 1, 1) := by decide +kernel
theorem dX9_isAhead_51 : decode cX9_isAhead 51 = .ok (.goto 4, 3) := by decide +kernel
theorem dX9_isAhead_54 : decode cX9_isAhead 54 = .ok (.iconst 0, 1) := by decide +kernel
theorem dX9_isAhead_55 : decode cX9_isAhead 55 = .ok (.ireturn, 1) := by decide +kernel
theorem dX9_isAhead_56 : decode cX9_isAhead 56 = .ok (.iinc 3 1, 3) := by decide +kernel
theorem dX9_isAhead_59 : decode cX9_isAhead 59 = .ok (.goto (-57), 3) := by decide +kernel
theorem dX9_isAhead_62 : decode cX9_isAhead 62 = .ok (.iload_n 1, 1) := by decide +kernel
theorem dX9_isAhead_63 : decode cX9_isAhead 63 = .ok (.iload_n 2, 1) := by decide +kernel
theorem dX9_isAhead_64 : decode cX9_isAhead 64 = .ok (.if_icmp .ge 7, 3) := by decide +kernel
theorem dX9_isAhead_67 : decode cX9_isAhead 67 = .ok (.iconst 1, 1) := by decide +kernel
theorem dX9_isAhead_68 : decode cX9_isAhead 68 = .ok (.goto 4, 3) := by decide +kernel
theorem dX9_isAhead_71 : decode cX9_isAhead 71 = .ok (.iconst 0, 1) := by decide +kernel
theorem dX9_isAhead_72 : decode cX9_isAhead 72 = .ok (.ireturn, 1) := by decide +kernel
theorem dX9_tellList_0 : decode cX9_tellList 0 = .ok (.aload_n 0, 1) := by decide +kernel
theorem dX9_tellList_1 : decode cX9_tellList 1 = .ok (.iconst 0, 1) := by decide +kernel
theorem dX9_tellList_2 : decode cX9_tellList 2 = .ok (.putfield 155, 3) := by decide +kernel
theorem dX9_tellList_5 : decode cX9_tellList 5 = .ok (.iconst 0, 1) := by decide +kernel
theorem dX9_tellList_6 : decode cX9_tellList 6 = .ok (.istore_n 1, 1) := by decide +kernel
theorem dX9_tellList_7 : decode cX9_tellList 7 = .ok (.iload_n 1, 1) := by decide +kernel
theorem dX9_tellList_8 : decode cX9_tellList 8 = .ok (.aload_n 0, 1) := by decide +kernel
theorem dX9_tellList_9 : decode cX9_tellList 9 = .ok (.getfield 126, 3) := by decide +kernel
theorem dX9_tellList_12 : decode cX9_tellList 12 = .ok (.if_icmp .ge 85, 3) := by decide +kernel
theorem dX9_tellList_15 : decode cX9_tellList 15 = .ok (.aload_n 0, 1) := by decide +kernel
theorem dX9_tellList_16 : decode cX9_tellList 16 = .ok (.getfield 16, 3) := by decide +kernel
theorem dX9_tellList_19 : decode cX9_tellList 19 = .ok (.aload_n 0, 1) := by decide +kernel
theorem dX9_tellList_20 : decode cX9_tellList 20 = .ok (.getfield 26, 3) := by decide +kernel
theorem dX9_tellList_23 : decode cX9_tellList 23 = .ok (.iload_n 1, 1) := by decide +kernel
theorem dX9_tellList_24 : decode cX9_tellList 24 = .ok (.iaload, 1) := by decide +kernel
theorem dX9_tellList_25 : decode cX9_tellList 25 = .ok (.baload, 1) := by decide +kernel
theorem dX9_tellList_26 : decode cX9_tellList 26 = .ok (.ifCond .eq 65, 3) := by decide +kernel
theorem dX9_tellList_29 : decode cX9_tellList 29 = .ok (.aload_n 0, 1) := by decide +kernel
theorem dX9_tellList_30 : decode cX9_tellList 30 = .ok (.getfield 155, 3) := by decide +kernel
theorem dX9_tellList_33 : decode cX9_tellList 33 = .ok (.istore_n 2, 1) := by decide +kernel
theorem dX9_tellList_34 : decode cX9_tellList 34 = .ok (.iload_n 2, 1) := by decide +kernel
theorem dX9_tellList_35 : decode cX9_tellList 35 = .ok (.ifCond .le 39, 3) := by decide +kernel
theorem dX9_tellList_38 : decode cX9_tellList 38 = .ok (.aload_n 0, 1) := by decide +kernel
theorem dX9_tellList_39 : decode cX9_tellList 39 = .ok (.iload_n 1, 1) := by decide +kernel
theorem dX9_tellList_40 : decode cX9_tellList 40 = .ok (.aload_n 0, 1) := by decide +kernel
theorem dX9_tellList_41 : decode cX9_tellList 41 = .ok (.getfield 81, 3) := by decide +kernel
theorem dX9_tellList_44 : decode cX9_tellList 44 = .ok (.iload_n 2, 1) := by decide +kernel
theorem dX9_tellList_45 : decode cX9_tellList 45 = .ok (.iconst 1, 1) := by decide +kernel
theorem dX9_tellList_46 : decode cX9_tellList 46 = .ok (.isub, 1) := by decide +kernel
theorem dX9_tellList_47 : decode cX9_tellList 47 = .ok (.iaload, 1) := by decide +kernel
theorem dX9_tellList_48 : decode cX9_tellList 48 = .ok (.invokevirtual 158, 3) := by decide +kernel
theorem dX9_tellList_51 : decode cX9_tellList 51 = .ok (.ifCond .eq 23, 3) := by decide +kernel
theorem dX9_tellList_54 : decode cX9_tellList 54 = .ok (.aload_n 0, 1) := by decide +kernel
theorem dX9_tellList_55 : decode cX9_tellList 55 = .ok (.getfield 81, 3) := by decide +kernel
theorem dX9_tellList_58 : decode cX9_tellList 58 = .ok (.iload_n 2, 1) := by decide +kernel
theorem dX9_tellList_59 : decode cX9_tellList 59 = .ok (.aload_n 0, 1) := by decide +kernel
theorem dX9_tellList_60 : decode cX9_tellList 60 = .ok (.getfield 81, 3) := by decide +kernel
theorem dX9_tellList_63 : decode cX9_tellList 63 = .ok (.iload_n 2, 1) := by decide +kernel
theorem dX9_tellList_64 : decode cX9_tellList 64 = .ok (.iconst 1, 1) := by decide +kernel
theorem dX9_tellList_65 : decode cX9_tellList 65 = .ok (.isub, 1) := by decide +kernel
theorem dX9_tellList_66 : decode cX9_tellList 66 = .ok (.iaload, 1) := by decide +kernel
theorem dX9_tellList_67 : decode cX9_tellList 67 = .ok (.iastore, 1) := by decide +kernel
theorem dX9_tellList_68 : decode cX9_tellList 68 = .ok (.iinc 2 (-1), 3) := by decide +kernel
theorem dX9_tellList_71 : decode cX9_tellList 71 = .ok (.goto (-37), 3) := by decide +kernel
theorem dX9_tellList_74 : decode cX9_tellList 74 = .ok (.aload_n 0, 1) := by decide +kernel
theorem dX9_tellList_75 : decode cX9_tellList 75 = .ok (.getfield 81, 3) := by decide +kernel
theorem dX9_tellList_78 : decode cX9_tellList 78 = .ok (.iload_n 2, 1) := by decide +kernel
theorem dX9_tellList_79 : decode cX9_tellList 79 = .ok (.iload_n 1, 1) := by decide +kernel
theorem dX9_tellList_80 : decode cX9_tellList 80 = .ok (.iastore, 1) := by decide +kernel
theorem dX9_tellList_81 : decode cX9_tellList 81 = .ok (.aload_n 0, 1) := by decide +kernel
theorem dX9_tellList_82 : decode cX9_tellList 82 = .ok (.dup, 1) := by decide +kernel
theorem dX9_tellList_83 : decode cX9_tellList 83 = .ok (.getfield 155, 3) := by decide +kernel
theorem dX9_tellList_86 : decode cX9_tellList 86 = .ok (.iconst 1, 1) := by decide +kernel
theorem dX9_tellList_87 : decode cX9_tellList 87 = .ok (.iadd, 1) := by decide +kernel
theorem dX9_tellList_88 : decode cX9_tellList 88 = .ok (.putfield 155, 3) := by decide +kernel
theorem dX9_tellList_91 : decode cX9_tellList 91 = .ok (.iinc 1 1, 3) := by decide +kernel
theorem dX9_tellList_94 : decode cX9_tellList 94 = .ok (.goto (-87), 3) := by decide +kernel
theorem dX9_tellList_97 : decode cX9_tellList 97 = .ok (.return_, 1) := by decide +kernel
theorem dX9_listed_0 : decode cX9_listed 0 = .ok (.aload_n 0, 1) := by decide +kernel
theorem dX9_listed_1 : decode cX9_listed 1 = .ok (.invokevirtual 162, 3) := by decide +kernel
theorem dX9_listed_4 : decode cX9_listed 4 = .ok (.iload_n 1, 1) := by decide +kernel
theorem dX9_listed_5 : decode cX9_listed 5 = .ok (.ifCond .lt 11, 3) := by decide +kernel
theorem dX9_listed_8 : decode cX9_listed 8 = .ok (.iload_n 1, 1) := by decide +kernel
theorem dX9_listed_9 : decode cX9_listed 9 = .ok (.aload_n 0, 1) := by decide +kernel
theorem dX9_listed_10 : decode cX9_listed 10 = .ok (.getfield 155, 3) := by decide +kernel
theorem dX9_listed_13 : decode cX9_listed 13 = .ok (.if_icmp .lt 10, 3) := by decide +kernel
theorem dX9_listed_16 : decode cX9_listed 16 = .ok (.aload_n 0, 1) := by decide +kernel
theorem dX9_listed_17 : decode cX9_listed 17 = .ok (.ldc 141, 2) := by decide +kernel
theorem dX9_listed_19 : decode cX9_listed 19 = .ok (.invokevirtual 110, 3) := by decide +kernel
theorem dX9_listed_22 : decode cX9_listed 22 = .ok (.ireturn, 1) := by decide +kernel
theorem dX9_listed_23 : decode cX9_listed 23 = .ok (.iload_n 2, 1) := by decide +kernel
theorem dX9_listed_24 : decode cX9_listed 24 = .ok (.ifCond .eq 17, 3) := by decide +kernel
theorem dX9_listed_27 : decode cX9_listed 27 = .ok (.aload_n 0, 1) := by decide +kernel
theorem dX9_listed_28 : decode cX9_listed 28 = .ok (.getfield 29, 3) := by decide +kernel
theorem dX9_listed_31 : decode cX9_listed 31 = .ok (.aload_n 0, 1) := by decide +kernel
theorem dX9_listed_32 : decode cX9_listed 32 = .ok (.getfield 81, 3) := by decide +kernel
theorem dX9_listed_35 : decode cX9_listed 35 = .ok (.iload_n 1, 1) := by decide +kernel
theorem dX9_listed_36 : decode cX9_listed 36 = .ok (.iaload, 1) := by decide +kernel
theorem dX9_listed_37 : decode cX9_listed 37 = .ok (.iaload, 1) := by decide +kernel
theorem dX9_listed_38 : decode cX9_listed 38 = .ok (.goto 14, 3) := by decide +kernel
theorem dX9_listed_41 : decode cX9_listed 41 = .ok (.aload_n 0, 1) := by decide +kernel
theorem dX9_listed_42 : decode cX9_listed 42 = .ok (.getfield 26, 3) := by decide +kernel
theorem dX9_listed_45 : decode cX9_listed 45 = .ok (.aload_n 0, 1) := by decide +kernel
theorem dX9_listed_46 : decode cX9_listed 46 = .ok (.getfield 81, 3) := by decide +kernel
theorem dX9_listed_49 : decode cX9_listed 49 = .ok (.iload_n 1, 1) := by decide +kernel
theorem dX9_listed_50 : decode cX9_listed 50 = .ok (.iaload, 1) := by decide +kernel
theorem dX9_listed_51 : decode cX9_listed 51 = .ok (.iaload, 1) := by decide +kernel
theorem dX9_listed_52 : decode cX9_listed 52 = .ok (.ireturn, 1) := by decide +kernel
theorem dX9_place_0 : decode cX9_place 0 = .ok (.aload_n 0, 1) := by decide +kernel
theorem dX9_place_1 : decode cX9_place 1 = .ok (.iload_n 1, 1) := by decide +kernel
theorem dX9_place_2 : decode cX9_place 2 = .ok (.invokevirtual 115, 3) := by decide +kernel
theorem dX9_place_5 : decode cX9_place 5 = .ok (.ifCond .eq 10, 3) := by decide +kernel
theorem dX9_place_8 : decode cX9_place 8 = .ok (.iload_n 2, 1) := by decide +kernel
theorem dX9_place_9 : decode cX9_place 9 = .ok (.invokestatic 129, 3) := by decide +kernel
theorem dX9_place_12 : decode cX9_place 12 = .ok (.ifCond .ne 10, 3) := by decide +kernel
theorem dX9_place_15 : decode cX9_place 15 = .ok (.aload_n 0, 1) := by decide +kernel
theorem dX9_place_16 : decode cX9_place 16 = .ok (.ldc 109, 2) := by decide +kernel
theorem dX9_place_18 : decode cX9_place 18 = .ok (.invokevirtual 110, 3) := by decide +kernel
theorem dX9_place_21 : decode cX9_place 21 = .ok (.ireturn, 1) := by decide +kernel
theorem dX9_place_22 : decode cX9_place 22 = .ok (.aload_n 0, 1) := by decide +kernel
theorem dX9_place_23 : decode cX9_place 23 = .ok (.invokevirtual 162, 3) := by decide +kernel
theorem dX9_place_26 : decode cX9_place 26 = .ok (.iconst 0, 1) := by decide +kernel
theorem dX9_place_27 : decode cX9_place 27 = .ok (.istore_n 3, 1) := by decide +kernel
theorem dX9_place_28 : decode cX9_place 28 = .ok (.iload_n 3, 1) := by decide +kernel
theorem dX9_place_29 : decode cX9_place 29 = .ok (.aload_n 0, 1) := by decide +kernel
theorem dX9_place_30 : decode cX9_place 30 = .ok (.getfield 155, 3) := by decide +kernel
theorem dX9_place_33 : decode cX9_place 33 = .ok (.if_icmp .ge 41, 3) := by decide +kernel
theorem dX9_place_36 : decode cX9_place 36 = .ok (.aload_n 0, 1) := by decide +kernel
theorem dX9_place_37 : decode cX9_place 37 = .ok (.getfield 26, 3) := by decide +kernel
theorem dX9_place_40 : decode cX9_place 40 = .ok (.aload_n 0, 1) := by decide +kernel
theorem dX9_place_41 : decode cX9_place 41 = .ok (.getfield 81, 3) := by decide +kernel
theorem dX9_place_44 : decode cX9_place 44 = .ok (.iload_n 3, 1) := by decide +kernel
theorem dX9_place_45 : decode cX9_place 45 = .ok (.iaload, 1) := by decide +kernel
theorem dX9_place_46 : decode cX9_place 46 = .ok (.iaload, 1) := by decide +kernel
theorem dX9_place_47 : decode cX9_place 47 = .ok (.iload_n 1, 1) := by decide +kernel
theorem dX9_place_48 : decode cX9_place 48 = .ok (.if_icmp .ne 20, 3) := by decide +kernel
theorem dX9_place_51 : decode cX9_place 51 = .ok (.aload_n 0, 1) := by decide +kernel
theorem dX9_place_52 : decode cX9_place 52 = .ok (.getfield 29, 3) := by decide +kernel
theorem dX9_place_55 : decode cX9_place 55 = .ok (.aload_n 0, 1) := by decide +kernel
theorem dX9_place_56 : decode cX9_place 56 = .ok (.getfield 81, 3) := by decide +kernel
theorem dX9_place_59 : decode cX9_place 59 = .ok (.iload_n 3, 1) := by decide +kernel
theorem dX9_place_60 : decode cX9_place 60 = .ok (.iaload, 1) := by decide +kernel
theorem dX9_place_61 : decode cX9_place 61 = .ok (.iaload, 1) := by decide +kernel
theorem dX9_place_62 : decode cX9_place 62 = .ok (.iload_n 2, 1) := by decide +kernel
theorem dX9_place_63 : decode cX9_place 63 = .ok (.if_icmp .ne 5, 3) := by decide +kernel
theorem dX9_place_66 : decode cX9_place 66 = .ok (.iload_n 3, 1) := by decide +kernel
theorem dX9_place_67 : decode cX9_place 67 = .ok (.ireturn, 1) := by decide +kernel
theorem dX9_place_68 : decode cX9_place 68 = .ok (.iinc 3 1, 3) := by decide +kernel
theorem dX9_place_71 : decode cX9_place 71 = .ok (.goto (-43), 3) := by decide +kernel
theorem dX9_place_74 : decode cX9_place 74 = .ok (.aload_n 0, 1) := by decide +kernel
theorem dX9_place_75 : decode cX9_place 75 = .ok (.ldc 141, 2) := by decide +kernel
theorem dX9_place_77 : decode cX9_place 77 = .ok (.invokevirtual 110, 3) := by decide +kernel
theorem dX9_place_80 : decode cX9_place 80 = .ok (.ireturn, 1) := by decide +kernel
theorem dX9_firstOf_0 : decode cX9_firstOf 0 = .ok (.aload_n 0, 1) := by decide +kernel
theorem dX9_firstOf_1 : decode cX9_firstOf 1 = .ok (.invokevirtual 162, 3) := by decide +kernel
theorem dX9_firstOf_4 : decode cX9_firstOf 4 = .ok (.iconst 0, 1) := by decide +kernel
theorem dX9_firstOf_5 : decode cX9_firstOf 5 = .ok (.istore_n 2, 1) := by decide +kernel
theorem dX9_firstOf_6 : decode cX9_firstOf 6 = .ok (.iload_n 2, 1) := by decide +kernel
theorem dX9_firstOf_7 : decode cX9_firstOf 7 = .ok (.aload_n 0, 1) := by decide +kernel
theorem dX9_firstOf_8 : decode cX9_firstOf 8 = .ok (.getfield 155, 3) := by decide +kernel
theorem dX9_firstOf_11 : decode cX9_firstOf 11 = .ok (.if_icmp .ge 31, 3) := by decide +kernel
theorem dX9_firstOf_14 : decode cX9_firstOf 14 = .ok (.aload_n 0, 1) := by decide +kernel
theorem dX9_firstOf_15 : decode cX9_firstOf 15 = .ok (.getfield 29, 3) := by decide +kernel
theorem dX9_firstOf_18 : decode cX9_firstOf 18 = .ok (.aload_n 0, 1) := by decide +kernel
theorem dX9_firstOf_19 : decode cX9_firstOf 19 = .ok (.getfield 81, 3) := by decide +kernel
theorem dX9_firstOf_22 : decode cX9_firstOf 22 = .ok (.iload_n 2, 1) := by decide +kernel
theorem dX9_firstOf_23 : decode cX9_firstOf 23 = .ok (.iaload, 1) := by decide +kernel
theorem dX9_firstOf_24 : decode cX9_firstOf 24 = .ok (.iaload, 1) := by decide +kernel
theorem dX9_firstOf_25 : decode cX9_firstOf 25 = .ok (.iload_n 1, 1) := by decide +kernel
theorem dX9_firstOf_26 : decode cX9_firstOf 26 = .ok (.if_icmp .ne 10, 3) := by decide +kernel
theorem dX9_firstOf_29 : decode cX9_firstOf 29 = .ok (.aload_n 0, 1) := by decide +kernel
theorem dX9_firstOf_30 : decode cX9_firstOf 30 = .ok (.getfield 81, 3) := by decide +kernel
theorem dX9_firstOf_33 : decode cX9_firstOf 33 = .ok (.iload_n 2, 1) := by decide +kernel
theorem dX9_firstOf_34 : decode cX9_firstOf 34 = .ok (.iaload, 1) := by decide +kernel
theorem dX9_firstOf_35 : decode cX9_firstOf 35 = .ok (.ireturn, 1) := by decide +kernel
theorem dX9_firstOf_36 : decode cX9_firstOf 36 = .ok (.iinc 2 1, 3) := by decide +kernel
theorem dX9_firstOf_39 : decode cX9_firstOf 39 = .ok (.goto (-33), 3) := by decide +kernel
theorem dX9_firstOf_42 : decode cX9_firstOf 42 = .ok (.iconst (-1), 1) := by decide +kernel
theorem dX9_firstOf_43 : decode cX9_firstOf 43 = .ok (.ireturn, 1) := by decide +kernel
theorem dX9_limitOf_0 : decode cX9_limitOf 0 = .ok (.aload_n 0, 1) := by decide +kernel
end
section
theorem dX9_limitOf_1 : decode cX9_limitOf 1 = .ok (.getfield 7, 3) := by decide +kernel
theorem dX9_limitOf_4 : decode cX9_limitOf 4 = .ok (.iload_n 1, 1) := by decide +kernel
theorem dX9_limitOf_5 : decode cX9_limitOf 5 = .ok (.iaload, 1) := by decide +kernel
theorem dX9_limitOf_6 : decode cX9_limitOf 6 = .ok (.iconst 3, 1) := by decide +kernel
theorem dX9_limitOf_7 : decode cX9_limitOf 7 = .ok (.if_icmp .ne 14, 3) := by decide +kernel
theorem dX9_limitOf_10 : decode cX9_limitOf 10 = .ok (.iconst 2, 1) := by decide +kernel
theorem dX9_limitOf_11 : decode cX9_limitOf 11 = .ok (.aload_n 0, 1) := by decide +kernel
theorem dX9_limitOf_12 : decode cX9_limitOf 12 = .ok (.getfield 51, 3) := by decide +kernel
theorem dX9_limitOf_15 : decode cX9_limitOf 15 = .ok (.iload_n 2, 1) := by decide +kernel
theorem dX9_limitOf_16 : decode cX9_limitOf 16 = .ok (.iaload, 1) := by decide +kernel
theorem dX9_limitOf_17 : decode cX9_limitOf 17 = .ok (.imul, 1) := by decide +kernel
theorem dX9_limitOf_18 : decode cX9_limitOf 18 = .ok (.goto 9, 3) := by decide +kernel
theorem dX9_limitOf_21 : decode cX9_limitOf 21 = .ok (.aload_n 0, 1) := by decide +kernel
theorem dX9_limitOf_22 : decode cX9_limitOf 22 = .ok (.getfield 51, 3) := by decide +kernel
theorem dX9_limitOf_25 : decode cX9_limitOf 25 = .ok (.iload_n 2, 1) := by decide +kernel
theorem dX9_limitOf_26 : decode cX9_limitOf 26 = .ok (.iaload, 1) := by decide +kernel
theorem dX9_limitOf_27 : decode cX9_limitOf 27 = .ok (.ireturn, 1) := by decide +kernel
theorem dX9_wait_0 : decode cX9_wait 0 = .ok (.aload_n 0, 1) := by decide +kernel
theorem dX9_wait_1 : decode cX9_wait 1 = .ok (.iload_n 1, 1) := by decide +kernel
theorem dX9_wait_2 : decode cX9_wait 2 = .ok (.invokevirtual 115, 3) := by decide +kernel
theorem dX9_wait_5 : decode cX9_wait 5 = .ok (.ifCond .ne 10, 3) := by decide +kernel
theorem dX9_wait_8 : decode cX9_wait 8 = .ok (.aload_n 0, 1) := by decide +kernel
theorem dX9_wait_9 : decode cX9_wait 9 = .ok (.ldc 109, 2) := by decide +kernel
theorem dX9_wait_11 : decode cX9_wait 11 = .ok (.invokevirtual 110, 3) := by decide +kernel
theorem dX9_wait_14 : decode cX9_wait 14 = .ok (.ireturn, 1) := by decide +kernel
theorem dX9_wait_15 : decode cX9_wait 15 = .ok (.aload_n 0, 1) := by decide +kernel
theorem dX9_wait_16 : decode cX9_wait 16 = .ok (.getfield 16, 3) := by decide +kernel
theorem dX9_wait_19 : decode cX9_wait 19 = .ok (.iload_n 1, 1) := by decide +kernel
theorem dX9_wait_20 : decode cX9_wait 20 = .ok (.baload, 1) := by decide +kernel
theorem dX9_wait_21 : decode cX9_wait 21 = .ok (.ifCond .eq 12, 3) := by decide +kernel
theorem dX9_wait_24 : decode cX9_wait 24 = .ok (.aload_n 0, 1) := by decide +kernel
theorem dX9_wait_25 : decode cX9_wait 25 = .ok (.iload_n 1, 1) := by decide +kernel
theorem dX9_wait_26 : decode cX9_wait 26 = .ok (.iconst 0, 1) := by decide +kernel
theorem dX9_wait_27 : decode cX9_wait 27 = .ok (.invokevirtual 132, 3) := by decide +kernel
theorem dX9_wait_30 : decode cX9_wait 30 = .ok (.ifCond .ge 10, 3) := by decide +kernel
theorem dX9_wait_33 : decode cX9_wait 33 = .ok (.aload_n 0, 1) := by decide +kernel
theorem dX9_wait_34 : decode cX9_wait 34 = .ok (.ldc 141, 2) := by decide +kernel
theorem dX9_wait_36 : decode cX9_wait 36 = .ok (.invokevirtual 110, 3) := by decide +kernel
theorem dX9_wait_39 : decode cX9_wait 39 = .ok (.ireturn, 1) := by decide +kernel
theorem dX9_wait_40 : decode cX9_wait 40 = .ok (.aload_n 0, 1) := by decide +kernel
theorem dX9_wait_41 : decode cX9_wait 41 = .ok (.getfield 126, 3) := by decide +kernel
theorem dX9_wait_44 : decode cX9_wait 44 = .ok (.istore_n 2, 1) := by decide +kernel
theorem dX9_wait_45 : decode cX9_wait 45 = .ok (.aload_n 0, 1) := by decide +kernel
theorem dX9_wait_46 : decode cX9_wait 46 = .ok (.getfield 35, 3) := by decide +kernel
theorem dX9_wait_49 : decode cX9_wait 49 = .ok (.istore_n 3, 1) := by decide +kernel
theorem dX9_wait_50 : decode cX9_wait 50 = .ok (.iconst 0, 1) := by decide +kernel
theorem dX9_wait_51 : decode cX9_wait 51 = .ok (.istore 4, 2) := by decide +kernel
theorem dX9_wait_53 : decode cX9_wait 53 = .ok (.iload 4, 2) := by decide +kernel
theorem dX9_wait_55 : decode cX9_wait 55 = .ok (.iload_n 2, 1) := by decide +kernel
theorem dX9_wait_56 : decode cX9_wait 56 = .ok (.if_icmp .ge 37, 3) := by decide +kernel
theorem dX9_wait_59 : decode cX9_wait 59 = .ok (.aload_n 0, 1) := by decide +kernel
theorem dX9_wait_60 : decode cX9_wait 60 = .ok (.getfield 84, 3) := by decide +kernel
theorem dX9_wait_63 : decode cX9_wait 63 = .ok (.iload 4, 2) := by decide +kernel
theorem dX9_wait_65 : decode cX9_wait 65 = .ok (.aload_n 0, 1) := by decide +kernel
theorem dX9_wait_66 : decode cX9_wait 66 = .ok (.getfield 26, 3) := by decide +kernel
theorem dX9_wait_69 : decode cX9_wait 69 = .ok (.iload 4, 2) := by decide +kernel
theorem dX9_wait_71 : decode cX9_wait 71 = .ok (.iaload, 1) := by decide +kernel
theorem dX9_wait_72 : decode cX9_wait 72 = .ok (.iastore, 1) := by decide +kernel
theorem dX9_wait_73 : decode cX9_wait 73 = .ok (.aload_n 0, 1) := by decide +kernel
theorem dX9_wait_74 : decode cX9_wait 74 = .ok (.getfield 87, 3) := by decide +kernel
theorem dX9_wait_77 : decode cX9_wait 77 = .ok (.iload 4, 2) := by decide +kernel
theorem dX9_wait_79 : decode cX9_wait 79 = .ok (.aload_n 0, 1) := by decide +kernel
theorem dX9_wait_80 : decode cX9_wait 80 = .ok (.getfield 29, 3) := by decide +kernel
theorem dX9_wait_83 : decode cX9_wait 83 = .ok (.iload 4, 2) := by decide +kernel
theorem dX9_wait_85 : decode cX9_wait 85 = .ok (.iaload, 1) := by decide +kernel
theorem dX9_wait_86 : decode cX9_wait 86 = .ok (.iastore, 1) := by decide +kernel
theorem dX9_wait_87 : decode cX9_wait 87 = .ok (.iinc 4 1, 3) := by decide +kernel
theorem dX9_wait_90 : decode cX9_wait 90 = .ok (.goto (-37), 3) := by decide +kernel
theorem dX9_wait_93 : decode cX9_wait 93 = .ok (.iconst 0, 1) := by decide +kernel
theorem dX9_wait_94 : decode cX9_wait 94 = .ok (.istore 4, 2) := by decide +kernel
theorem dX9_wait_96 : decode cX9_wait 96 = .ok (.iload 4, 2) := by decide +kernel
theorem dX9_wait_98 : decode cX9_wait 98 = .ok (.aload_n 0, 1) := by decide +kernel
theorem dX9_wait_99 : decode cX9_wait 99 = .ok (.getfield 102, 3) := by decide +kernel
theorem dX9_wait_102 : decode cX9_wait 102 = .ok (.if_icmp .ge 37, 3) := by decide +kernel
theorem dX9_wait_105 : decode cX9_wait 105 = .ok (.aload_n 0, 1) := by decide +kernel
theorem dX9_wait_106 : decode cX9_wait 106 = .ok (.getfield 90, 3) := by decide +kernel
theorem dX9_wait_109 : decode cX9_wait 109 = .ok (.iload 4, 2) := by decide +kernel
theorem dX9_wait_111 : decode cX9_wait 111 = .ok (.aload_n 0, 1) := by decide +kernel
theorem dX9_wait_112 : decode cX9_wait 112 = .ok (.getfield 20, 3) := by decide +kernel
theorem dX9_wait_115 : decode cX9_wait 115 = .ok (.iload 4, 2) := by decide +kernel
theorem dX9_wait_117 : decode cX9_wait 117 = .ok (.iaload, 1) := by decide +kernel
theorem dX9_wait_118 : decode cX9_wait 118 = .ok (.iastore, 1) := by decide +kernel
theorem dX9_wait_119 : decode cX9_wait 119 = .ok (.aload_n 0, 1) := by decide +kernel
theorem dX9_wait_120 : decode cX9_wait 120 = .ok (.getfield 93, 3) := by decide +kernel
theorem dX9_wait_123 : decode cX9_wait 123 = .ok (.iload 4, 2) := by decide +kernel
theorem dX9_wait_125 : decode cX9_wait 125 = .ok (.aload_n 0, 1) := by decide +kernel
theorem dX9_wait_126 : decode cX9_wait 126 = .ok (.getfield 23, 3) := by decide +kernel
theorem dX9_wait_129 : decode cX9_wait 129 = .ok (.iload 4, 2) := by decide +kernel
theorem dX9_wait_131 : decode cX9_wait 131 = .ok (.iaload, 1) := by decide +kernel
theorem dX9_wait_132 : decode cX9_wait 132 = .ok (.iastore, 1) := by decide +kernel
theorem dX9_wait_133 : decode cX9_wait 133 = .ok (.iinc 4 1, 3) := by decide +kernel
theorem dX9_wait_136 : decode cX9_wait 136 = .ok (.goto (-40), 3) := by decide +kernel
theorem dX9_wait_139 : decode cX9_wait 139 = .ok (.iconst 0, 1) := by decide +kernel
theorem dX9_wait_140 : decode cX9_wait 140 = .ok (.istore 4, 2) := by decide +kernel
theorem dX9_wait_142 : decode cX9_wait 142 = .ok (.aload_n 0, 1) := by decide +kernel
theorem dX9_wait_143 : decode cX9_wait 143 = .ok (.iconst 0, 1) := by decide +kernel
theorem dX9_wait_144 : decode cX9_wait 144 = .ok (.invokevirtual 165, 3) := by decide +kernel
theorem dX9_wait_147 : decode cX9_wait 147 = .ok (.istore 5, 2) := by decide +kernel
theorem dX9_wait_149 : decode cX9_wait 149 = .ok (.aload_n 0, 1) := by decide +kernel
theorem dX9_wait_150 : decode cX9_wait 150 = .ok (.getfield 26, 3) := by decide +kernel
theorem dX9_wait_153 : decode cX9_wait 153 = .ok (.iload 5, 2) := by decide +kernel
theorem dX9_wait_155 : decode cX9_wait 155 = .ok (.iaload, 1) := by decide +kernel
theorem dX9_wait_156 : decode cX9_wait 156 = .ok (.iload_n 1, 1) := by decide +kernel
theorem dX9_wait_157 : decode cX9_wait 157 = .ok (.if_icmp .eq 84, 3) := by decide +kernel
theorem dX9_wait_160 : decode cX9_wait 160 = .ok (.iload 4, 2) := by decide +kernel
theorem dX9_wait_162 : decode cX9_wait 162 = .ok (.bipush 100, 2) := by decide +kernel
theorem dX9_wait_164 : decode cX9_wait 164 = .ok (.if_icmp .ge 77, 3) := by decide +kernel
theorem dX9_wait_167 : decode cX9_wait 167 = .ok (.aload_n 0, 1) := by decide +kernel
theorem dX9_wait_168 : decode cX9_wait 168 = .ok (.getfield 26, 3) := by decide +kernel
theorem dX9_wait_171 : decode cX9_wait 171 = .ok (.iload 5, 2) := by decide +kernel
theorem dX9_wait_173 : decode cX9_wait 173 = .ok (.iaload, 1) := by decide +kernel
theorem dX9_wait_174 : decode cX9_wait 174 = .ok (.istore 6, 2) := by decide +kernel
theorem dX9_wait_176 : decode cX9_wait 176 = .ok (.aload_n 0, 1) := by decide +kernel
theorem dX9_wait_177 : decode cX9_wait 177 = .ok (.iload 5, 2) := by decide +kernel
theorem dX9_wait_179 : decode cX9_wait 179 = .ok (.invokevirtual 142, 3) := by decide +kernel
theorem dX9_wait_182 : decode cX9_wait 182 = .ok (.aload_n 0, 1) := by decide +kernel
theorem dX9_wait_183 : decode cX9_wait 183 = .ok (.getfield 23, 3) := by decide +kernel
theorem dX9_wait_186 : decode cX9_wait 186 = .ok (.iload 6, 2) := by decide +kernel
theorem dX9_wait_188 : decode cX9_wait 188 = .ok (.dup2, 1) := by decide +kernel
theorem dX9_wait_189 : decode cX9_wait 189 = .ok (.iaload, 1) := by decide +kernel
theorem dX9_wait_190 : decode cX9_wait 190 = .ok (.iconst 1, 1) := by decide +kernel
theorem dX9_wait_191 : decode cX9_wait 191 = .ok (.iadd, 1) := by decide +kernel
theorem dX9_wait_192 : decode cX9_wait 192 = .ok (.iastore, 1) := by decide +kernel
theorem dX9_wait_193 : decode cX9_wait 193 = .ok (.aload_n 0, 1) := by decide +kernel
theorem dX9_wait_194 : decode cX9_wait 194 = .ok (.aload_n 0, 1) := by decide +kernel
theorem dX9_wait_195 : decode cX9_wait 195 = .ok (.getfield 13, 3) := by decide +kernel
theorem dX9_wait_198 : decode cX9_wait 198 = .ok (.iload 6, 2) := by decide +kernel
theorem dX9_wait_200 : decode cX9_wait 200 = .ok (.iaload, 1) := by decide +kernel
theorem dX9_wait_201 : decode cX9_wait 201 = .ok (.putfield 35, 3) := by decide +kernel
theorem dX9_wait_204 : decode cX9_wait 204 = .ok (.aload_n 0, 1) := by decide +kernel
theorem dX9_wait_205 : decode cX9_wait 205 = .ok (.getfield 20, 3) := by decide +kernel
theorem dX9_wait_208 : decode cX9_wait 208 = .ok (.iload 6, 2) := by decide +kernel
theorem dX9_wait_210 : decode cX9_wait 210 = .ok (.dup2, 1) := by decide +kernel
theorem dX9_wait_211 : decode cX9_wait 211 = .ok (.iaload, 1) := by decide +kernel
theorem dX9_wait_212 : decode cX9_wait 212 = .ok (.aload_n 0, 1) := by decide +kernel
theorem dX9_wait_213 : decode cX9_wait 213 = .ok (.iload 6, 2) := by decide +kernel
theorem dX9_wait_215 : decode cX9_wait 215 = .ok (.iconst 0, 1) := by decide +kernel
theorem dX9_wait_216 : decode cX9_wait 216 = .ok (.invokevirtual 168, 3) := by decide +kernel
theorem dX9_wait_219 : decode cX9_wait 219 = .ok (.iadd, 1) := by decide +kernel
theorem dX9_wait_220 : decode cX9_wait 220 = .ok (.iastore, 1) := by decide +kernel
theorem dX9_wait_221 : decode cX9_wait 221 = .ok (.aload_n 0, 1) := by decide +kernel
theorem dX9_wait_222 : decode cX9_wait 222 = .ok (.iload 6, 2) := by decide +kernel
theorem dX9_wait_224 : decode cX9_wait 224 = .ok (.iconst 0, 1) := by decide +kernel
theorem dX9_wait_225 : decode cX9_wait 225 = .ok (.invokevirtual 137, 3) := by decide +kernel
theorem dX9_wait_228 : decode cX9_wait 228 = .ok (.iinc 4 1, 3) := by decide +kernel
theorem dX9_wait_231 : decode cX9_wait 231 = .ok (.aload_n 0, 1) := by decide +kernel
theorem dX9_wait_232 : decode cX9_wait 232 = .ok (.iconst 0, 1) := by decide +kernel
theorem dX9_wait_233 : decode cX9_wait 233 = .ok (.invokevirtual 165, 3) := by decide +kernel
theorem dX9_wait_236 : decode cX9_wait 236 = .ok (.istore 5, 2) := by decide +kernel
theorem dX9_wait_238 : decode cX9_wait 238 = .ok (.goto (-89), 3) := by decide +kernel
theorem dX9_wait_241 : decode cX9_wait 241 = .ok (.aload_n 0, 1) := by decide +kernel
theorem dX9_wait_242 : decode cX9_wait 242 = .ok (.iload_n 2, 1) := by decide +kernel
theorem dX9_wait_243 : decode cX9_wait 243 = .ok (.putfield 126, 3) := by decide +kernel
theorem dX9_wait_246 : decode cX9_wait 246 = .ok (.aload_n 0, 1) := by decide +kernel
theorem dX9_wait_247 : decode cX9_wait 247 = .ok (.iload_n 3, 1) := by decide +kernel
theorem dX9_wait_248 : decode cX9_wait 248 = .ok (.putfield 35, 3) := by decide +kernel
theorem dX9_wait_251 : decode cX9_wait 251 = .ok (.iconst 0, 1) := by decide +kernel
theorem dX9_wait_252 : decode cX9_wait 252 = .ok (.istore 6, 2) := by decide +kernel
theorem dX9_wait_254 : decode cX9_wait 254 = .ok (.iload 6, 2) := by decide +kernel
theorem dX9_wait_256 : decode cX9_wait 256 = .ok (.iload_n 2, 1) := by decide +kernel
theorem dX9_wait_257 : decode cX9_wait 257 = .ok (.if_icmp .ge 37, 3) := by decide +kernel
theorem dX9_wait_260 : decode cX9_wait 260 = .ok (.aload_n 0, 1) := by decide +kernel
theorem dX9_wait_261 : decode cX9_wait 261 = .ok (.getfield 26, 3) := by decide +kernel
theorem dX9_wait_264 : decode cX9_wait 264 = .ok (.iload 6, 2) := by decide +kernel
theorem dX9_wait_266 : decode cX9_wait 266 = .ok (.aload_n 0, 1) := by decide +kernel
theorem dX9_wait_267 : decode cX9_wait 267 = .ok (.getfield 84, 3) := by decide +kernel
theorem dX9_wait_270 : decode cX9_wait 270 = .ok (.iload 6, 2) := by decide +kernel
theorem dX9_wait_272 : decode cX9_wait 272 = .ok (.iaload, 1) := by decide +kernel
theorem dX9_wait_273 : decode cX9_wait 273 = .ok (.iastore, 1) := by decide +kernel
theorem dX9_wait_274 : decode cX9_wait 274 = .ok (.aload_n 0, 1) := by decide +kernel
theorem dX9_wait_275 : decode cX9_wait 275 = .ok (.getfield 29, 3) := by decide +kernel
theorem dX9_wait_278 : decode cX9_wait 278 = .ok (.iload 6, 2) := by decide +kernel
theorem dX9_wait_280 : decode cX9_wait 280 = .ok (.aload_n 0, 1) := by decide +kernel
theorem dX9_wait_281 : decode cX9_wait 281 = .ok (.getfield 87, 3) := by decide +kernel
theorem dX9_wait_284 : decode cX9_wait 284 = .ok (.iload 6, 2) := by decide +kernel
theorem dX9_wait_286 : decode cX9_wait 286 = .ok (.iaload, 1) := by decide +kernel
theorem dX9_wait_287 : decode cX9_wait 287 = .ok (.iastore, 1) := by decide +kernel
theorem dX9_wait_288 : decode cX9_wait 288 = .ok (.iinc 6 1, 3) := by decide +kernel
theorem dX9_wait_291 : decode cX9_wait 291 = .ok (.goto (-37), 3) := by decide +kernel
theorem dX9_wait_294 : decode cX9_wait 294 = .ok (.iconst 0, 1) := by decide +kernel
theorem dX9_wait_295 : decode cX9_wait 295 = .ok (.istore 6, 2) := by decide +kernel
theorem dX9_wait_297 : decode cX9_wait 297 = .ok (.iload 6, 2) := by decide +kernel
theorem dX9_wait_299 : decode cX9_wait 299 = .ok (.aload_n 0, 1) := by decide +kernel
theorem dX9_wait_300 : decode cX9_wait 300 = .ok (.getfield 102, 3) := by decide +kernel
theorem dX9_wait_303 : decode cX9_wait 303 = .ok (.if_icmp .ge 37, 3) := by decide +kernel
theorem dX9_wait_306 : decode cX9_wait 306 = .ok (.aload_n 0, 1) := by decide +kernel
theorem dX9_wait_307 : decode cX9_wait 307 = .ok (.getfield 20, 3) := by decide +kernel
theorem dX9_wait_310 : decode cX9_wait 310 = .ok (.iload 6, 2) := by decide +kernel
theorem dX9_wait_312 : decode cX9_wait 312 = .ok (.aload_n 0, 1) := by decide +kernel
theorem dX9_wait_313 : decode cX9_wait 313 = .ok (.getfield 90, 3) := by decide +kernel
theorem dX9_wait_316 : decode cX9_wait 316 = .ok (.iload 6, 2) := by decide +kernel
theorem dX9_wait_318 : decode cX9_wait 318 = .ok (.iaload, 1) := by decide +kernel
theorem dX9_wait_319 : decode cX9_wait 319 = .ok (.iastore, 1) := by decide +kernel
theorem dX9_wait_320 : decode cX9_wait 320 = .ok (.aload_n 0, 1) := by decide +kernel
theorem dX9_wait_321 : decode cX9_wait 321 = .ok (.getfield 23, 3) := by decide +kernel
theorem dX9_wait_324 : decode cX9_wait 324 = .ok (.iload 6, 2) := by decide +kernel
theorem dX9_wait_326 : decode cX9_wait 326 = .ok (.aload_n 0, 1) := by decide +kernel
theorem dX9_wait_327 : decode cX9_wait 327 = .ok (.getfield 93, 3) := by decide +kernel
theorem dX9_wait_330 : decode cX9_wait 330 = .ok (.iload 6, 2) := by decide +kernel
theorem dX9_wait_332 : decode cX9_wait 332 = .ok (.iaload, 1) := by decide +kernel
theorem dX9_wait_333 : decode cX9_wait 333 = .ok (.iastore, 1) := by decide +kernel
theorem dX9_wait_334 : decode cX9_wait 334 = .ok (.iinc 6 1, 3) := by decide +kernel
theorem dX9_wait_337 : decode cX9_wait 337 = .ok (.goto (-40), 3) := by decide +kernel
theorem dX9_wait_340 : decode cX9_wait 340 = .ok (.iload 4, 2) := by decide +kernel
theorem dX9_wait_342 : decode cX9_wait 342 = .ok (.bipush 100, 2) := by decide +kernel
theorem dX9_wait_344 : decode cX9_wait 344 = .ok (.if_icmp .ne 12, 3) := by decide +kernel
theorem dX9_wait_347 : decode cX9_wait 347 = .ok (.aload_n 0, 1) := by decide +kernel
theorem dX9_wait_348 : decode cX9_wait 348 = .ok (.ldc 171, 2) := by decide +kernel
theorem dX9_wait_350 : decode cX9_wait 350 = .ok (.invokevirtual 110, 3) := by decide +kernel
theorem dX9_wait_353 : decode cX9_wait 353 = .ok (.goto 5, 3) := by decide +kernel
theorem dX9_wait_356 : decode cX9_wait 356 = .ok (.iload 4, 2) := by decide +kernel
theorem dX9_wait_358 : decode cX9_wait 358 = .ok (.ireturn, 1) := by decide +kernel
theorem dX9_fits_0 : decode cX9_fits 0 = .ok (.iload_n 1, 1) := by decide +kernel
theorem dX9_fits_1 : decode cX9_fits 1 = .ok (.iconst 0, 1) := by decide +kernel
theorem dX9_fits_2 : decode cX9_fits 2 = .ok (.sipush 1000, 3) := by decide +kernel
theorem dX9_fits_5 : decode cX9_fits 5 = .ok (.invokestatic 105, 3) := by decide +kernel
theorem dX9_fits_8 : decode cX9_fits 8 = .ok (.ifCond .ne 10, 3) := by decide +kernel
theorem dX9_fits_11 : decode cX9_fits 11 = .ok (.aload_n 0, 1) := by decide +kernel
theorem dX9_fits_12 : decode cX9_fits 12 = .ok (.ldc 109, 2) := by decide +kernel
theorem dX9_fits_14 : decode cX9_fits 14 = .ok (.invokevirtual 110, 3) := by decide +kernel
theorem dX9_fits_17 : decode cX9_fits 17 = .ok (.ireturn, 1) := by decide +kernel
theorem dX9_fits_18 : decode cX9_fits 18 = .ok (.aload_n 0, 1) := by decide +kernel
theorem dX9_fits_19 : decode cX9_fits 19 = .ok (.invokevirtual 162, 3) := by decide +kernel
theorem dX9_fits_22 : decode cX9_fits 22 = .ok (.iconst 0, 1) := by decide +kernel
theorem dX9_fits_23 : decode cX9_fits 23 = .ok (.istore_n 3, 1) := by decide +kernel
theorem dX9_fits_24 : decode cX9_fits 24 = .ok (.iload_n 1, 1) := by decide +kernel
theorem dX9_fits_25 : decode cX9_fits 25 = .ok (.istore 4, 2) := by decide +kernel
theorem dX9_fits_27 : decode cX9_fits 27 = .ok (.iconst 0, 1) := by decide +kernel
theorem dX9_fits_28 : decode cX9_fits 28 = .ok (.istore 5, 2) := by decide +kernel
theorem dX9_fits_30 : decode cX9_fits 30 = .ok (.iload 5, 2) := by decide +kernel
theorem dX9_fits_32 : decode cX9_fits 32 = .ok (.aload_n 0, 1) := by decide +kernel
theorem dX9_fits_33 : decode cX9_fits 33 = .ok (.getfield 155, 3) := by decide +kernel
theorem dX9_fits_36 : decode cX9_fits 36 = .ok (.if_icmp .ge 65, 3) := by decide +kernel
theorem dX9_fits_39 : decode cX9_fits 39 = .ok (.aload_n 0, 1) := by decide +kernel
theorem dX9_fits_40 : decode cX9_fits 40 = .ok (.aload_n 0, 1) := by decide +kernel
theorem dX9_fits_41 : decode cX9_fits 41 = .ok (.getfield 26, 3) := by decide +kernel
theorem dX9_fits_44 : decode cX9_fits 44 = .ok (.aload_n 0, 1) := by decide +kernel
theorem dX9_fits_45 : decode cX9_fits 45 = .ok (.getfield 81, 3) := by decide +kernel
theorem dX9_fits_48 : decode cX9_fits 48 = .ok (.iload 5, 2) := by decide +kernel
theorem dX9_fits_50 : decode cX9_fits 50 = .ok (.iaload, 1) := by decide +kernel
theorem dX9_fits_51 : decode cX9_fits 51 = .ok (.iaload, 1) := by decide +kernel
theorem dX9_fits_52 : decode cX9_fits 52 = .ok (.aload_n 0, 1) := by decide +kernel
theorem dX9_fits_53 : decode cX9_fits 53 = .ok (.getfield 29, 3) := by decide +kernel
theorem dX9_fits_56 : decode cX9_fits 56 = .ok (.aload_n 0, 1) := by decide +kernel
theorem dX9_fits_57 : decode cX9_fits 57 = .ok (.getfield 81, 3) := by decide +kernel
theorem dX9_fits_60 : decode cX9_fits 60 = .ok (.iload 5, 2) := by decide +kernel
theorem dX9_fits_62 : decode cX9_fits 62 = .ok (.iaload, 1) := by decide +kernel
theorem dX9_fits_63 : decode cX9_fits 63 = .ok (.iaload, 1) := by decide +kernel
theorem dX9_fits_64 : decode cX9_fits 64 = .ok (.invokevirtual 168, 3) := by decide +kernel
theorem dX9_fits_67 : decode cX9_fits 67 = .ok (.istore 6, 2) := by decide +kernel
theorem dX9_fits_69 : decode cX9_fits 69 = .ok (.iload 6, 2) := by decide +kernel
theorem dX9_fits_71 : decode cX9_fits 71 = .ok (.iload 4, 2) := by decide +kernel
theorem dX9_fits_73 : decode cX9_fits 73 = .ok (.if_icmp .gt 16, 3) := by decide +kernel
theorem dX9_fits_76 : decode cX9_fits 76 = .ok (.iinc 3 1, 3) := by decide +kernel
theorem dX9_fits_79 : decode cX9_fits 79 = .ok (.iload 4, 2) := by decide +kernel
theorem dX9_fits_81 : decode cX9_fits 81 = .ok (.iload 6, 2) := by decide +kernel
theorem dX9_fits_83 : decode cX9_fits 83 = .ok (.isub, 1) := by decide +kernel
theorem dX9_fits_84 : decode cX9_fits 84 = .ok (.istore 4, 2) := by decide +kernel
theorem dX9_fits_86 : decode cX9_fits 86 = .ok (.goto 9, 3) := by decide +kernel
theorem dX9_fits_89 : decode cX9_fits 89 = .ok (.iload_n 2, 1) := by decide +kernel
theorem dX9_fits_90 : decode cX9_fits 90 = .ok (.ifCond .ne 5, 3) := by decide +kernel
theorem dX9_fits_93 : decode cX9_fits 93 = .ok (.iload_n 3, 1) := by decide +kernel
theorem dX9_fits_94 : decode cX9_fits 94 = .ok (.ireturn, 1) := by decide +kernel
theorem dX9_fits_95 : decode cX9_fits 95 = .ok (.iinc 5 1, 3) := by decide +kernel
theorem dX9_fits_98 : decode cX9_fits 98 = .ok (.goto (-68), 3) := by decide +kernel
theorem dX9_fits_101 : decode cX9_fits 101 = .ok (.iload_n 3, 1) := by decide +kernel
theorem dX9_fits_102 : decode cX9_fits 102 = .ok (.ireturn, 1) := by decide +kernel
theorem dX9_take_0 : decode cX9_take 0 = .ok (.aload_n 0, 1) := by decide +kernel
theorem dX9_take_1 : decode cX9_take 1 = .ok (.getfield 26, 3) := by decide +kernel
theorem dX9_take_4 : decode cX9_take 4 = .ok (.iload_n 1, 1) := by decide +kernel
theorem dX9_take_5 : decode cX9_take 5 = .ok (.iaload, 1) := by decide +kernel
theorem dX9_take_6 : decode cX9_take 6 = .ok (.istore_n 2, 1) := by decide +kernel
theorem dX9_take_7 : decode cX9_take 7 = .ok (.aload_n 0, 1) := by decide +kernel
theorem dX9_take_8 : decode cX9_take 8 = .ok (.getfield 29, 3) := by decide +kernel
theorem dX9_take_11 : decode cX9_take 11 = .ok (.iload_n 1, 1) := by decide +kernel
theorem dX9_take_12 : decode cX9_take 12 = .ok (.iaload, 1) := by decide +kernel
theorem dX9_take_13 : decode cX9_take 13 = .ok (.istore_n 3, 1) := by decide +kernel
theorem dX9_take_14 : decode cX9_take 14 = .ok (.aload_n 0, 1) := by decide +kernel
theorem dX9_take_15 : decode cX9_take 15 = .ok (.iload_n 1, 1) := by decide +kernel
theorem dX9_take_16 : decode cX9_take 16 = .ok (.invokevirtual 142, 3) := by decide +kernel
theorem dX9_take_19 : decode cX9_take 19 = .ok (.aload_n 0, 1) := by decide +kernel
theorem dX9_take_20 : decode cX9_take 20 = .ok (.getfield 39, 3) := by decide +kernel
theorem dX9_take_23 : decode cX9_take 23 = .ok (.aload_n 0, 1) := by decide +kernel
theorem dX9_take_24 : decode cX9_take 24 = .ok (.getfield 172, 3) := by decide +kernel
theorem dX9_take_27 : decode cX9_take 27 = .ok (.iload_n 2, 1) := by decide +kernel
theorem dX9_take_28 : decode cX9_take 28 = .ok (.iastore, 1) := by decide +kernel
theorem dX9_take_29 : decode cX9_take 29 = .ok (.aload_n 0, 1) := by decide +kernel
theorem dX9_take_30 : decode cX9_take 30 = .ok (.getfield 42, 3) := by decide +kernel
theorem dX9_take_33 : decode cX9_take 33 = .ok (.aload_n 0, 1) := by decide +kernel
theorem dX9_take_34 : decode cX9_take 34 = .ok (.getfield 172, 3) := by decide +kernel
theorem dX9_take_37 : decode cX9_take 37 = .ok (.iload_n 3, 1) := by decide +kernel
theorem dX9_take_38 : decode cX9_take 38 = .ok (.iastore, 1) := by decide +kernel
theorem dX9_take_39 : decode cX9_take 39 = .ok (.aload_n 0, 1) := by decide +kernel
theorem dX9_take_40 : decode cX9_take 40 = .ok (.getfield 45, 3) := by decide +kernel
theorem dX9_take_43 : decode cX9_take 43 = .ok (.aload_n 0, 1) := by decide +kernel
theorem dX9_take_44 : decode cX9_take 44 = .ok (.getfield 172, 3) := by decide +kernel
theorem dX9_take_47 : decode cX9_take 47 = .ok (.aload_n 0, 1) := by decide +kernel
theorem dX9_take_48 : decode cX9_take 48 = .ok (.iload_n 2, 1) := by decide +kernel
theorem dX9_take_49 : decode cX9_take 49 = .ok (.iload_n 3, 1) := by decide +kernel
theorem dX9_take_50 : decode cX9_take 50 = .ok (.invokevirtual 168, 3) := by decide +kernel
theorem dX9_take_53 : decode cX9_take 53 = .ok (.iastore, 1) := by decide +kernel
theorem dX9_take_54 : decode cX9_take 54 = .ok (.aload_n 0, 1) := by decide +kernel
theorem dX9_take_55 : decode cX9_take 55 = .ok (.getfield 48, 3) := by decide +kernel
theorem dX9_take_58 : decode cX9_take 58 = .ok (.aload_n 0, 1) := by decide +kernel
theorem dX9_take_59 : decode cX9_take 59 = .ok (.getfield 172, 3) := by decide +kernel
theorem dX9_take_62 : decode cX9_take 62 = .ok (.iconst 0, 1) := by decide +kernel
theorem dX9_take_63 : decode cX9_take 63 = .ok (.iastore, 1) := by decide +kernel
theorem dX9_take_64 : decode cX9_take 64 = .ok (.aload_n 0, 1) := by decide +kernel
theorem dX9_take_65 : decode cX9_take 65 = .ok (.dup, 1) := by decide +kernel
theorem dX9_take_66 : decode cX9_take 66 = .ok (.getfield 172, 3) := by decide +kernel
theorem dX9_take_69 : decode cX9_take 69 = .ok (.iconst 1, 1) := by decide +kernel
theorem dX9_take_70 : decode cX9_take 70 = .ok (.iadd, 1) := by decide +kernel
theorem dX9_take_71 : decode cX9_take 71 = .ok (.putfield 172, 3) := by decide +kernel
theorem dX9_take_74 : decode cX9_take 74 = .ok (.aload_n 0, 1) := by decide +kernel
theorem dX9_take_75 : decode cX9_take 75 = .ok (.getfield 23, 3) := by decide +kernel
theorem dX9_take_78 : decode cX9_take 78 = .ok (.iload_n 2, 1) := by decide +kernel
theorem dX9_take_79 : decode cX9_take 79 = .ok (.dup2, 1) := by decide +kernel
theorem dX9_take_80 : decode cX9_take 80 = .ok (.iaload, 1) := by decide +kernel
theorem dX9_take_81 : decode cX9_take 81 = .ok (.iload_n 3, 1) := by decide +kernel
theorem dX9_take_82 : decode cX9_take 82 = .ok (.ifCond .ne 7, 3) := by decide +kernel
theorem dX9_take_85 : decode cX9_take 85 = .ok (.iconst 1, 1) := by decide +kernel
theorem dX9_take_86 : decode cX9_take 86 = .ok (.goto 4, 3) := by decide +kernel
theorem dX9_take_89 : decode cX9_take 89 = .ok (.iconst 0, 1) := by decide +kernel
theorem dX9_take_90 : decode cX9_take 90 = .ok (.iadd, 1) := by decide +kernel
theorem dX9_take_91 : decode cX9_take 91 = .ok (.iastore, 1) := by decide +kernel
theorem dX9_take_92 : decode cX9_take 92 = .ok (.aload_n 0, 1) := by decide +kernel
theorem dX9_take_93 : decode cX9_take 93 = .ok (.aload_n 0, 1) := by decide +kernel
theorem dX9_take_94 : decode cX9_take 94 = .ok (.getfield 13, 3) := by decide +kernel
theorem dX9_take_97 : decode cX9_take 97 = .ok (.iload_n 2, 1) := by decide +kernel
theorem dX9_take_98 : decode cX9_take 98 = .ok (.iaload, 1) := by decide +kernel
theorem dX9_take_99 : decode cX9_take 99 = .ok (.putfield 35, 3) := by decide +kernel
theorem dX9_take_102 : decode cX9_take 102 = .ok (.iload_n 2, 1) := by decide +kernel
theorem dX9_take_103 : decode cX9_take 103 = .ok (.ireturn, 1) := by decide +kernel
theorem dX9_end_0 : decode cX9_end 0 = .ok (.aload_n 0, 1) := by decide +kernel
theorem dX9_end_1 : decode cX9_end 1 = .ok (.dup, 1) := by decide +kernel
theorem dX9_end_2 : decode cX9_end 2 = .ok (.getfield 172, 3) := by decide +kernel
theorem dX9_end_5 : decode cX9_end 5 = .ok (.iconst 1, 1) := by decide +kernel
theorem dX9_end_6 : decode cX9_end 6 = .ok (.isub, 1) := by decide +kernel
theorem dX9_end_7 : decode cX9_end 7 = .ok (.putfield 172, 3) := by decide +kernel
theorem dX9_end_10 : decode cX9_end 10 = .ok (.aload_n 0, 1) := by decide +kernel
theorem dX9_end_11 : decode cX9_end 11 = .ok (.getfield 175, 3) := by decide +kernel
theorem dX9_end_14 : decode cX9_end 14 = .ok (.bipush 100, 2) := by decide +kernel
theorem dX9_end_16 : decode cX9_end 16 = .ok (.if_icmp .ne 81, 3) := by decide +kernel
theorem dX9_end_19 : decode cX9_end 19 = .ok (.aload_n 0, 1) := by decide +kernel
theorem dX9_end_20 : decode cX9_end 20 = .ok (.dup, 1) := by decide +kernel
theorem dX9_end_21 : decode cX9_end 21 = .ok (.getfield 175, 3) := by decide +kernel
theorem dX9_end_24 : decode cX9_end 24 = .ok (.iconst 1, 1) := by decide +kernel
theorem dX9_end_25 : decode cX9_end 25 = .ok (.isub, 1) := by decide +kernel
theorem dX9_end_26 : decode cX9_end 26 = .ok (.putfield 175, 3) := by decide +kernel
theorem dX9_end_29 : decode cX9_end 29 = .ok (.aload_n 0, 1) := by decide +kernel
theorem dX9_end_30 : decode cX9_end 30 = .ok (.dup, 1) := by decide +kernel
theorem dX9_end_31 : decode cX9_end 31 = .ok (.getfield 178, 3) := by decide +kernel
theorem dX9_end_34 : decode cX9_end 34 = .ok (.iconst 1, 1) := by decide +kernel
theorem dX9_end_35 : decode cX9_end 35 = .ok (.iadd, 1) := by decide +kernel
theorem dX9_end_36 : decode cX9_end 36 = .ok (.putfield 178, 3) := by decide +kernel
theorem dX9_end_39 : decode cX9_end 39 = .ok (.iconst 0, 1) := by decide +kernel
theorem dX9_end_40 : decode cX9_end 40 = .ok (.istore_n 1, 1) := by decide +kernel
theorem dX9_end_41 : decode cX9_end 41 = .ok (.iload_n 1, 1) := by decide +kernel
theorem dX9_end_42 : decode cX9_end 42 = .ok (.aload_n 0, 1) := by decide +kernel
theorem dX9_end_43 : decode cX9_end 43 = .ok (.getfield 175, 3) := by decide +kernel
theorem dX9_end_46 : decode cX9_end 46 = .ok (.if_icmp .ge 51, 3) := by decide +kernel
theorem dX9_end_49 : decode cX9_end 49 = .ok (.aload_n 0, 1) := by decide +kernel
theorem dX9_end_50 : decode cX9_end 50 = .ok (.getfield 57, 3) := by decide +kernel
theorem dX9_end_53 : decode cX9_end 53 = .ok (.iload_n 1, 1) := by decide +kernel
theorem dX9_end_54 : decode cX9_end 54 = .ok (.aload_n 0, 1) := by decide +kernel
theorem dX9_end_55 : decode cX9_end 55 = .ok (.getfield 57, 3) := by decide +kernel
theorem dX9_end_58 : decode cX9_end 58 = .ok (.iload_n 1, 1) := by decide +kernel
theorem dX9_end_59 : decode cX9_end 59 = .ok (.iconst 1, 1) := by decide +kernel
theorem dX9_end_60 : decode cX9_end 60 = .ok (.iadd, 1) := by decide +kernel
theorem dX9_end_61 : decode cX9_end 61 = .ok (.iaload, 1) := by decide +kernel
theorem dX9_end_62 : decode cX9_end 62 = .ok (.iastore, 1) := by decide +kernel
theorem dX9_end_63 : decode cX9_end 63 = .ok (.aload_n 0, 1) := by decide +kernel
theorem dX9_end_64 : decode cX9_end 64 = .ok (.getfield 60, 3) := by decide +kernel
theorem dX9_end_67 : decode cX9_end 67 = .ok (.iload_n 1, 1) := by decide +kernel
theorem dX9_end_68 : decode cX9_end 68 = .ok (.aload_n 0, 1) := by decide +kernel
theorem dX9_end_69 : decode cX9_end 69 = .ok (.getfield 60, 3) := by decide +kernel
theorem dX9_end_72 : decode cX9_end 72 = .ok (.iload_n 1, 1) := by decide +kernel
theorem dX9_end_73 : decode cX9_end 73 = .ok (.iconst 1, 1) := by decide +kernel
theorem dX9_end_74 : decode cX9_end 74 = .ok (.iadd, 1) := by decide +kernel
theorem dX9_end_75 : decode cX9_end 75 = .ok (.iaload, 1) := by decide +kernel
theorem dX9_end_76 : decode cX9_end 76 = .ok (.iastore, 1) := by decide +kernel
theorem dX9_end_77 : decode cX9_end 77 = .ok (.aload_n 0, 1) := by decide +kernel
theorem dX9_end_78 : decode cX9_end 78 = .ok (.getfield 63, 3) := by decide +kernel
theorem dX9_end_81 : decode cX9_end 81 = .ok (.iload_n 1, 1) := by decide +kernel
theorem dX9_end_82 : decode cX9_end 82 = .ok (.aload_n 0, 1) := by decide +kernel
theorem dX9_end_83 : decode cX9_end 83 = .ok (.getfield 63, 3) := by decide +kernel
theorem dX9_end_86 : decode cX9_end 86 = .ok (.iload_n 1, 1) := by decide +kernel
theorem dX9_end_87 : decode cX9_end 87 = .ok (.iconst 1, 1) := by decide +kernel
theorem dX9_end_88 : decode cX9_end 88 = .ok (.iadd, 1) := by decide +kernel
theorem dX9_end_89 : decode cX9_end 89 = .ok (.iaload, 1) := by decide +kernel
theorem dX9_end_90 : decode cX9_end 90 = .ok (.iastore, 1) := by decide +kernel
theorem dX9_end_91 : decode cX9_end 91 = .ok (.iinc 1 1, 3) := by decide +kernel
theorem dX9_end_94 : decode cX9_end 94 = .ok (.goto (-53), 3) := by decide +kernel
theorem dX9_end_97 : decode cX9_end 97 = .ok (.aload_n 0, 1) := by decide +kernel
theorem dX9_end_98 : decode cX9_end 98 = .ok (.getfield 57, 3) := by decide +kernel
theorem dX9_end_101 : decode cX9_end 101 = .ok (.aload_n 0, 1) := by decide +kernel
theorem dX9_end_102 : decode cX9_end 102 = .ok (.getfield 175, 3) := by decide +kernel
theorem dX9_end_105 : decode cX9_end 105 = .ok (.aload_n 0, 1) := by decide +kernel
theorem dX9_end_106 : decode cX9_end 106 = .ok (.getfield 39, 3) := by decide +kernel
theorem dX9_end_109 : decode cX9_end 109 = .ok (.aload_n 0, 1) := by decide +kernel
theorem dX9_end_110 : decode cX9_end 110 = .ok (.getfield 172, 3) := by decide +kernel
theorem dX9_end_113 : decode cX9_end 113 = .ok (.iaload, 1) := by decide +kernel
theorem dX9_end_114 : decode cX9_end 114 = .ok (.iastore, 1) := by decide +kernel
theorem dX9_end_115 : decode cX9_end 115 = .ok (.aload_n 0, 1) := by decide +kernel
theorem dX9_end_116 : decode cX9_end 116 = .ok (.getfield 60, 3) := by decide +kernel
theorem dX9_end_119 : decode cX9_end 119 = .ok (.aload_n 0, 1) := by decide +kernel
theorem dX9_end_120 : decode cX9_end 120 = .ok (.getfield 175, 3) := by decide +kernel
theorem dX9_end_123 : decode cX9_end 123 = .ok (.aload_n 0, 1) := by decide +kernel
theorem dX9_end_124 : decode cX9_end 124 = .ok (.getfield 42, 3) := by decide +kernel
theorem dX9_end_127 : decode cX9_end 127 = .ok (.aload_n 0, 1) := by decide +kernel
theorem dX9_end_128 : decode cX9_end 128 = .ok (.getfield 172, 3) := by decide +kernel
theorem dX9_end_131 : decode cX9_end 131 = .ok (.iaload, 1) := by decide +kernel
theorem dX9_end_132 : decode cX9_end 132 = .ok (.iastore, 1) := by decide +kernel
theorem dX9_end_133 : decode cX9_end 133 = .ok (.aload_n 0, 1) := by decide +kernel
theorem dX9_end_134 : decode cX9_end 134 = .ok (.getfield 63, 3) := by decide +kernel
theorem dX9_end_137 : decode cX9_end 137 = .ok (.aload_n 0, 1) := by decide +kernel
theorem dX9_end_138 : decode cX9_end 138 = .ok (.getfield 175, 3) := by decide +kernel
theorem dX9_end_141 : decode cX9_end 141 = .ok (.aload_n 0, 1) := by decide +kernel
theorem dX9_end_142 : decode cX9_end 142 = .ok (.getfield 48, 3) := by decide +kernel
theorem dX9_end_145 : decode cX9_end 145 = .ok (.aload_n 0, 1) := by decide +kernel
theorem dX9_end_146 : decode cX9_end 146 = .ok (.getfield 172, 3) := by decide +kernel
theorem dX9_end_149 : decode cX9_end 149 = .ok (.iaload, 1) := by decide +kernel
theorem dX9_end_150 : decode cX9_end 150 = .ok (.iastore, 1) := by decide +kernel
theorem dX9_end_151 : decode cX9_end 151 = .ok (.aload_n 0, 1) := by decide +kernel
theorem dX9_end_152 : decode cX9_end 152 = .ok (.dup, 1) := by decide +kernel
theorem dX9_end_153 : decode cX9_end 153 = .ok (.getfield 175, 3) := by decide +kernel
theorem dX9_end_156 : decode cX9_end 156 = .ok (.iconst 1, 1) := by decide +kernel
theorem dX9_end_157 : decode cX9_end 157 = .ok (.iadd, 1) := by decide +kernel
theorem dX9_end_158 : decode cX9_end 158 = .ok (.putfield 175, 3) := by decide +kernel
theorem dX9_end_161 : decode cX9_end 161 = .ok (.return_, 1) := by decide +kernel
theorem dX9_begin_0 : decode cX9_begin 0 = .ok (.aload_n 0, 1) := by decide +kernel
theorem dX9_begin_1 : decode cX9_begin 1 = .ok (.getfield 172, 3) := by decide +kernel
theorem dX9_begin_4 : decode cX9_begin 4 = .ok (.ifCond .le 10, 3) := by decide +kernel
theorem dX9_begin_7 : decode cX9_begin 7 = .ok (.aload_n 0, 1) := by decide +kernel
theorem dX9_begin_8 : decode cX9_begin 8 = .ok (.ldc 181, 2) := by decide +kernel
theorem dX9_begin_10 : decode cX9_begin 10 = .ok (.invokevirtual 110, 3) := by decide +kernel
theorem dX9_begin_13 : decode cX9_begin 13 = .ok (.ireturn, 1) := by decide +kernel
theorem dX9_begin_14 : decode cX9_begin 14 = .ok (.aload_n 0, 1) := by decide +kernel
theorem dX9_begin_15 : decode cX9_begin 15 = .ok (.invokevirtual 162, 3) := by decide +kernel
theorem dX9_begin_18 : decode cX9_begin 18 = .ok (.aload_n 0, 1) := by decide +kernel
theorem dX9_begin_19 : decode cX9_begin 19 = .ok (.getfield 155, 3) := by decide +kernel
theorem dX9_begin_22 : decode cX9_begin 22 = .ok (.ifCond .ne 12, 3) := by decide +kernel
theorem dX9_begin_25 : decode cX9_begin 25 = .ok (.aload_n 0, 1) := by decide +kernel
theorem dX9_begin_26 : decode cX9_begin 26 = .ok (.ldc 141, 2) := by decide +kernel
theorem dX9_begin_28 : decode cX9_begin 28 = .ok (.invokevirtual 110, 3) := by decide +kernel
theorem dX9_begin_31 : decode cX9_begin 31 = .ok (.goto 13, 3) := by decide +kernel
theorem dX9_begin_34 : decode cX9_begin 34 = .ok (.aload_n 0, 1) := by decide +kernel
theorem dX9_begin_35 : decode cX9_begin 35 = .ok (.aload_n 0, 1) := by decide +kernel
theorem dX9_begin_36 : decode cX9_begin 36 = .ok (.getfield 81, 3) := by decide +kernel
theorem dX9_begin_39 : decode cX9_begin 39 = .ok (.iconst 0, 1) := by decide +kernel
theorem dX9_begin_40 : decode cX9_begin 40 = .ok (.iaload, 1) := by decide +kernel
theorem dX9_begin_41 : decode cX9_begin 41 = .ok (.invokevirtual 182, 3) := by decide +kernel
theorem dX9_begin_44 : decode cX9_begin 44 = .ok (.ireturn, 1) := by decide +kernel
theorem dX9_cut_0 : decode cX9_cut 0 = .ok (.aload_n 0, 1) := by decide +kernel
theorem dX9_cut_1 : decode cX9_cut 1 = .ok (.iconst 2, 1) := by decide +kernel
theorem dX9_cut_2 : decode cX9_cut 2 = .ok (.invokevirtual 165, 3) := by decide +kernel
theorem dX9_cut_5 : decode cX9_cut 5 = .ok (.istore_n 1, 1) := by decide +kernel
theorem dX9_cut_6 : decode cX9_cut 6 = .ok (.aload_n 0, 1) := by decide +kernel
theorem dX9_cut_7 : decode cX9_cut 7 = .ok (.getfield 172, 3) := by decide +kernel
theorem dX9_cut_10 : decode cX9_cut 10 = .ok (.ifCond .eq 7, 3) := by decide +kernel
theorem dX9_cut_13 : decode cX9_cut 13 = .ok (.iload_n 1, 1) := by decide +kernel
theorem dX9_cut_14 : decode cX9_cut 14 = .ok (.ifCond .ge 10, 3) := by decide +kernel
theorem dX9_cut_17 : decode cX9_cut 17 = .ok (.aload_n 0, 1) := by decide +kernel
theorem dX9_cut_18 : decode cX9_cut 18 = .ok (.ldc 141, 2) := by decide +kernel
theorem dX9_cut_20 : decode cX9_cut 20 = .ok (.invokevirtual 110, 3) := by decide +kernel
theorem dX9_cut_23 : decode cX9_cut 23 = .ok (.ireturn, 1) := by decide +kernel
theorem dX9_cut_24 : decode cX9_cut 24 = .ok (.aload_n 0, 1) := by decide +kernel
theorem dX9_cut_25 : decode cX9_cut 25 = .ok (.getfield 172, 3) := by decide +kernel
theorem dX9_cut_28 : decode cX9_cut 28 = .ok (.iconst 4, 1) := by decide +kernel
theorem dX9_cut_29 : decode cX9_cut 29 = .ok (.if_icmp .le 12, 3) := by decide +kernel
theorem dX9_cut_32 : decode cX9_cut 32 = .ok (.aload_n 0, 1) := by decide +kernel
theorem dX9_cut_33 : decode cX9_cut 33 = .ok (.ldc 114, 2) := by decide +kernel
theorem dX9_cut_35 : decode cX9_cut 35 = .ok (.invokevirtual 110, 3) := by decide +kernel
theorem dX9_cut_38 : decode cX9_cut 38 = .ok (.goto 8, 3) := by decide +kernel
theorem dX9_cut_41 : decode cX9_cut 41 = .ok (.aload_n 0, 1) := by decide +kernel
theorem dX9_cut_42 : decode cX9_cut 42 = .ok (.iload_n 1, 1) := by decide +kernel
theorem dX9_cut_43 : decode cX9_cut 43 = .ok (.invokevirtual 182, 3) := by decide +kernel
theorem dX9_cut_46 : decode cX9_cut 46 = .ok (.ireturn, 1) := by decide +kernel
theorem dX9_tick_0 : decode cX9_tick 0 = .ok (.iload_n 1, 1) := by decide +kernel
theorem dX9_tick_1 : decode cX9_tick 1 = .ok (.iconst 1, 1) := by decide +kernel
theorem dX9_tick_2 : decode cX9_tick 2 = .ok (.bipush 100, 2) := by decide +kernel
theorem dX9_tick_4 : decode cX9_tick 4 = .ok (.invokestatic 105, 3) := by decide +kernel
theorem dX9_tick_7 : decode cX9_tick 7 = .ok (.ifCond .ne 10, 3) := by decide +kernel
theorem dX9_tick_10 : decode cX9_tick 10 = .ok (.aload_n 0, 1) := by decide +kernel
theorem dX9_tick_11 : decode cX9_tick 11 = .ok (.ldc 109, 2) := by decide +kernel
theorem dX9_tick_13 : decode cX9_tick 13 = .ok (.invokevirtual 110, 3) := by decide +kernel
theorem dX9_tick_16 : decode cX9_tick 16 = .ok (.ireturn, 1) := by decide +kernel
theorem dX9_tick_17 : decode cX9_tick 17 = .ok (.iconst 0, 1) := by decide +kernel
theorem dX9_tick_18 : decode cX9_tick 18 = .ok (.istore_n 2, 1) := by decide +kernel
theorem dX9_tick_19 : decode cX9_tick 19 = .ok (.iconst 0, 1) := by decide +kernel
theorem dX9_tick_20 : decode cX9_tick 20 = .ok (.istore_n 3, 1) := by decide +kernel
theorem dX9_tick_21 : decode cX9_tick 21 = .ok (.iload_n 3, 1) := by decide +kernel
theorem dX9_tick_22 : decode cX9_tick 22 = .ok (.iload_n 1, 1) := by decide +kernel
theorem dX9_tick_23 : decode cX9_tick 23 = .ok (.if_icmp .ge 79, 3) := by decide +kernel
theorem dX9_tick_26 : decode cX9_tick 26 = .ok (.aload_n 0, 1) := by decide +kernel
theorem dX9_tick_27 : decode cX9_tick 27 = .ok (.getfield 172, 3) := by decide +kernel
theorem dX9_tick_30 : decode cX9_tick 30 = .ok (.ifCond .le 72, 3) := by decide +kernel
theorem dX9_tick_33 : decode cX9_tick 33 = .ok (.aload_n 0, 1) := by decide +kernel
theorem dX9_tick_34 : decode cX9_tick 34 = .ok (.getfield 172, 3) := by decide +kernel
theorem dX9_tick_37 : decode cX9_tick 37 = .ok (.iconst 1, 1) := by decide +kernel
theorem dX9_tick_38 : decode cX9_tick 38 = .ok (.isub, 1) := by decide +kernel
theorem dX9_tick_39 : decode cX9_tick 39 = .ok (.istore 4, 2) := by decide +kernel
theorem dX9_tick_41 : decode cX9_tick 41 = .ok (.aload_n 0, 1) := by decide +kernel
theorem dX9_tick_42 : decode cX9_tick 42 = .ok (.getfield 20, 3) := by decide +kernel
theorem dX9_tick_45 : decode cX9_tick 45 = .ok (.aload_n 0, 1) := by decide +kernel
theorem dX9_tick_46 : decode cX9_tick 46 = .ok (.getfield 39, 3) := by decide +kernel
theorem dX9_tick_49 : decode cX9_tick 49 = .ok (.iload 4, 2) := by decide +kernel
theorem dX9_tick_51 : decode cX9_tick 51 = .ok (.iaload, 1) := by decide +kernel
theorem dX9_tick_52 : decode cX9_tick 52 = .ok (.dup2, 1) := by decide +kernel
theorem dX9_tick_53 : decode cX9_tick 53 = .ok (.iaload, 1) := by decide +kernel
theorem dX9_tick_54 : decode cX9_tick 54 = .ok (.iconst 1, 1) := by decide +kernel
theorem dX9_tick_55 : decode cX9_tick 55 = .ok (.iadd, 1) := by decide +kernel
theorem dX9_tick_56 : decode cX9_tick 56 = .ok (.iastore, 1) := by decide +kernel
theorem dX9_tick_57 : decode cX9_tick 57 = .ok (.aload_n 0, 1) := by decide +kernel
theorem dX9_tick_58 : decode cX9_tick 58 = .ok (.getfield 48, 3) := by decide +kernel
theorem dX9_tick_61 : decode cX9_tick 61 = .ok (.iload 4, 2) := by decide +kernel
theorem dX9_tick_63 : decode cX9_tick 63 = .ok (.dup2, 1) := by decide +kernel
theorem dX9_tick_64 : decode cX9_tick 64 = .ok (.iaload, 1) := by decide +kernel
theorem dX9_tick_65 : decode cX9_tick 65 = .ok (.iconst 1, 1) := by decide +kernel
theorem dX9_tick_66 : decode cX9_tick 66 = .ok (.iadd, 1) := by decide +kernel
theorem dX9_tick_67 : decode cX9_tick 67 = .ok (.iastore, 1) := by decide +kernel
theorem dX9_tick_68 : decode cX9_tick 68 = .ok (.aload_n 0, 1) := by decide +kernel
theorem dX9_tick_69 : decode cX9_tick 69 = .ok (.getfield 45, 3) := by decide +kernel
theorem dX9_tick_72 : decode cX9_tick 72 = .ok (.iload 4, 2) := by decide +kernel
theorem dX9_tick_74 : decode cX9_tick 74 = .ok (.dup2, 1) := by decide +kernel
theorem dX9_tick_75 : decode cX9_tick 75 = .ok (.iaload, 1) := by decide +kernel
theorem dX9_tick_76 : decode cX9_tick 76 = .ok (.iconst 1, 1) := by decide +kernel
theorem dX9_tick_77 : decode cX9_tick 77 = .ok (.isub, 1) := by decide +kernel
theorem dX9_tick_78 : decode cX9_tick 78 = .ok (.iastore, 1) := by decide +kernel
theorem dX9_tick_79 : decode cX9_tick 79 = .ok (.iinc 2 1, 3) := by decide +kernel
theorem dX9_tick_82 : decode cX9_tick 82 = .ok (.aload_n 0, 1) := by decide +kernel
theorem dX9_tick_83 : decode cX9_tick 83 = .ok (.getfield 45, 3) := by decide +kernel
theorem dX9_tick_86 : decode cX9_tick 86 = .ok (.iload 4, 2) := by decide +kernel
theorem dX9_tick_88 : decode cX9_tick 88 = .ok (.iaload, 1) := by decide +kernel
theorem dX9_tick_89 : decode cX9_tick 89 = .ok (.ifCond .ne 7, 3) := by decide +kernel
theorem dX9_tick_92 : decode cX9_tick 92 = .ok (.aload_n 0, 1) := by decide +kernel
theorem dX9_tick_93 : decode cX9_tick 93 = .ok (.invokevirtual 185, 3) := by decide +kernel
theorem dX9_tick_96 : decode cX9_tick 96 = .ok (.iinc 3 1, 3) := by decide +kernel
theorem dX9_tick_99 : decode cX9_tick 99 = .ok (.goto (-78), 3) := by decide +kernel
theorem dX9_tick_102 : decode cX9_tick 102 = .ok (.iload_n 2, 1) := by decide +kernel
theorem dX9_tick_103 : decode cX9_tick 103 = .ok (.ireturn, 1) := by decide +kernel
theorem dX9_yield_0 : decode cX9_yield 0 = .ok (.aload_n 0, 1) := by decide +kernel
theorem dX9_yield_1 : decode cX9_yield 1 = .ok (.getfield 172, 3) := by decide +kernel
theorem dX9_yield_4 : decode cX9_yield 4 = .ok (.ifCond .ne 10, 3) := by decide +kernel
theorem dX9_yield_7 : decode cX9_yield 7 = .ok (.aload_n 0, 1) := by decide +kernel
theorem dX9_yield_8 : decode cX9_yield 8 = .ok (.ldc 141, 2) := by decide +kernel
theorem dX9_yield_10 : decode cX9_yield 10 = .ok (.invokevirtual 110, 3) := by decide +kernel
theorem dX9_yield_13 : decode cX9_yield 13 = .ok (.ireturn, 1) := by decide +kernel
theorem dX9_yield_14 : decode cX9_yield 14 = .ok (.aload_n 0, 1) := by decide +kernel
theorem dX9_yield_15 : decode cX9_yield 15 = .ok (.invokevirtual 185, 3) := by decide +kernel
theorem dX9_yield_18 : decode cX9_yield 18 = .ok (.aload_n 0, 1) := by decide +kernel
theorem dX9_yield_19 : decode cX9_yield 19 = .ok (.getfield 172, 3) := by decide +kernel
theorem dX9_yield_22 : decode cX9_yield 22 = .ok (.ifCond .ne 7, 3) := by decide +kernel
theorem dX9_yield_25 : decode cX9_yield 25 = .ok (.iconst (-1), 1) := by decide +kernel
theorem dX9_yield_26 : decode cX9_yield 26 = .ok (.goto 14, 3) := by decide +kernel
theorem dX9_yield_29 : decode cX9_yield 29 = .ok (.aload_n 0, 1) := by decide +kernel
theorem dX9_yield_30 : decode cX9_yield 30 = .ok (.getfield 39, 3) := by decide +kernel
theorem dX9_yield_33 : decode cX9_yield 33 = .ok (.aload_n 0, 1) := by decide +kernel
theorem dX9_yield_34 : decode cX9_yield 34 = .ok (.getfield 172, 3) := by decide +kernel
theorem dX9_yield_37 : decode cX9_yield 37 = .ok (.iconst 1, 1) := by decide +kernel
theorem dX9_yield_38 : decode cX9_yield 38 = .ok (.isub, 1) := by decide +kernel
theorem dX9_yield_39 : decode cX9_yield 39 = .ok (.iaload, 1) := by decide +kernel
theorem dX9_yield_40 : decode cX9_yield 40 = .ok (.ireturn, 1) := by decide +kernel
theorem dX9_floor_0 : decode cX9_floor 0 = .ok (.iload_n 1, 1) := by decide +kernel
theorem dX9_floor_1 : decode cX9_floor 1 = .ok (.iconst 0, 1) := by decide +kernel
theorem dX9_floor_2 : decode cX9_floor 2 = .ok (.iconst 3, 1) := by decide +kernel
theorem dX9_floor_3 : decode cX9_floor 3 = .ok (.invokestatic 105, 3) := by decide +kernel
theorem dX9_floor_6 : decode cX9_floor 6 = .ok (.ifCond .ne 10, 3) := by decide +kernel
theorem dX9_floor_9 : decode cX9_floor 9 = .ok (.aload_n 0, 1) := by decide +kernel
theorem dX9_floor_10 : decode cX9_floor 10 = .ok (.ldc 109, 2) := by decide +kernel
theorem dX9_floor_12 : decode cX9_floor 12 = .ok (.invokevirtual 110, 3) := by decide +kernel
theorem dX9_floor_15 : decode cX9_floor 15 = .ok (.ireturn, 1) := by decide +kernel
theorem dX9_floor_16 : decode cX9_floor 16 = .ok (.iload_n 1, 1) := by decide +kernel
theorem dX9_floor_17 : decode cX9_floor 17 = .ok (.iconst 3, 1) := by decide +kernel
theorem dX9_floor_18 : decode cX9_floor 18 = .ok (.if_icmp .ne 21, 3) := by decide +kernel
theorem dX9_floor_21 : decode cX9_floor 21 = .ok (.aload_n 0, 1) := by decide +kernel
theorem dX9_floor_22 : decode cX9_floor 22 = .ok (.getfield 172, 3) := by decide +kernel
theorem dX9_floor_25 : decode cX9_floor 25 = .ok (.ifCond .ne 7, 3) := by decide +kernel
theorem dX9_floor_28 : decode cX9_floor 28 = .ok (.iconst 0, 1) := by decide +kernel
theorem dX9_floor_29 : decode cX9_floor 29 = .ok (.goto 9, 3) := by decide +kernel
theorem dX9_floor_32 : decode cX9_floor 32 = .ok (.aload_n 0, 1) := by decide +kernel
theorem dX9_floor_33 : decode cX9_floor 33 = .ok (.getfield 172, 3) := by decide +kernel
theorem dX9_floor_36 : decode cX9_floor 36 = .ok (.iconst 1, 1) := by decide +kernel
theorem dX9_floor_37 : decode cX9_floor 37 = .ok (.isub, 1) := by decide +kernel
theorem dX9_floor_38 : decode cX9_floor 38 = .ok (.ireturn, 1) := by decide +kernel
theorem dX9_floor_39 : decode cX9_floor 39 = .ok (.aload_n 0, 1) := by decide +kernel
theorem dX9_floor_40 : decode cX9_floor 40 = .ok (.getfield 172, 3) := by decide +kernel
theorem dX9_floor_43 : decode cX9_floor 43 = .ok (.ifCond .ne 10, 3) := by decide +kernel
theorem dX9_floor_46 : decode cX9_floor 46 = .ok (.aload_n 0, 1) := by decide +kernel
theorem dX9_floor_47 : decode cX9_floor 47 = .ok (.ldc 141, 2) := by decide +kernel
theorem dX9_floor_49 : decode cX9_floor 49 = .ok (.invokevirtual 110, 3) := by decide +kernel
theorem dX9_floor_52 : decode cX9_floor 52 = .ok (.ireturn, 1) := by decide +kernel
theorem dX9_floor_53 : decode cX9_floor 53 = .ok (.iload_n 1, 1) := by decide +kernel
theorem dX9_floor_54 : decode cX9_floor 54 = .ok (.ifCond .ne 17, 3) := by decide +kernel
theorem dX9_floor_57 : decode cX9_floor 57 = .ok (.aload_n 0, 1) := by decide +kernel
theorem dX9_floor_58 : decode cX9_floor 58 = .ok (.getfield 39, 3) := by decide +kernel
theorem dX9_floor_61 : decode cX9_floor 61 = .ok (.aload_n 0, 1) := by decide +kernel
theorem dX9_floor_62 : decode cX9_floor 62 = .ok (.getfield 172, 3) := by decide +kernel
theorem dX9_floor_65 : decode cX9_floor 65 = .ok (.iconst 1, 1) := by decide +kernel
theorem dX9_floor_66 : decode cX9_floor 66 = .ok (.isub, 1) := by decide +kernel
theorem dX9_floor_67 : decode cX9_floor 67 = .ok (.iaload, 1) := by decide +kernel
theorem dX9_floor_68 : decode cX9_floor 68 = .ok (.goto 33, 3) := by decide +kernel
theorem dX9_floor_71 : decode cX9_floor 71 = .ok (.iload_n 1, 1) := by decide +kernel
theorem dX9_floor_72 : decode cX9_floor 72 = .ok (.iconst 1, 1) := by decide +kernel
theorem dX9_floor_73 : decode cX9_floor 73 = .ok (.if_icmp .ne 17, 3) := by decide +kernel
theorem dX9_floor_76 : decode cX9_floor 76 = .ok (.aload_n 0, 1) := by decide +kernel
theorem dX9_floor_77 : decode cX9_floor 77 = .ok (.getfield 42, 3) := by decide +kernel
theorem dX9_floor_80 : decode cX9_floor 80 = .ok (.aload_n 0, 1) := by decide +kernel
theorem dX9_floor_81 : decode cX9_floor 81 = .ok (.getfield 172, 3) := by decide +kernel
theorem dX9_floor_84 : decode cX9_floor 84 = .ok (.iconst 1, 1) := by decide +kernel
theorem dX9_floor_85 : decode cX9_floor 85 = .ok (.isub, 1) := by decide +kernel
theorem dX9_floor_86 : decode cX9_floor 86 = .ok (.iaload, 1) := by decide +kernel
theorem dX9_floor_87 : decode cX9_floor 87 = .ok (.goto 14, 3) := by decide +kernel
theorem dX9_floor_90 : decode cX9_floor 90 = .ok (.aload_n 0, 1) := by decide +kernel
theorem dX9_floor_91 : decode cX9_floor 91 = .ok (.getfield 45, 3) := by decide +kernel
theorem dX9_floor_94 : decode cX9_floor 94 = .ok (.aload_n 0, 1) := by decide +kernel
theorem dX9_floor_95 : decode cX9_floor 95 = .ok (.getfield 172, 3) := by decide +kernel
theorem dX9_floor_98 : decode cX9_floor 98 = .ok (.iconst 1, 1) := by decide +kernel
theorem dX9_floor_99 : decode cX9_floor 99 = .ok (.isub, 1) := by decide +kernel
theorem dX9_floor_100 : decode cX9_floor 100 = .ok (.iaload, 1) := by decide +kernel
theorem dX9_floor_101 : decode cX9_floor 101 = .ok (.ireturn, 1) := by decide +kernel
theorem dX9_limit_0 : decode cX9_limit 0 = .ok (.iload_n 1, 1) := by decide +kernel
theorem dX9_limit_1 : decode cX9_limit 1 = .ok (.invokestatic 129, 3) := by decide +kernel
theorem dX9_limit_4 : decode cX9_limit 4 = .ok (.ifCond .eq 13, 3) := by decide +kernel
theorem dX9_limit_7 : decode cX9_limit 7 = .ok (.iload_n 2, 1) := by decide +kernel
theorem dX9_limit_8 : decode cX9_limit 8 = .ok (.iconst 1, 1) := by decide +kernel
theorem dX9_limit_9 : decode cX9_limit 9 = .ok (.bipush 50, 2) := by decide +kernel
theorem dX9_limit_11 : decode cX9_limit 11 = .ok (.invokestatic 105, 3) := by decide +kernel
theorem dX9_limit_14 : decode cX9_limit 14 = .ok (.ifCond .ne 10, 3) := by decide +kernel
theorem dX9_limit_17 : decode cX9_limit 17 = .ok (.aload_n 0, 1) := by decide +kernel
theorem dX9_limit_18 : decode cX9_limit 18 = .ok (.ldc 109, 2) := by decide +kernel
theorem dX9_limit_20 : decode cX9_limit 20 = .ok (.invokevirtual 110, 3) := by decide +kernel
theorem dX9_limit_23 : decode cX9_limit 23 = .ok (.ireturn, 1) := by decide +kernel
theorem dX9_limit_24 : decode cX9_limit 24 = .ok (.aload_n 0, 1) := by decide +kernel
theorem dX9_limit_25 : decode cX9_limit 25 = .ok (.getfield 51, 3) := by decide +kernel
theorem dX9_limit_28 : decode cX9_limit 28 = .ok (.iload_n 1, 1) := by decide +kernel
theorem dX9_limit_29 : decode cX9_limit 29 = .ok (.iaload, 1) := by decide +kernel
theorem dX9_limit_30 : decode cX9_limit 30 = .ok (.istore_n 3, 1) := by decide +kernel
theorem dX9_limit_31 : decode cX9_limit 31 = .ok (.aload_n 0, 1) := by decide +kernel
theorem dX9_limit_32 : decode cX9_limit 32 = .ok (.getfield 51, 3) := by decide +kernel
theorem dX9_limit_35 : decode cX9_limit 35 = .ok (.iload_n 1, 1) := by decide +kernel
theorem dX9_limit_36 : decode cX9_limit 36 = .ok (.iload_n 2, 1) := by decide +kernel
theorem dX9_limit_37 : decode cX9_limit 37 = .ok (.iastore, 1) := by decide +kernel
theorem dX9_limit_38 : decode cX9_limit 38 = .ok (.iload_n 3, 1) := by decide +kernel
theorem dX9_limit_39 : decode cX9_limit 39 = .ok (.ireturn, 1) := by decide +kernel
theorem dX9_vote_0 : decode cX9_vote 0 = .ok (.aload_n 0, 1) := by decide +kernel
theorem dX9_vote_1 : decode cX9_vote 1 = .ok (.getfield 188, 3) := by decide +kernel
theorem dX9_vote_4 : decode cX9_vote 4 = .ok (.ifCond .eq 10, 3) := by decide +kernel
theorem dX9_vote_7 : decode cX9_vote 7 = .ok (.aload_n 0, 1) := by decide +kernel
theorem dX9_vote_8 : decode cX9_vote 8 = .ok (.ldc 181, 2) := by decide +kernel
theorem dX9_vote_10 : decode cX9_vote 10 = .ok (.invokevirtual 110, 3) := by decide +kernel
theorem dX9_vote_13 : decode cX9_vote 13 = .ok (.ireturn, 1) := by decide +kernel
theorem dX9_vote_14 : decode cX9_vote 14 = .ok (.aload_n 0, 1) := by decide +kernel
theorem dX9_vote_15 : decode cX9_vote 15 = .ok (.iconst 1, 1) := by decide +kernel
theorem dX9_vote_16 : decode cX9_vote 16 = .ok (.putfield 188, 3) := by decide +kernel
theorem dX9_vote_19 : decode cX9_vote 19 = .ok (.iconst 0, 1) := by decide +kernel
theorem dX9_vote_20 : decode cX9_vote 20 = .ok (.istore_n 1, 1) := by decide +kernel
theorem dX9_vote_21 : decode cX9_vote 21 = .ok (.iload_n 1, 1) := by decide +kernel
theorem dX9_vote_22 : decode cX9_vote 22 = .ok (.bipush 10, 2) := by decide +kernel
theorem dX9_vote_24 : decode cX9_vote 24 = .ok (.if_icmp .ge 16, 3) := by decide +kernel
theorem dX9_vote_27 : decode cX9_vote 27 = .ok (.aload_n 0, 1) := by decide +kernel
theorem dX9_vote_28 : decode cX9_vote 28 = .ok (.getfield 54, 3) := by decide +kernel
theorem dX9_vote_31 : decode cX9_vote 31 = .ok (.iload_n 1, 1) := by decide +kernel
theorem dX9_vote_32 : decode cX9_vote 32 = .ok (.iconst 0, 1) := by decide +kernel
theorem dX9_vote_33 : decode cX9_vote 33 = .ok (.iastore, 1) := by decide +kernel
theorem dX9_vote_34 : decode cX9_vote 34 = .ok (.iinc 1 1, 3) := by decide +kernel
theorem dX9_vote_37 : decode cX9_vote 37 = .ok (.goto (-16), 3) := by decide +kernel
theorem dX9_vote_40 : decode cX9_vote 40 = .ok (.iconst 1, 1) := by decide +kernel
theorem dX9_vote_41 : decode cX9_vote 41 = .ok (.ireturn, 1) := by decide +kernel
theorem dX9_mayVote_0 : decode cX9_mayVote 0 = .ok (.aload_n 0, 1) := by decide +kernel
theorem dX9_mayVote_1 : decode cX9_mayVote 1 = .ok (.getfield 16, 3) := by decide +kernel
theorem dX9_mayVote_4 : decode cX9_mayVote 4 = .ok (.iload_n 1, 1) := by decide +kernel
theorem dX9_mayVote_5 : decode cX9_mayVote 5 = .ok (.baload, 1) := by decide +kernel
theorem dX9_mayVote_6 : decode cX9_mayVote 6 = .ok (.ifCond .eq 15, 3) := by decide +kernel
theorem dX9_mayVote_9 : decode cX9_mayVote 9 = .ok (.aload_n 0, 1) := by decide +kernel
theorem dX9_mayVote_10 : decode cX9_mayVote 10 = .ok (.iload_n 1, 1) := by decide +kernel
theorem dX9_mayVote_11 : decode cX9_mayVote 11 = .ok (.invokevirtual 119, 3) := by decide +kernel
theorem dX9_mayVote_14 : decode cX9_mayVote 14 = .ok (.ifCond .ne 7, 3) := by decide +kernel
theorem dX9_mayVote_17 : decode cX9_mayVote 17 = .ok (.iconst 1, 1) := by decide +kernel
theorem dX9_mayVote_18 : decode cX9_mayVote 18 = .ok (.goto 4, 3) := by decide +kernel
theorem dX9_mayVote_21 : decode cX9_mayVote 21 = .ok (.iconst 0, 1) := by decide +kernel
theorem dX9_mayVote_22 : decode cX9_mayVote 22 = .ok (.ireturn, 1) := by decide +kernel
theorem dX9_say_0 : decode cX9_say 0 = .ok (.aload_n 0, 1) := by decide +kernel
theorem dX9_say_1 : decode cX9_say 1 = .ok (.iload_n 1, 1) := by decide +kernel
theorem dX9_say_2 : decode cX9_say 2 = .ok (.invokevirtual 115, 3) := by decide +kernel
theorem dX9_say_5 : decode cX9_say 5 = .ok (.ifCond .eq 12, 3) := by decide +kernel
theorem dX9_say_8 : decode cX9_say 8 = .ok (.iload_n 2, 1) := by decide +kernel
theorem dX9_say_9 : decode cX9_say 9 = .ok (.iconst 0, 1) := by decide +kernel
theorem dX9_say_10 : decode cX9_say 10 = .ok (.iconst 2, 1) := by decide +kernel
theorem dX9_say_11 : decode cX9_say 11 = .ok (.invokestatic 105, 3) := by decide +kernel
theorem dX9_say_14 : decode cX9_say 14 = .ok (.ifCond .ne 10, 3) := by decide +kernel
theorem dX9_say_17 : decode cX9_say 17 = .ok (.aload_n 0, 1) := by decide +kernel
theorem dX9_say_18 : decode cX9_say 18 = .ok (.ldc 109, 2) := by decide +kernel
theorem dX9_say_20 : decode cX9_say 20 = .ok (.invokevirtual 110, 3) := by decide +kernel
theorem dX9_say_23 : decode cX9_say 23 = .ok (.ireturn, 1) := by decide +kernel
theorem dX9_say_24 : decode cX9_say 24 = .ok (.aload_n 0, 1) := by decide +kernel
theorem dX9_say_25 : decode cX9_say 25 = .ok (.getfield 188, 3) := by decide +kernel
theorem dX9_say_28 : decode cX9_say 28 = .ok (.ifCond .ne 10, 3) := by decide +kernel
theorem dX9_say_31 : decode cX9_say 31 = .ok (.aload_n 0, 1) := by decide +kernel
theorem dX9_say_32 : decode cX9_say 32 = .ok (.ldc 141, 2) := by decide +kernel
theorem dX9_say_34 : decode cX9_say 34 = .ok (.invokevirtual 110, 3) := by decide +kernel
theorem dX9_say_37 : decode cX9_say 37 = .ok (.ireturn, 1) := by decide +kernel
theorem dX9_say_38 : decode cX9_say 38 = .ok (.aload_n 0, 1) := by decide +kernel
theorem dX9_say_39 : decode cX9_say 39 = .ok (.iload_n 1, 1) := by decide +kernel
theorem dX9_say_40 : decode cX9_say 40 = .ok (.invokevirtual 192, 3) := by decide +kernel
theorem dX9_say_43 : decode cX9_say 43 = .ok (.ifCond .ne 10, 3) := by decide +kernel
theorem dX9_say_46 : decode cX9_say 46 = .ok (.aload_n 0, 1) := by decide +kernel
theorem dX9_say_47 : decode cX9_say 47 = .ok (.ldc 122, 2) := by decide +kernel
theorem dX9_say_49 : decode cX9_say 49 = .ok (.invokevirtual 110, 3) := by decide +kernel
theorem dX9_say_52 : decode cX9_say 52 = .ok (.ireturn, 1) := by decide +kernel
theorem dX9_say_53 : decode cX9_say 53 = .ok (.aload_n 0, 1) := by decide +kernel
theorem dX9_say_54 : decode cX9_say 54 = .ok (.getfield 54, 3) := by decide +kernel
theorem dX9_say_57 : decode cX9_say 57 = .ok (.iload_n 1, 1) := by decide +kernel
theorem dX9_say_58 : decode cX9_say 58 = .ok (.iaload, 1) := by decide +kernel
theorem dX9_say_59 : decode cX9_say 59 = .ok (.istore_n 3, 1) := by decide +kernel
theorem dX9_say_60 : decode cX9_say 60 = .ok (.aload_n 0, 1) := by decide +kernel
theorem dX9_say_61 : decode cX9_say 61 = .ok (.getfield 54, 3) := by decide +kernel
theorem dX9_say_64 : decode cX9_say 64 = .ok (.iload_n 1, 1) := by decide +kernel
theorem dX9_say_65 : decode cX9_say 65 = .ok (.iload_n 2, 1) := by decide +kernel
theorem dX9_say_66 : decode cX9_say 66 = .ok (.iastore, 1) := by decide +kernel
theorem dX9_say_67 : decode cX9_say 67 = .ok (.iload_n 3, 1) := by decide +kernel
theorem dX9_say_68 : decode cX9_say 68 = .ok (.ireturn, 1) := by decide +kernel
theorem dX9_votesOf_0 : decode cX9_votesOf 0 = .ok (.iconst 0, 1) := by decide +kernel
theorem dX9_votesOf_1 : decode cX9_votesOf 1 = .ok (.istore_n 2, 1) := by decide +kernel
theorem dX9_votesOf_2 : decode cX9_votesOf 2 = .ok (.iconst 0, 1) := by decide +kernel
theorem dX9_votesOf_3 : decode cX9_votesOf 3 = .ok (.istore_n 3, 1) := by decide +kernel
theorem dX9_votesOf_4 : decode cX9_votesOf 4 = .ok (.iload_n 3, 1) := by decide +kernel
theorem dX9_votesOf_5 : decode cX9_votesOf 5 = .ok (.aload_n 0, 1) := by decide +kernel
theorem dX9_votesOf_6 : decode cX9_votesOf 6 = .ok (.getfield 102, 3) := by decide +kernel
theorem dX9_votesOf_9 : decode cX9_votesOf 9 = .ok (.if_icmp .ge 35, 3) := by decide +kernel
theorem dX9_votesOf_12 : decode cX9_votesOf 12 = .ok (.iload_n 2, 1) := by decide +kernel
theorem dX9_votesOf_13 : decode cX9_votesOf 13 = .ok (.aload_n 0, 1) := by decide +kernel
theorem dX9_votesOf_14 : decode cX9_votesOf 14 = .ok (.iload_n 3, 1) := by decide +kernel
theorem dX9_votesOf_15 : decode cX9_votesOf 15 = .ok (.invokevirtual 192, 3) := by decide +kernel
theorem dX9_votesOf_18 : decode cX9_votesOf 18 = .ok (.ifCond .eq 17, 3) := by decide +kernel
theorem dX9_votesOf_21 : decode cX9_votesOf 21 = .ok (.aload_n 0, 1) := by decide +kernel
theorem dX9_votesOf_22 : decode cX9_votesOf 22 = .ok (.getfield 54, 3) := by decide +kernel
theorem dX9_votesOf_25 : decode cX9_votesOf 25 = .ok (.iload_n 3, 1) := by decide +kernel
theorem dX9_votesOf_26 : decode cX9_votesOf 26 = .ok (.iaload, 1) := by decide +kernel
theorem dX9_votesOf_27 : decode cX9_votesOf 27 = .ok (.iload_n 1, 1) := by decide +kernel
theorem dX9_votesOf_28 : decode cX9_votesOf 28 = .ok (.if_icmp .ne 7, 3) := by decide +kernel
theorem dX9_votesOf_31 : decode cX9_votesOf 31 = .ok (.iconst 1, 1) := by decide +kernel
theorem dX9_votesOf_32 : decode cX9_votesOf 32 = .ok (.goto 4, 3) := by decide +kernel
theorem dX9_votesOf_35 : decode cX9_votesOf 35 = .ok (.iconst 0, 1) := by decide +kernel
theorem dX9_votesOf_36 : decode cX9_votesOf 36 = .ok (.iadd, 1) := by decide +kernel
theorem dX9_votesOf_37 : decode cX9_votesOf 37 = .ok (.istore_n 2, 1) := by decide +kernel
theorem dX9_votesOf_38 : decode cX9_votesOf 38 = .ok (.iinc 3 1, 3) := by decide +kernel
theorem dX9_votesOf_41 : decode cX9_votesOf 41 = .ok (.goto (-37), 3) := by decide +kernel
theorem dX9_votesOf_44 : decode cX9_votesOf 44 = .ok (.iload_n 2, 1) := by decide +kernel
theorem dX9_votesOf_45 : decode cX9_votesOf 45 = .ok (.ireturn, 1) := by decide +kernel
theorem dX9_votes_0 : decode cX9_votes 0 = .ok (.iload_n 1, 1) := by decide +kernel
theorem dX9_votes_1 : decode cX9_votes 1 = .ok (.iconst 0, 1) := by decide +kernel
theorem dX9_votes_2 : decode cX9_votes 2 = .ok (.iconst 2, 1) := by decide +kernel
theorem dX9_votes_3 : decode cX9_votes 3 = .ok (.invokestatic 105, 3) := by decide +kernel
theorem dX9_votes_6 : decode cX9_votes 6 = .ok (.ifCond .ne 10, 3) := by decide +kernel
theorem dX9_votes_9 : decode cX9_votes 9 = .ok (.aload_n 0, 1) := by decide +kernel
theorem dX9_votes_10 : decode cX9_votes 10 = .ok (.ldc 109, 2) := by decide +kernel
theorem dX9_votes_12 : decode cX9_votes 12 = .ok (.invokevirtual 110, 3) := by decide +kernel
theorem dX9_votes_15 : decode cX9_votes 15 = .ok (.ireturn, 1) := by decide +kernel
theorem dX9_votes_16 : decode cX9_votes 16 = .ok (.aload_n 0, 1) := by decide +kernel
theorem dX9_votes_17 : decode cX9_votes 17 = .ok (.getfield 188, 3) := by decide +kernel
theorem dX9_votes_20 : decode cX9_votes 20 = .ok (.ifCond .eq 11, 3) := by decide +kernel
theorem dX9_votes_23 : decode cX9_votes 23 = .ok (.aload_n 0, 1) := by decide +kernel
theorem dX9_votes_24 : decode cX9_votes 24 = .ok (.iload_n 1, 1) := by decide +kernel
theorem dX9_votes_25 : decode cX9_votes 25 = .ok (.invokevirtual 195, 3) := by decide +kernel
theorem dX9_votes_28 : decode cX9_votes 28 = .ok (.goto 9, 3) := by decide +kernel
theorem dX9_votes_31 : decode cX9_votes 31 = .ok (.aload_n 0, 1) := by decide +kernel
theorem dX9_votes_32 : decode cX9_votes 32 = .ok (.ldc 141, 2) := by decide +kernel
theorem dX9_votes_34 : decode cX9_votes 34 = .ok (.invokevirtual 110, 3) := by decide +kernel
theorem dX9_votes_37 : decode cX9_votes 37 = .ok (.ireturn, 1) := by decide +kernel
theorem dX9_passes_0 : decode cX9_passes 0 = .ok (.iload_n 0, 1) := by decide +kernel
theorem dX9_passes_1 : decode cX9_passes 1 = .ok (.iconst 1, 1) := by decide +kernel
theorem dX9_passes_2 : decode cX9_passes 2 = .ok (.if_icmp .ne 16, 3) := by decide +kernel
theorem dX9_passes_5 : decode cX9_passes 5 = .ok (.iload_n 1, 1) := by decide +kernel
theorem dX9_passes_6 : decode cX9_passes 6 = .ok (.iload_n 2, 1) := by decide +kernel
theorem dX9_passes_7 : decode cX9_passes 7 = .ok (.if_icmp .le 7, 3) := by decide +kernel
theorem dX9_passes_10 : decode cX9_passes 10 = .ok (.iconst 1, 1) := by decide +kernel
theorem dX9_passes_11 : decode cX9_passes 11 = .ok (.goto 39, 3) := by decide +kernel
theorem dX9_passes_14 : decode cX9_passes 14 = .ok (.iconst 0, 1) := by decide +kernel
theorem dX9_passes_15 : decode cX9_passes 15 = .ok (.goto 35, 3) := by decide +kernel
theorem dX9_passes_18 : decode cX9_passes 18 = .ok (.iload_n 1, 1) := by decide +kernel
theorem dX9_passes_19 : decode cX9_passes 19 = .ok (.ifCond .le 30, 3) := by decide +kernel
theorem dX9_passes_22 : decode cX9_passes 22 = .ok (.iload_n 0, 1) := by decide +kernel
theorem dX9_passes_23 : decode cX9_passes 23 = .ok (.iconst 2, 1) := by decide +kernel
theorem dX9_passes_24 : decode cX9_passes 24 = .ok (.if_icmp .ne 17, 3) := by decide +kernel
theorem dX9_passes_27 : decode cX9_passes 27 = .ok (.iconst 3, 1) := by decide +kernel
theorem dX9_passes_28 : decode cX9_passes 28 = .ok (.iload_n 1, 1) := by decide +kernel
theorem dX9_passes_29 : decode cX9_passes 29 = .ok (.imul, 1) := by decide +kernel
theorem dX9_passes_30 : decode cX9_passes 30 = .ok (.iconst 2, 1) := by decide +kernel
theorem dX9_passes_31 : decode cX9_passes 31 = .ok (.iload_n 1, 1) := by decide +kernel
theorem dX9_passes_32 : decode cX9_passes 32 = .ok (.iload_n 2, 1) := by decide +kernel
theorem dX9_passes_33 : decode cX9_passes 33 = .ok (.iadd, 1) := by decide +kernel
theorem dX9_passes_34 : decode cX9_passes 34 = .ok (.imul, 1) := by decide +kernel
theorem dX9_passes_35 : decode cX9_passes 35 = .ok (.if_icmp .lt 14, 3) := by decide +kernel
theorem dX9_passes_38 : decode cX9_passes 38 = .ok (.goto 7, 3) := by decide +kernel
theorem dX9_passes_41 : decode cX9_passes 41 = .ok (.iload_n 2, 1) := by decide +kernel
theorem dX9_passes_42 : decode cX9_passes 42 = .ok (.ifCond .ne 7, 3) := by decide +kernel
theorem dX9_passes_45 : decode cX9_passes 45 = .ok (.iconst 1, 1) := by decide +kernel
theorem dX9_passes_46 : decode cX9_passes 46 = .ok (.goto 4, 3) := by decide +kernel
theorem dX9_passes_49 : decode cX9_passes 49 = .ok (.iconst 0, 1) := by decide +kernel
theorem dX9_passes_50 : decode cX9_passes 50 = .ok (.ireturn, 1) := by decide +kernel
theorem dX9_close_0 : decode cX9_close 0 = .ok (.iload_n 1, 1) := by decide +kernel
theorem dX9_close_1 : decode cX9_close 1 = .ok (.iconst 1, 1) := by decide +kernel
theorem dX9_close_2 : decode cX9_close 2 = .ok (.iconst 3, 1) := by decide +kernel
theorem dX9_close_3 : decode cX9_close 3 = .ok (.invokestatic 105, 3) := by decide +kernel
theorem dX9_close_6 : decode cX9_close 6 = .ok (.ifCond .ne 10, 3) := by decide +kernel
theorem dX9_close_9 : decode cX9_close 9 = .ok (.aload_n 0, 1) := by decide +kernel
theorem dX9_close_10 : decode cX9_close 10 = .ok (.ldc 109, 2) := by decide +kernel
theorem dX9_close_12 : decode cX9_close 12 = .ok (.invokevirtual 110, 3) := by decide +kernel
theorem dX9_close_15 : decode cX9_close 15 = .ok (.ireturn, 1) := by decide +kernel
theorem dX9_close_16 : decode cX9_close 16 = .ok (.aload_n 0, 1) := by decide +kernel
theorem dX9_close_17 : decode cX9_close 17 = .ok (.getfield 188, 3) := by decide +kernel
theorem dX9_close_20 : decode cX9_close 20 = .ok (.ifCond .ne 10, 3) := by decide +kernel
theorem dX9_close_23 : decode cX9_close 23 = .ok (.aload_n 0, 1) := by decide +kernel
theorem dX9_close_24 : decode cX9_close 24 = .ok (.ldc 141, 2) := by decide +kernel
theorem dX9_close_26 : decode cX9_close 26 = .ok (.invokevirtual 110, 3) := by decide +kernel
theorem dX9_close_29 : decode cX9_close 29 = .ok (.ireturn, 1) := by decide +kernel
theorem dX9_close_30 : decode cX9_close 30 = .ok (.aload_n 0, 1) := by decide +kernel
theorem dX9_close_31 : decode cX9_close 31 = .ok (.iconst 0, 1) := by decide +kernel
theorem dX9_close_32 : decode cX9_close 32 = .ok (.putfield 188, 3) := by decide +kernel
theorem dX9_close_35 : decode cX9_close 35 = .ok (.iload_n 1, 1) := by decide +kernel
theorem dX9_close_36 : decode cX9_close 36 = .ok (.aload_n 0, 1) := by decide +kernel
theorem dX9_close_37 : decode cX9_close 37 = .ok (.iconst 1, 1) := by decide +kernel
theorem dX9_close_38 : decode cX9_close 38 = .ok (.invokevirtual 195, 3) := by decide +kernel
theorem dX9_close_41 : decode cX9_close 41 = .ok (.aload_n 0, 1) := by decide +kernel
theorem dX9_close_42 : decode cX9_close 42 = .ok (.iconst 2, 1) := by decide +kernel
theorem dX9_close_43 : decode cX9_close 43 = .ok (.invokevirtual 195, 3) := by decide +kernel
theorem dX9_close_46 : decode cX9_close 46 = .ok (.invokestatic 198, 3) := by decide +kernel
theorem dX9_close_49 : decode cX9_close 49 = .ok (.ifCond .eq 7, 3) := by decide +kernel
theorem dX9_close_52 : decode cX9_close 52 = .ok (.iconst 1, 1) := by decide +kernel
theorem dX9_close_53 : decode cX9_close 53 = .ok (.goto 4, 3) := by decide +kernel
theorem dX9_close_56 : decode cX9_close 56 = .ok (.iconst 0, 1) := by decide +kernel
theorem dX9_close_57 : decode cX9_close 57 = .ok (.ireturn, 1) := by decide +kernel
theorem dX9_hands_0 : decode cX9_hands 0 = .ok (.iload_n 1, 1) := by decide +kernel
theorem dX9_hands_1 : decode cX9_hands 1 = .ok (.iconst 1, 1) := by decide +kernel
theorem dX9_hands_2 : decode cX9_hands 2 = .ok (.iconst 3, 1) := by decide +kernel
theorem dX9_hands_3 : decode cX9_hands 3 = .ok (.invokestatic 105, 3) := by decide +kernel
theorem dX9_hands_6 : decode cX9_hands 6 = .ok (.ifCond .eq 36, 3) := by decide +kernel
theorem dX9_hands_9 : decode cX9_hands 9 = .ok (.iload_n 2, 1) := by decide +kernel
theorem dX9_hands_10 : decode cX9_hands 10 = .ok (.iconst 0, 1) := by decide +kernel
theorem dX9_hands_11 : decode cX9_hands 11 = .ok (.sipush 1000, 3) := by decide +kernel
theorem dX9_hands_14 : decode cX9_hands 14 = .ok (.invokestatic 105, 3) := by decide +kernel
theorem dX9_hands_17 : decode cX9_hands 17 = .ok (.ifCond .eq 25, 3) := by decide +kernel
theorem dX9_hands_20 : decode cX9_hands 20 = .ok (.iload_n 3, 1) := by decide +kernel
theorem dX9_hands_21 : decode cX9_hands 21 = .ok (.iconst 0, 1) := by decide +kernel
theorem dX9_hands_22 : decode cX9_hands 22 = .ok (.sipush 1000, 3) := by decide +kernel
theorem dX9_hands_25 : decode cX9_hands 25 = .ok (.invokestatic 105, 3) := by decide +kernel
theorem dX9_hands_28 : decode cX9_hands 28 = .ok (.ifCond .eq 14, 3) := by decide +kernel
theorem dX9_hands_31 : decode cX9_hands 31 = .ok (.iload 4, 2) := by decide +kernel
theorem dX9_hands_33 : decode cX9_hands 33 = .ok (.iconst 0, 1) := by decide +kernel
theorem dX9_hands_34 : decode cX9_hands 34 = .ok (.bipush 100, 2) := by decide +kernel
theorem dX9_hands_36 : decode cX9_hands 36 = .ok (.invokestatic 105, 3) := by decide +kernel
theorem dX9_hands_39 : decode cX9_hands 39 = .ok (.ifCond .ne 10, 3) := by decide +kernel
theorem dX9_hands_42 : decode cX9_hands 42 = .ok (.aload_n 0, 1) := by decide +kernel
theorem dX9_hands_43 : decode cX9_hands 43 = .ok (.ldc 109, 2) := by decide +kernel
theorem dX9_hands_45 : decode cX9_hands 45 = .ok (.invokevirtual 110, 3) := by decide +kernel
theorem dX9_hands_48 : decode cX9_hands 48 = .ok (.ireturn, 1) := by decide +kernel
theorem dX9_hands_49 : decode cX9_hands 49 = .ok (.iconst 1, 1) := by decide +kernel
theorem dX9_hands_50 : decode cX9_hands 50 = .ok (.istore 5, 2) := by decide +kernel
theorem dX9_hands_52 : decode cX9_hands 52 = .ok (.iconst 0, 1) := by decide +kernel
theorem dX9_hands_53 : decode cX9_hands 53 = .ok (.istore 6, 2) := by decide +kernel
theorem dX9_hands_55 : decode cX9_hands 55 = .ok (.iload_n 2, 1) := by decide +kernel
theorem dX9_hands_56 : decode cX9_hands 56 = .ok (.iload 4, 2) := by decide +kernel
theorem dX9_hands_58 : decode cX9_hands 58 = .ok (.if_icmp .ge 7, 3) := by decide +kernel
theorem dX9_hands_61 : decode cX9_hands 61 = .ok (.iconst 0, 1) := by decide +kernel
theorem dX9_hands_62 : decode cX9_hands 62 = .ok (.goto 7, 3) := by decide +kernel
theorem dX9_hands_65 : decode cX9_hands 65 = .ok (.iload_n 2, 1) := by decide +kernel
theorem dX9_hands_66 : decode cX9_hands 66 = .ok (.iload 4, 2) := by decide +kernel
theorem dX9_hands_68 : decode cX9_hands 68 = .ok (.isub, 1) := by decide +kernel
theorem dX9_hands_69 : decode cX9_hands 69 = .ok (.istore 7, 2) := by decide +kernel
theorem dX9_hands_71 : decode cX9_hands 71 = .ok (.iload 7, 2) := by decide +kernel
theorem dX9_hands_73 : decode cX9_hands 73 = .ok (.iload_n 2, 1) := by decide +kernel
theorem dX9_hands_74 : decode cX9_hands 74 = .ok (.iload 4, 2) := by decide +kernel
theorem dX9_hands_76 : decode cX9_hands 76 = .ok (.iadd, 1) := by decide +kernel
theorem dX9_hands_77 : decode cX9_hands 77 = .ok (.if_icmp .gt 64, 3) := by decide +kernel
theorem dX9_hands_80 : decode cX9_hands 80 = .ok (.iload_n 3, 1) := by decide +kernel
theorem dX9_hands_81 : decode cX9_hands 81 = .ok (.iload 4, 2) := by decide +kernel
theorem dX9_hands_83 : decode cX9_hands 83 = .ok (.if_icmp .ge 7, 3) := by decide +kernel
theorem dX9_hands_86 : decode cX9_hands 86 = .ok (.iconst 0, 1) := by decide +kernel
theorem dX9_hands_87 : decode cX9_hands 87 = .ok (.goto 7, 3) := by decide +kernel
theorem dX9_hands_90 : decode cX9_hands 90 = .ok (.iload_n 3, 1) := by decide +kernel
theorem dX9_hands_91 : decode cX9_hands 91 = .ok (.iload 4, 2) := by decide +kernel
theorem dX9_hands_93 : decode cX9_hands 93 = .ok (.isub, 1) := by decide +kernel
theorem dX9_hands_94 : decode cX9_hands 94 = .ok (.istore 8, 2) := by decide +kernel
theorem dX9_hands_96 : decode cX9_hands 96 = .ok (.iload 8, 2) := by decide +kernel
theorem dX9_hands_98 : decode cX9_hands 98 = .ok (.iload_n 3, 1) := by decide +kernel
theorem dX9_hands_99 : decode cX9_hands 99 = .ok (.iload 4, 2) := by decide +kernel
theorem dX9_hands_101 : decode cX9_hands 101 = .ok (.iadd, 1) := by decide +kernel
theorem dX9_hands_102 : decode cX9_hands 102 = .ok (.if_icmp .gt 33, 3) := by decide +kernel
theorem dX9_hands_105 : decode cX9_hands 105 = .ok (.iload_n 1, 1) := by decide +kernel
theorem dX9_hands_106 : decode cX9_hands 106 = .ok (.iload 7, 2) := by decide +kernel
theorem dX9_hands_108 : decode cX9_hands 108 = .ok (.iload 8, 2) := by decide +kernel
theorem dX9_hands_110 : decode cX9_hands 110 = .ok (.invokestatic 198, 3) := by decide +kernel
theorem dX9_hands_113 : decode cX9_hands 113 = .ok (.istore 9, 2) := by decide +kernel
theorem dX9_hands_115 : decode cX9_hands 115 = .ok (.iload 5, 2) := by decide +kernel
theorem dX9_hands_117 : decode cX9_hands 117 = .ok (.iload 9, 2) := by decide +kernel
theorem dX9_hands_119 : decode cX9_hands 119 = .ok (.iand, 1) := by decide +kernel
theorem dX9_hands_120 : decode cX9_hands 120 = .ok (.istore 5, 2) := by decide +kernel
theorem dX9_hands_122 : decode cX9_hands 122 = .ok (.iload 6, 2) := by decide +kernel
theorem dX9_hands_124 : decode cX9_hands 124 = .ok (.iload 9, 2) := by decide +kernel
theorem dX9_hands_126 : decode cX9_hands 126 = .ok (.ior, 1) := by decide +kernel
theorem dX9_hands_127 : decode cX9_hands 127 = .ok (.istore 6, 2) := by decide +kernel
theorem dX9_hands_129 : decode cX9_hands 129 = .ok (.iinc 8 1, 3) := by decide +kernel
theorem dX9_hands_132 : decode cX9_hands 132 = .ok (.goto (-36), 3) := by decide +kernel
theorem dX9_hands_135 : decode cX9_hands 135 = .ok (.iinc 7 1, 3) := by decide +kernel
theorem dX9_hands_138 : decode cX9_hands 138 = .ok (.goto (-67), 3) := by decide +kernel
theorem dX9_hands_141 : decode cX9_hands 141 = .ok (.iload 5, 2) := by decide +kernel
theorem dX9_hands_143 : decode cX9_hands 143 = .ok (.ifCond .eq 7, 3) := by decide +kernel
theorem dX9_hands_146 : decode cX9_hands 146 = .ok (.iconst 1, 1) := by decide +kernel
theorem dX9_hands_147 : decode cX9_hands 147 = .ok (.goto 13, 3) := by decide +kernel
theorem dX9_hands_150 : decode cX9_hands 150 = .ok (.iload 6, 2) := by decide +kernel
theorem dX9_hands_152 : decode cX9_hands 152 = .ok (.ifCond .eq 7, 3) := by decide +kernel
theorem dX9_hands_155 : decode cX9_hands 155 = .ok (.iconst 2, 1) := by decide +kernel
theorem dX9_hands_156 : decode cX9_hands 156 = .ok (.goto 4, 3) := by decide +kernel
theorem dX9_hands_159 : decode cX9_hands 159 = .ok (.iconst 0, 1) := by decide +kernel
theorem dX9_hands_160 : decode cX9_hands 160 = .ok (.ireturn, 1) := by decide +kernel
theorem dX9_hasMember_0 : decode cX9_hasMember 0 = .ok (.iconst 0, 1) := by decide +kernel
theorem dX9_hasMember_1 : decode cX9_hasMember 1 = .ok (.istore_n 2, 1) := by decide +kernel
theorem dX9_hasMember_2 : decode cX9_hasMember 2 = .ok (.iconst 0, 1) := by decide +kernel
theorem dX9_hasMember_3 : decode cX9_hasMember 3 = .ok (.istore_n 3, 1) := by decide +kernel
theorem dX9_hasMember_4 : decode cX9_hasMember 4 = .ok (.iload_n 3, 1) := by decide +kernel
theorem dX9_hasMember_5 : decode cX9_hasMember 5 = .ok (.aload_n 0, 1) := by decide +kernel
theorem dX9_hasMember_6 : decode cX9_hasMember 6 = .ok (.getfield 102, 3) := by decide +kernel
theorem dX9_hasMember_9 : decode cX9_hasMember 9 = .ok (.if_icmp .ge 27, 3) := by decide +kernel
theorem dX9_hasMember_12 : decode cX9_hasMember 12 = .ok (.iload_n 2, 1) := by decide +kernel
theorem dX9_hasMember_13 : decode cX9_hasMember 13 = .ok (.aload_n 0, 1) := by decide +kernel
theorem dX9_hasMember_14 : decode cX9_hasMember 14 = .ok (.getfield 13, 3) := by decide +kernel
theorem dX9_hasMember_17 : decode cX9_hasMember 17 = .ok (.iload_n 3, 1) := by decide +kernel
theorem dX9_hasMember_18 : decode cX9_hasMember 18 = .ok (.iaload, 1) := by decide +kernel
theorem dX9_hasMember_19 : decode cX9_hasMember 19 = .ok (.iload_n 1, 1) := by decide +kernel
theorem dX9_hasMember_20 : decode cX9_hasMember 20 = .ok (.if_icmp .ne 7, 3) := by decide +kernel
theorem dX9_hasMember_23 : decode cX9_hasMember 23 = .ok (.iconst 1, 1) := by decide +kernel
theorem dX9_hasMember_24 : decode cX9_hasMember 24 = .ok (.goto 4, 3) := by decide +kernel
theorem dX9_hasMember_27 : decode cX9_hasMember 27 = .ok (.iconst 0, 1) := by decide +kernel
theorem dX9_hasMember_28 : decode cX9_hasMember 28 = .ok (.ior, 1) := by decide +kernel
theorem dX9_hasMember_29 : decode cX9_hasMember 29 = .ok (.istore_n 2, 1) := by decide +kernel
theorem dX9_hasMember_30 : decode cX9_hasMember 30 = .ok (.iinc 3 1, 3) := by decide +kernel
theorem dX9_hasMember_33 : decode cX9_hasMember 33 = .ok (.goto (-29), 3) := by decide +kernel
theorem dX9_hasMember_36 : decode cX9_hasMember 36 = .ok (.iload_n 2, 1) := by decide +kernel
theorem dX9_hasMember_37 : decode cX9_hasMember 37 = .ok (.ireturn, 1) := by decide +kernel
theorem dX9_apart_0 : decode cX9_apart 0 = .ok (.iconst (-1), 1) := by decide +kernel
theorem dX9_apart_1 : decode cX9_apart 1 = .ok (.istore_n 1, 1) := by decide +kernel
theorem dX9_apart_2 : decode cX9_apart 2 = .ok (.iconst 0, 1) := by decide +kernel
theorem dX9_apart_3 : decode cX9_apart 3 = .ok (.istore_n 2, 1) := by decide +kernel
theorem dX9_apart_4 : decode cX9_apart 4 = .ok (.iconst 0, 1) := by decide +kernel
theorem dX9_apart_5 : decode cX9_apart 5 = .ok (.istore_n 3, 1) := by decide +kernel
theorem dX9_apart_6 : decode cX9_apart 6 = .ok (.iload_n 3, 1) := by decide +kernel
theorem dX9_apart_7 : decode cX9_apart 7 = .ok (.iconst 5, 1) := by decide +kernel
theorem dX9_apart_8 : decode cX9_apart 8 = .ok (.if_icmp .ge 54, 3) := by decide +kernel
theorem dX9_apart_11 : decode cX9_apart 11 = .ok (.aload_n 0, 1) := by decide +kernel
theorem dX9_apart_12 : decode cX9_apart 12 = .ok (.iload_n 3, 1) := by decide +kernel
theorem dX9_apart_13 : decode cX9_apart 13 = .ok (.invokevirtual 201, 3) := by decide +kernel
theorem dX9_apart_16 : decode cX9_apart 16 = .ok (.ifCond .eq 40, 3) := by decide +kernel
theorem dX9_apart_19 : decode cX9_apart 19 = .ok (.aload_n 0, 1) := by decide +kernel
theorem dX9_apart_20 : decode cX9_apart 20 = .ok (.iload_n 3, 1) := by decide +kernel
theorem dX9_apart_21 : decode cX9_apart 21 = .ok (.invokevirtual 123, 3) := by decide +kernel
theorem dX9_apart_24 : decode cX9_apart 24 = .ok (.istore 4, 2) := by decide +kernel
theorem dX9_apart_26 : decode cX9_apart 26 = .ok (.iload_n 1, 1) := by decide +kernel
theorem dX9_apart_27 : decode cX9_apart 27 = .ok (.ifCond .lt 9, 3) := by decide +kernel
theorem dX9_apart_30 : decode cX9_apart 30 = .ok (.iload 4, 2) := by decide +kernel
theorem dX9_apart_32 : decode cX9_apart 32 = .ok (.iload_n 1, 1) := by decide +kernel
theorem dX9_apart_33 : decode cX9_apart 33 = .ok (.if_icmp .ge 8, 3) := by decide +kernel
theorem dX9_apart_36 : decode cX9_apart 36 = .ok (.iload 4, 2) := by decide +kernel
theorem dX9_apart_38 : decode cX9_apart 38 = .ok (.goto 4, 3) := by decide +kernel
theorem dX9_apart_41 : decode cX9_apart 41 = .ok (.iload_n 1, 1) := by decide +kernel
theorem dX9_apart_42 : decode cX9_apart 42 = .ok (.istore_n 1, 1) := by decide +kernel
theorem dX9_apart_43 : decode cX9_apart 43 = .ok (.iload 4, 2) := by decide +kernel
theorem dX9_apart_45 : decode cX9_apart 45 = .ok (.iload_n 2, 1) := by decide +kernel
theorem dX9_apart_46 : decode cX9_apart 46 = .ok (.if_icmp .le 8, 3) := by decide +kernel
theorem dX9_apart_49 : decode cX9_apart 49 = .ok (.iload 4, 2) := by decide +kernel
theorem dX9_apart_51 : decode cX9_apart 51 = .ok (.goto 4, 3) := by decide +kernel
theorem dX9_apart_54 : decode cX9_apart 54 = .ok (.iload_n 2, 1) := by decide +kernel
theorem dX9_apart_55 : decode cX9_apart 55 = .ok (.istore_n 2, 1) := by decide +kernel
theorem dX9_apart_56 : decode cX9_apart 56 = .ok (.iinc 3 1, 3) := by decide +kernel
theorem dX9_apart_59 : decode cX9_apart 59 = .ok (.goto (-53), 3) := by decide +kernel
theorem dX9_apart_62 : decode cX9_apart 62 = .ok (.iload_n 1, 1) := by decide +kernel
theorem dX9_apart_63 : decode cX9_apart 63 = .ok (.ifCond .ge 7, 3) := by decide +kernel
theorem dX9_apart_66 : decode cX9_apart 66 = .ok (.iconst 0, 1) := by decide +kernel
theorem dX9_apart_67 : decode cX9_apart 67 = .ok (.goto 6, 3) := by decide +kernel
theorem dX9_apart_70 : decode cX9_apart 70 = .ok (.iload_n 2, 1) := by decide +kernel
theorem dX9_apart_71 : decode cX9_apart 71 = .ok (.iload_n 1, 1) := by decide +kernel
theorem dX9_apart_72 : decode cX9_apart 72 = .ok (.isub, 1) := by decide +kernel
theorem dX9_apart_73 : decode cX9_apart 73 = .ok (.ireturn, 1) := by decide +kernel
theorem dX9_common_0 : decode cX9_common 0 = .ok (.iload_n 0, 1) := by decide +kernel
theorem dX9_common_1 : decode cX9_common 1 = .ok (.istore_n 2, 1) := by decide +kernel
theorem dX9_common_2 : decode cX9_common 2 = .ok (.iload_n 1, 1) := by decide +kernel
theorem dX9_common_3 : decode cX9_common 3 = .ok (.istore_n 3, 1) := by decide +kernel
theorem dX9_common_4 : decode cX9_common 4 = .ok (.iload_n 3, 1) := by decide +kernel
theorem dX9_common_5 : decode cX9_common 5 = .ok (.ifCond .eq 16, 3) := by decide +kernel
theorem dX9_common_8 : decode cX9_common 8 = .ok (.iload_n 2, 1) := by decide +kernel
theorem dX9_common_9 : decode cX9_common 9 = .ok (.iload_n 3, 1) := by decide +kernel
theorem dX9_common_10 : decode cX9_common 10 = .ok (.irem, 1) := by decide +kernel
theorem dX9_common_11 : decode cX9_common 11 = .ok (.istore 4, 2) := by decide +kernel
theorem dX9_common_13 : decode cX9_common 13 = .ok (.iload_n 3, 1) := by decide +kernel
theorem dX9_common_14 : decode cX9_common 14 = .ok (.istore_n 2, 1) := by decide +kernel
theorem dX9_common_15 : decode cX9_common 15 = .ok (.iload 4, 2) := by decide +kernel
theorem dX9_common_17 : decode cX9_common 17 = .ok (.istore_n 3, 1) := by decide +kernel
theorem dX9_common_18 : decode cX9_common 18 = .ok (.goto (-14), 3) := by decide +kernel
theorem dX9_common_21 : decode cX9_common 21 = .ok (.iload_n 2, 1) := by decide +kernel
theorem dX9_common_22 : decode cX9_common 22 = .ok (.ireturn, 1) := by decide +kernel
theorem dX9_uneven_0 : decode cX9_uneven 0 = .ok (.iconst 0, 1) := by decide +kernel
theorem dX9_uneven_1 : decode cX9_uneven 1 = .ok (.istore_n 2, 1) := by decide +kernel
theorem dX9_uneven_2 : decode cX9_uneven 2 = .ok (.iconst 0, 1) := by decide +kernel
theorem dX9_uneven_3 : decode cX9_uneven 3 = .ok (.istore_n 3, 1) := by decide +kernel
theorem dX9_uneven_4 : decode cX9_uneven 4 = .ok (.iconst 0, 1) := by decide +kernel
theorem dX9_uneven_5 : decode cX9_uneven 5 = .ok (.istore 4, 2) := by decide +kernel
theorem dX9_uneven_7 : decode cX9_uneven 7 = .ok (.iconst 0, 1) := by decide +kernel
theorem dX9_uneven_8 : decode cX9_uneven 8 = .ok (.istore 5, 2) := by decide +kernel
theorem dX9_uneven_10 : decode cX9_uneven 10 = .ok (.iload 5, 2) := by decide +kernel
theorem dX9_uneven_12 : decode cX9_uneven 12 = .ok (.iconst 5, 1) := by decide +kernel
theorem dX9_uneven_13 : decode cX9_uneven 13 = .ok (.if_icmp .ge 106, 3) := by decide +kernel
theorem dX9_uneven_16 : decode cX9_uneven 16 = .ok (.iload_n 2, 1) := by decide +kernel
theorem dX9_uneven_17 : decode cX9_uneven 17 = .ok (.aload_n 0, 1) := by decide +kernel
theorem dX9_uneven_18 : decode cX9_uneven 18 = .ok (.iload 5, 2) := by decide +kernel
theorem dX9_uneven_20 : decode cX9_uneven 20 = .ok (.invokevirtual 201, 3) := by decide +kernel
theorem dX9_uneven_23 : decode cX9_uneven 23 = .ok (.ifCond .eq 7, 3) := by decide +kernel
theorem dX9_uneven_26 : decode cX9_uneven 26 = .ok (.iconst 1, 1) := by decide +kernel
theorem dX9_uneven_27 : decode cX9_uneven 27 = .ok (.goto 4, 3) := by decide +kernel
theorem dX9_uneven_30 : decode cX9_uneven 30 = .ok (.iconst 0, 1) := by decide +kernel
theorem dX9_uneven_31 : decode cX9_uneven 31 = .ok (.iadd, 1) := by decide +kernel
theorem dX9_uneven_32 : decode cX9_uneven 32 = .ok (.istore_n 2, 1) := by decide +kernel
theorem dX9_uneven_33 : decode cX9_uneven 33 = .ok (.iload_n 3, 1) := by decide +kernel
theorem dX9_uneven_34 : decode cX9_uneven 34 = .ok (.aload_n 0, 1) := by decide +kernel
theorem dX9_uneven_35 : decode cX9_uneven 35 = .ok (.iload 5, 2) := by decide +kernel
theorem dX9_uneven_37 : decode cX9_uneven 37 = .ok (.invokevirtual 123, 3) := by decide +kernel
theorem dX9_uneven_40 : decode cX9_uneven 40 = .ok (.iadd, 1) := by decide +kernel
theorem dX9_uneven_41 : decode cX9_uneven 41 = .ok (.istore_n 3, 1) := by decide +kernel
theorem dX9_uneven_42 : decode cX9_uneven 42 = .ok (.iconst 0, 1) := by decide +kernel
theorem dX9_uneven_43 : decode cX9_uneven 43 = .ok (.istore 6, 2) := by decide +kernel
theorem dX9_uneven_45 : decode cX9_uneven 45 = .ok (.iload 6, 2) := by decide +kernel
theorem dX9_uneven_47 : decode cX9_uneven 47 = .ok (.iload 5, 2) := by decide +kernel
theorem dX9_uneven_49 : decode cX9_uneven 49 = .ok (.if_icmp .ge 64, 3) := by decide +kernel
theorem dX9_uneven_52 : decode cX9_uneven 52 = .ok (.aload_n 0, 1) := by decide +kernel
theorem dX9_uneven_53 : decode cX9_uneven 53 = .ok (.iload 6, 2) := by decide +kernel
theorem dX9_uneven_55 : decode cX9_uneven 55 = .ok (.invokevirtual 123, 3) := by decide +kernel
theorem dX9_uneven_58 : decode cX9_uneven 58 = .ok (.aload_n 0, 1) := by decide +kernel
theorem dX9_uneven_59 : decode cX9_uneven 59 = .ok (.iload 5, 2) := by decide +kernel
theorem dX9_uneven_61 : decode cX9_uneven 61 = .ok (.invokevirtual 123, 3) := by decide +kernel
theorem dX9_uneven_64 : decode cX9_uneven 64 = .ok (.isub, 1) := by decide +kernel
theorem dX9_uneven_65 : decode cX9_uneven 65 = .ok (.istore 7, 2) := by decide +kernel
theorem dX9_uneven_67 : decode cX9_uneven 67 = .ok (.iload 4, 2) := by decide +kernel
theorem dX9_uneven_69 : decode cX9_uneven 69 = .ok (.aload_n 0, 1) := by decide +kernel
theorem dX9_uneven_70 : decode cX9_uneven 70 = .ok (.iload 6, 2) := by decide +kernel
theorem dX9_uneven_72 : decode cX9_uneven 72 = .ok (.invokevirtual 201, 3) := by decide +kernel
theorem dX9_uneven_75 : decode cX9_uneven 75 = .ok (.ifCond .eq 12, 3) := by decide +kernel
theorem dX9_uneven_78 : decode cX9_uneven 78 = .ok (.aload_n 0, 1) := by decide +kernel
theorem dX9_uneven_79 : decode cX9_uneven 79 = .ok (.iload 5, 2) := by decide +kernel
theorem dX9_uneven_81 : decode cX9_uneven 81 = .ok (.invokevirtual 201, 3) := by decide +kernel
theorem dX9_uneven_84 : decode cX9_uneven 84 = .ok (.ifCond .ne 7, 3) := by decide +kernel
theorem dX9_uneven_87 : decode cX9_uneven 87 = .ok (.iconst 0, 1) := by decide +kernel
theorem dX9_uneven_88 : decode cX9_uneven 88 = .ok (.goto 16, 3) := by decide +kernel
theorem dX9_uneven_91 : decode cX9_uneven 91 = .ok (.iload 7, 2) := by decide +kernel
theorem dX9_uneven_93 : decode cX9_uneven 93 = .ok (.ifCond .ge 9, 3) := by decide +kernel
theorem dX9_uneven_96 : decode cX9_uneven 96 = .ok (.iload 7, 2) := by decide +kernel
theorem dX9_uneven_98 : decode cX9_uneven 98 = .ok (.ineg, 1) := by decide +kernel
theorem dX9_uneven_99 : decode cX9_uneven 99 = .ok (.goto 5, 3) := by decide +kernel
theorem dX9_uneven_102 : decode cX9_uneven 102 = .ok (.iload 7, 2) := by decide +kernel
theorem dX9_uneven_104 : decode cX9_uneven 104 = .ok (.iadd, 1) := by decide +kernel
theorem dX9_uneven_105 : decode cX9_uneven 105 = .ok (.istore 4, 2) := by decide +kernel
theorem dX9_uneven_107 : decode cX9_uneven 107 = .ok (.iinc 6 1, 3) := by decide +kernel
theorem dX9_uneven_110 : decode cX9_uneven 110 = .ok (.goto (-65), 3) := by decide +kernel
theorem dX9_uneven_113 : decode cX9_uneven 113 = .ok (.iinc 5 1, 3) := by decide +kernel
theorem dX9_uneven_116 : decode cX9_uneven 116 = .ok (.goto (-106), 3) := by decide +kernel
theorem dX9_uneven_119 : decode cX9_uneven 119 = .ok (.iload_n 3, 1) := by decide +kernel
theorem dX9_uneven_120 : decode cX9_uneven 120 = .ok (.ifCond .ne 13, 3) := by decide +kernel
theorem dX9_uneven_123 : decode cX9_uneven 123 = .ok (.iload_n 1, 1) := by decide +kernel
theorem dX9_uneven_124 : decode cX9_uneven 124 = .ok (.ifCond .eq 7, 3) := by decide +kernel
theorem dX9_uneven_127 : decode cX9_uneven 127 = .ok (.iconst 1, 1) := by decide +kernel
theorem dX9_uneven_128 : decode cX9_uneven 128 = .ok (.goto 4, 3) := by decide +kernel
theorem dX9_uneven_131 : decode cX9_uneven 131 = .ok (.iconst 0, 1) := by decide +kernel
theorem dX9_uneven_132 : decode cX9_uneven 132 = .ok (.ireturn, 1) := by decide +kernel
theorem dX9_uneven_133 : decode cX9_uneven 133 = .ok (.iload 4, 2) := by decide +kernel
theorem dX9_uneven_135 : decode cX9_uneven 135 = .ok (.iload_n 2, 1) := by decide +kernel
theorem dX9_uneven_136 : decode cX9_uneven 136 = .ok (.iload_n 3, 1) := by decide +kernel
theorem dX9_uneven_137 : decode cX9_uneven 137 = .ok (.imul, 1) := by decide +kernel
theorem dX9_uneven_138 : decode cX9_uneven 138 = .ok (.invokestatic 204, 3) := by decide +kernel
theorem dX9_uneven_141 : decode cX9_uneven 141 = .ok (.istore 5, 2) := by decide +kernel
theorem dX9_uneven_143 : decode cX9_uneven 143 = .ok (.iload_n 1, 1) := by decide +kernel
theorem dX9_uneven_144 : decode cX9_uneven 144 = .ok (.ifCond .eq 12, 3) := by decide +kernel
theorem dX9_uneven_147 : decode cX9_uneven 147 = .ok (.iload_n 2, 1) := by decide +kernel
theorem dX9_uneven_148 : decode cX9_uneven 148 = .ok (.iload_n 3, 1) := by decide +kernel
theorem dX9_uneven_149 : decode cX9_uneven 149 = .ok (.imul, 1) := by decide +kernel
theorem dX9_uneven_150 : decode cX9_uneven 150 = .ok (.iload 5, 2) := by decide +kernel
theorem dX9_uneven_152 : decode cX9_uneven 152 = .ok (.idiv, 1) := by decide +kernel
theorem dX9_uneven_153 : decode cX9_uneven 153 = .ok (.goto 8, 3) := by decide +kernel
theorem dX9_uneven_156 : decode cX9_uneven 156 = .ok (.iload 4, 2) := by decide +kernel
theorem dX9_uneven_158 : decode cX9_uneven 158 = .ok (.iload 5, 2) := by decide +kernel
theorem dX9_uneven_160 : decode cX9_uneven 160 = .ok (.idiv, 1) := by decide +kernel
theorem dX9_uneven_161 : decode cX9_uneven 161 = .ok (.ireturn, 1) := by decide +kernel
theorem dX9_ticksOf_0 : decode cX9_ticksOf 0 = .ok (.aload_n 0, 1) := by decide +kernel
theorem dX9_ticksOf_1 : decode cX9_ticksOf 1 = .ok (.getfield 63, 3) := by decide +kernel
theorem dX9_ticksOf_4 : decode cX9_ticksOf 4 = .ok (.iload_n 1, 1) := by decide +kernel
theorem dX9_ticksOf_5 : decode cX9_ticksOf 5 = .ok (.iaload, 1) := by decide +kernel
theorem dX9_ticksOf_6 : decode cX9_ticksOf 6 = .ok (.istore_n 3, 1) := by decide +kernel
theorem dX9_ticksOf_7 : decode cX9_ticksOf 7 = .ok (.iconst 1, 1) := by decide +kernel
theorem dX9_ticksOf_8 : decode cX9_ticksOf 8 = .ok (.istore 4, 2) := by decide +kernel
theorem dX9_ticksOf_10 : decode cX9_ticksOf 10 = .ok (.iload 4, 2) := by decide +kernel
theorem dX9_ticksOf_12 : decode cX9_ticksOf 12 = .ok (.iload_n 2, 1) := by decide +kernel
theorem dX9_ticksOf_13 : decode cX9_ticksOf 13 = .ok (.if_icmp .gt 37, 3) := by decide +kernel
theorem dX9_ticksOf_16 : decode cX9_ticksOf 16 = .ok (.aload_n 0, 1) := by decide +kernel
theorem dX9_ticksOf_17 : decode cX9_ticksOf 17 = .ok (.getfield 66, 3) := by decide +kernel
theorem dX9_ticksOf_20 : decode cX9_ticksOf 20 = .ok (.iload 4, 2) := by decide +kernel
theorem dX9_ticksOf_22 : decode cX9_ticksOf 22 = .ok (.iaload, 1) := by decide +kernel
theorem dX9_ticksOf_23 : decode cX9_ticksOf 23 = .ok (.aload_n 0, 1) := by decide +kernel
theorem dX9_ticksOf_24 : decode cX9_ticksOf 24 = .ok (.getfield 178, 3) := by decide +kernel
theorem dX9_ticksOf_27 : decode cX9_ticksOf 27 = .ok (.iload_n 1, 1) := by decide +kernel
theorem dX9_ticksOf_28 : decode cX9_ticksOf 28 = .ok (.iadd, 1) := by decide +kernel
theorem dX9_ticksOf_29 : decode cX9_ticksOf 29 = .ok (.if_icmp .ne 13, 3) := by decide +kernel
theorem dX9_ticksOf_32 : decode cX9_ticksOf 32 = .ok (.aload_n 0, 1) := by decide +kernel
theorem dX9_ticksOf_33 : decode cX9_ticksOf 33 = .ok (.getfield 69, 3) := by decide +kernel
theorem dX9_ticksOf_36 : decode cX9_ticksOf 36 = .ok (.iload 4, 2) := by decide +kernel
theorem dX9_ticksOf_38 : decode cX9_ticksOf 38 = .ok (.iaload, 1) := by decide +kernel
theorem dX9_ticksOf_39 : decode cX9_ticksOf 39 = .ok (.goto 4, 3) := by decide +kernel
theorem dX9_ticksOf_42 : decode cX9_ticksOf 42 = .ok (.iload_n 3, 1) := by decide +kernel
theorem dX9_ticksOf_43 : decode cX9_ticksOf 43 = .ok (.istore_n 3, 1) := by decide +kernel
theorem dX9_ticksOf_44 : decode cX9_ticksOf 44 = .ok (.iinc 4 1, 3) := by decide +kernel
theorem dX9_ticksOf_47 : decode cX9_ticksOf 47 = .ok (.goto (-37), 3) := by decide +kernel
theorem dX9_ticksOf_50 : decode cX9_ticksOf 50 = .ok (.iload_n 3, 1) := by decide +kernel
theorem dX9_ticksOf_51 : decode cX9_ticksOf 51 = .ok (.ireturn, 1) := by decide +kernel
theorem dX9_minutes_0 : decode cX9_minutes 0 = .ok (.iload_n 1, 1) := by decide +kernel
theorem dX9_minutes_1 : decode cX9_minutes 1 = .ok (.ifCond .lt 20, 3) := by decide +kernel
theorem dX9_minutes_4 : decode cX9_minutes 4 = .ok (.iload_n 1, 1) := by decide +kernel
theorem dX9_minutes_5 : decode cX9_minutes 5 = .ok (.aload_n 0, 1) := by decide +kernel
theorem dX9_minutes_6 : decode cX9_minutes 6 = .ok (.getfield 175, 3) := by decide +kernel
theorem dX9_minutes_9 : decode cX9_minutes 9 = .ok (.if_icmp .ge 12, 3) := by decide +kernel
theorem dX9_minutes_12 : decode cX9_minutes 12 = .ok (.iload_n 2, 1) := by decide +kernel
theorem dX9_minutes_13 : decode cX9_minutes 13 = .ok (.iconst 0, 1) := by decide +kernel
theorem dX9_minutes_14 : decode cX9_minutes 14 = .ok (.iconst 3, 1) := by decide +kernel
theorem dX9_minutes_15 : decode cX9_minutes 15 = .ok (.invokestatic 105, 3) := by decide +kernel
theorem dX9_minutes_18 : decode cX9_minutes 18 = .ok (.ifCond .ne 10, 3) := by decide +kernel
theorem dX9_minutes_21 : decode cX9_minutes 21 = .ok (.aload_n 0, 1) := by decide +kernel
theorem dX9_minutes_22 : decode cX9_minutes 22 = .ok (.ldc 109, 2) := by decide +kernel
theorem dX9_minutes_24 : decode cX9_minutes 24 = .ok (.invokevirtual 110, 3) := by decide +kernel
theorem dX9_minutes_27 : decode cX9_minutes 27 = .ok (.ireturn, 1) := by decide +kernel
theorem dX9_minutes_28 : decode cX9_minutes 28 = .ok (.iload_n 2, 1) := by decide +kernel
theorem dX9_minutes_29 : decode cX9_minutes 29 = .ok (.ifCond .ne 12, 3) := by decide +kernel
theorem dX9_minutes_32 : decode cX9_minutes 32 = .ok (.aload_n 0, 1) := by decide +kernel
theorem dX9_minutes_33 : decode cX9_minutes 33 = .ok (.getfield 57, 3) := by decide +kernel
theorem dX9_minutes_36 : decode cX9_minutes 36 = .ok (.iload_n 1, 1) := by decide +kernel
theorem dX9_minutes_37 : decode cX9_minutes 37 = .ok (.iaload, 1) := by decide +kernel
theorem dX9_minutes_38 : decode cX9_minutes 38 = .ok (.goto 40, 3) := by decide +kernel
theorem dX9_minutes_41 : decode cX9_minutes 41 = .ok (.iload_n 2, 1) := by decide +kernel
theorem dX9_minutes_42 : decode cX9_minutes 42 = .ok (.iconst 1, 1) := by decide +kernel
theorem dX9_minutes_43 : decode cX9_minutes 43 = .ok (.if_icmp .ne 12, 3) := by decide +kernel
theorem dX9_minutes_46 : decode cX9_minutes 46 = .ok (.aload_n 0, 1) := by decide +kernel
theorem dX9_minutes_47 : decode cX9_minutes 47 = .ok (.getfield 60, 3) := by decide +kernel
theorem dX9_minutes_50 : decode cX9_minutes 50 = .ok (.iload_n 1, 1) := by decide +kernel
theorem dX9_minutes_51 : decode cX9_minutes 51 = .ok (.iaload, 1) := by decide +kernel
theorem dX9_minutes_52 : decode cX9_minutes 52 = .ok (.goto 26, 3) := by decide +kernel
theorem dX9_minutes_55 : decode cX9_minutes 55 = .ok (.iload_n 2, 1) := by decide +kernel
theorem dX9_minutes_56 : decode cX9_minutes 56 = .ok (.iconst 2, 1) := by decide +kernel
theorem dX9_minutes_57 : decode cX9_minutes 57 = .ok (.if_icmp .ne 15, 3) := by decide +kernel
theorem dX9_minutes_60 : decode cX9_minutes 60 = .ok (.aload_n 0, 1) := by decide +kernel
theorem dX9_minutes_61 : decode cX9_minutes 61 = .ok (.iload_n 1, 1) := by decide +kernel
theorem dX9_minutes_62 : decode cX9_minutes 62 = .ok (.aload_n 0, 1) := by decide +kernel
theorem dX9_minutes_63 : decode cX9_minutes 63 = .ok (.getfield 207, 3) := by decide +kernel
theorem dX9_minutes_66 : decode cX9_minutes 66 = .ok (.invokevirtual 210, 3) := by decide +kernel
theorem dX9_minutes_69 : decode cX9_minutes 69 = .ok (.goto 9, 3) := by decide +kernel
theorem dX9_minutes_72 : decode cX9_minutes 72 = .ok (.aload_n 0, 1) := by decide +kernel
theorem dX9_minutes_73 : decode cX9_minutes 73 = .ok (.getfield 63, 3) := by decide +kernel
theorem dX9_minutes_76 : decode cX9_minutes 76 = .ok (.iload_n 1, 1) := by decide +kernel
theorem dX9_minutes_77 : decode cX9_minutes 77 = .ok (.iaload, 1) := by decide +kernel
theorem dX9_minutes_78 : decode cX9_minutes 78 = .ok (.ireturn, 1) := by decide +kernel
theorem dX9_right_0 : decode cX9_right 0 = .ok (.iload_n 1, 1) := by decide +kernel
theorem dX9_right_1 : decode cX9_right 1 = .ok (.ifCond .lt 22, 3) := by decide +kernel
theorem dX9_right_4 : decode cX9_right 4 = .ok (.iload_n 1, 1) := by decide +kernel
theorem dX9_right_5 : decode cX9_right 5 = .ok (.aload_n 0, 1) := by decide +kernel
theorem dX9_right_6 : decode cX9_right 6 = .ok (.getfield 175, 3) := by decide +kernel
theorem dX9_right_9 : decode cX9_right 9 = .ok (.if_icmp .ge 14, 3) := by decide +kernel
theorem dX9_right_12 : decode cX9_right 12 = .ok (.iload_n 2, 1) := by decide +kernel
theorem dX9_right_13 : decode cX9_right 13 = .ok (.iconst 0, 1) := by decide +kernel
theorem dX9_right_14 : decode cX9_right 14 = .ok (.sipush 200, 3) := by decide +kernel
theorem dX9_right_17 : decode cX9_right 17 = .ok (.invokestatic 105, 3) := by decide +kernel
theorem dX9_right_20 : decode cX9_right 20 = .ok (.ifCond .ne 10, 3) := by decide +kernel
theorem dX9_right_23 : decode cX9_right 23 = .ok (.aload_n 0, 1) := by decide +kernel
theorem dX9_right_24 : decode cX9_right 24 = .ok (.ldc 109, 2) := by decide +kernel
theorem dX9_right_26 : decode cX9_right 26 = .ok (.invokevirtual 110, 3) := by decide +kernel
theorem dX9_right_29 : decode cX9_right 29 = .ok (.ireturn, 1) := by decide +kernel
theorem dX9_right_30 : decode cX9_right 30 = .ok (.aload_n 0, 1) := by decide +kernel
theorem dX9_right_31 : decode cX9_right 31 = .ok (.getfield 207, 3) := by decide +kernel
theorem dX9_right_34 : decode cX9_right 34 = .ok (.bipush 40, 2) := by decide +kernel
theorem dX9_right_36 : decode cX9_right 36 = .ok (.if_icmp .ne 10, 3) := by decide +kernel
theorem dX9_right_39 : decode cX9_right 39 = .ok (.aload_n 0, 1) := by decide +kernel
theorem dX9_right_40 : decode cX9_right 40 = .ok (.ldc 114, 2) := by decide +kernel
theorem dX9_right_42 : decode cX9_right 42 = .ok (.invokevirtual 110, 3) := by decide +kernel
theorem dX9_right_45 : decode cX9_right 45 = .ok (.ireturn, 1) := by decide +kernel
theorem dX9_right_46 : decode cX9_right 46 = .ok (.aload_n 0, 1) := by decide +kernel
theorem dX9_right_47 : decode cX9_right 47 = .ok (.dup, 1) := by decide +kernel
theorem dX9_right_48 : decode cX9_right 48 = .ok (.getfield 207, 3) := by decide +kernel
theorem dX9_right_51 : decode cX9_right 51 = .ok (.iconst 1, 1) := by decide +kernel
theorem dX9_right_52 : decode cX9_right 52 = .ok (.iadd, 1) := by decide +kernel
theorem dX9_right_53 : decode cX9_right 53 = .ok (.putfield 207, 3) := by decide +kernel
theorem dX9_right_56 : decode cX9_right 56 = .ok (.aload_n 0, 1) := by decide +kernel
theorem dX9_right_57 : decode cX9_right 57 = .ok (.getfield 66, 3) := by decide +kernel
theorem dX9_right_60 : decode cX9_right 60 = .ok (.aload_n 0, 1) := by decide +kernel
theorem dX9_right_61 : decode cX9_right 61 = .ok (.getfield 207, 3) := by decide +kernel
theorem dX9_right_64 : decode cX9_right 64 = .ok (.aload_n 0, 1) := by decide +kernel
theorem dX9_right_65 : decode cX9_right 65 = .ok (.getfield 178, 3) := by decide +kernel
theorem dX9_right_68 : decode cX9_right 68 = .ok (.iload_n 1, 1) := by decide +kernel
theorem dX9_right_69 : decode cX9_right 69 = .ok (.iadd, 1) := by decide +kernel
theorem dX9_right_70 : decode cX9_right 70 = .ok (.iastore, 1) := by decide +kernel
theorem dX9_right_71 : decode cX9_right 71 = .ok (.aload_n 0, 1) := by decide +kernel
theorem dX9_right_72 : decode cX9_right 72 = .ok (.getfield 69, 3) := by decide +kernel
theorem dX9_right_75 : decode cX9_right 75 = .ok (.aload_n 0, 1) := by decide +kernel
theorem dX9_right_76 : decode cX9_right 76 = .ok (.getfield 207, 3) := by decide +kernel
theorem dX9_right_79 : decode cX9_right 79 = .ok (.iload_n 2, 1) := by decide +kernel
theorem dX9_right_80 : decode cX9_right 80 = .ok (.iastore, 1) := by decide +kernel
theorem dX9_right_81 : decode cX9_right 81 = .ok (.aload_n 0, 1) := by decide +kernel
theorem dX9_right_82 : decode cX9_right 82 = .ok (.getfield 207, 3) := by decide +kernel
theorem dX9_right_85 : decode cX9_right 85 = .ok (.ireturn, 1) := by decide +kernel
theorem dX9_sum_0 : decode cX9_sum 0 = .ok (.aload_n 0, 1) := by decide +kernel
theorem dX9_sum_1 : decode cX9_sum 1 = .ok (.iload_n 1, 1) := by decide +kernel
theorem dX9_sum_2 : decode cX9_sum 2 = .ok (.invokevirtual 115, 3) := by decide +kernel
theorem dX9_sum_5 : decode cX9_sum 5 = .ok (.ifCond .eq 15, 3) := by decide +kernel
theorem dX9_sum_8 : decode cX9_sum 8 = .ok (.iload_n 2, 1) := by decide +kernel
theorem dX9_sum_9 : decode cX9_sum 9 = .ok (.iconst 0, 1) := by decide +kernel
theorem dX9_sum_10 : decode cX9_sum 10 = .ok (.aload_n 0, 1) := by decide +kernel
theorem dX9_sum_11 : decode cX9_sum 11 = .ok (.getfield 207, 3) := by decide +kernel
theorem dX9_sum_14 : decode cX9_sum 14 = .ok (.invokestatic 105, 3) := by decide +kernel
theorem dX9_sum_17 : decode cX9_sum 17 = .ok (.ifCond .ne 10, 3) := by decide +kernel
theorem dX9_sum_20 : decode cX9_sum 20 = .ok (.aload_n 0, 1) := by decide +kernel
theorem dX9_sum_21 : decode cX9_sum 21 = .ok (.ldc 109, 2) := by decide +kernel
theorem dX9_sum_23 : decode cX9_sum 23 = .ok (.invokevirtual 110, 3) := by decide +kernel
theorem dX9_sum_26 : decode cX9_sum 26 = .ok (.ireturn, 1) := by decide +kernel
theorem dX9_sum_27 : decode cX9_sum 27 = .ok (.iconst 0, 1) := by decide +kernel
theorem dX9_sum_28 : decode cX9_sum 28 = .ok (.istore_n 3, 1) := by decide +kernel
theorem dX9_sum_29 : decode cX9_sum 29 = .ok (.iconst 0, 1) := by decide +kernel
theorem dX9_sum_30 : decode cX9_sum 30 = .ok (.istore 4, 2) := by decide +kernel
theorem dX9_sum_32 : decode cX9_sum 32 = .ok (.iload 4, 2) := by decide +kernel
theorem dX9_sum_34 : decode cX9_sum 34 = .ok (.aload_n 0, 1) := by decide +kernel
theorem dX9_sum_35 : decode cX9_sum 35 = .ok (.getfield 175, 3) := by decide +kernel
theorem dX9_sum_38 : decode cX9_sum 38 = .ok (.if_icmp .ge 34, 3) := by decide +kernel
theorem dX9_sum_41 : decode cX9_sum 41 = .ok (.iload_n 3, 1) := by decide +kernel
theorem dX9_sum_42 : decode cX9_sum 42 = .ok (.aload_n 0, 1) := by decide +kernel
theorem dX9_sum_43 : decode cX9_sum 43 = .ok (.getfield 57, 3) := by decide +kernel
theorem dX9_sum_46 : decode cX9_sum 46 = .ok (.iload 4, 2) := by decide +kernel
theorem dX9_sum_48 : decode cX9_sum 48 = .ok (.iaload, 1) := by decide +kernel
theorem dX9_sum_49 : decode cX9_sum 49 = .ok (.iload_n 1, 1) := by decide +kernel
theorem dX9_sum_50 : decode cX9_sum 50 = .ok (.if_icmp .ne 13, 3) := by decide +kernel
theorem dX9_sum_53 : decode cX9_sum 53 = .ok (.aload_n 0, 1) := by decide +kernel
theorem dX9_sum_54 : decode cX9_sum 54 = .ok (.iload 4, 2) := by decide +kernel
theorem dX9_sum_56 : decode cX9_sum 56 = .ok (.iload_n 2, 1) := by decide +kernel
theorem dX9_sum_57 : decode cX9_sum 57 = .ok (.invokevirtual 210, 3) := by decide +kernel
theorem dX9_sum_60 : decode cX9_sum 60 = .ok (.goto 4, 3) := by decide +kernel
theorem dX9_sum_63 : decode cX9_sum 63 = .ok (.iconst 0, 1) := by decide +kernel
theorem dX9_sum_64 : decode cX9_sum 64 = .ok (.iadd, 1) := by decide +kernel
theorem dX9_sum_65 : decode cX9_sum 65 = .ok (.istore_n 3, 1) := by decide +kernel
theorem dX9_sum_66 : decode cX9_sum 66 = .ok (.iinc 4 1, 3) := by decide +kernel
theorem dX9_sum_69 : decode cX9_sum 69 = .ok (.goto (-37), 3) := by decide +kernel
theorem dX9_sum_72 : decode cX9_sum 72 = .ok (.iload_n 3, 1) := by decide +kernel
theorem dX9_sum_73 : decode cX9_sum 73 = .ok (.ireturn, 1) := by decide +kernel
theorem dX9_isSheet_0 : decode cX9_isSheet 0 = .ok (.iload_n 0, 1) := by decide +kernel
theorem dX9_isSheet_1 : decode cX9_isSheet 1 = .ok (.iconst 0, 1) := by decide +kernel
theorem dX9_isSheet_2 : decode cX9_isSheet 2 = .ok (.iconst 3, 1) := by decide +kernel
theorem dX9_isSheet_3 : decode cX9_isSheet 3 = .ok (.invokestatic 105, 3) := by decide +kernel
end
section
theorem dX9_isSheet_6 : decode cX9_isSheet 6 = .ok (.ireturn, 1) := by decide +kernel
theorem dX9_sheet_0 : decode cX9_sheet 0 = .ok (.iload_n 1, 1) := by decide +kernel
theorem dX9_sheet_1 : decode cX9_sheet 1 = .ok (.invokestatic 213, 3) := by decide +kernel
theorem dX9_sheet_4 : decode cX9_sheet 4 = .ok (.ifCond .eq 25, 3) := by decide +kernel
theorem dX9_sheet_7 : decode cX9_sheet 7 = .ok (.iload_n 2, 1) := by decide +kernel
theorem dX9_sheet_8 : decode cX9_sheet 8 = .ok (.ifCond .eq 28, 3) := by decide +kernel
theorem dX9_sheet_11 : decode cX9_sheet 11 = .ok (.iload_n 2, 1) := by decide +kernel
theorem dX9_sheet_12 : decode cX9_sheet 12 = .ok (.bipush 8, 2) := by decide +kernel
theorem dX9_sheet_14 : decode cX9_sheet 14 = .ok (.if_icmp .eq 22, 3) := by decide +kernel
theorem dX9_sheet_17 : decode cX9_sheet 17 = .ok (.iload_n 2, 1) := by decide +kernel
theorem dX9_sheet_18 : decode cX9_sheet 18 = .ok (.bipush 16, 2) := by decide +kernel
theorem dX9_sheet_20 : decode cX9_sheet 20 = .ok (.if_icmp .eq 16, 3) := by decide +kernel
theorem dX9_sheet_23 : decode cX9_sheet 23 = .ok (.iload_n 2, 1) := by decide +kernel
theorem dX9_sheet_24 : decode cX9_sheet 24 = .ok (.bipush 32, 2) := by decide +kernel
theorem dX9_sheet_26 : decode cX9_sheet 26 = .ok (.if_icmp .eq 10, 3) := by decide +kernel
theorem dX9_sheet_29 : decode cX9_sheet 29 = .ok (.aload_n 0, 1) := by decide +kernel
theorem dX9_sheet_30 : decode cX9_sheet 30 = .ok (.ldc 109, 2) := by decide +kernel
theorem dX9_sheet_32 : decode cX9_sheet 32 = .ok (.invokevirtual 110, 3) := by decide +kernel
theorem dX9_sheet_35 : decode cX9_sheet 35 = .ok (.ireturn, 1) := by decide +kernel
theorem dX9_sheet_36 : decode cX9_sheet 36 = .ok (.iload_n 3, 1) := by decide +kernel
theorem dX9_sheet_37 : decode cX9_sheet 37 = .ok (.ifCond .ge 10, 3) := by decide +kernel
theorem dX9_sheet_40 : decode cX9_sheet 40 = .ok (.aload_n 0, 1) := by decide +kernel
theorem dX9_sheet_41 : decode cX9_sheet 41 = .ok (.ldc 136, 2) := by decide +kernel
theorem dX9_sheet_43 : decode cX9_sheet 43 = .ok (.invokevirtual 110, 3) := by decide +kernel
theorem dX9_sheet_46 : decode cX9_sheet 46 = .ok (.ireturn, 1) := by decide +kernel
theorem dX9_sheet_47 : decode cX9_sheet 47 = .ok (.iload_n 3, 1) := by decide +kernel
theorem dX9_sheet_48 : decode cX9_sheet 48 = .ok (.bipush 12, 2) := by decide +kernel
theorem dX9_sheet_50 : decode cX9_sheet 50 = .ok (.if_icmp .le 10, 3) := by decide +kernel
theorem dX9_sheet_53 : decode cX9_sheet 53 = .ok (.aload_n 0, 1) := by decide +kernel
theorem dX9_sheet_54 : decode cX9_sheet 54 = .ok (.ldc 109, 2) := by decide +kernel
theorem dX9_sheet_56 : decode cX9_sheet 56 = .ok (.invokevirtual 110, 3) := by decide +kernel
theorem dX9_sheet_59 : decode cX9_sheet 59 = .ok (.ireturn, 1) := by decide +kernel
theorem dX9_sheet_60 : decode cX9_sheet 60 = .ok (.aload_n 0, 1) := by decide +kernel
theorem dX9_sheet_61 : decode cX9_sheet 61 = .ok (.getfield 72, 3) := by decide +kernel
theorem dX9_sheet_64 : decode cX9_sheet 64 = .ok (.iload_n 1, 1) := by decide +kernel
theorem dX9_sheet_65 : decode cX9_sheet 65 = .ok (.iload_n 2, 1) := by decide +kernel
theorem dX9_sheet_66 : decode cX9_sheet 66 = .ok (.iastore, 1) := by decide +kernel
theorem dX9_sheet_67 : decode cX9_sheet 67 = .ok (.aload_n 0, 1) := by decide +kernel
theorem dX9_sheet_68 : decode cX9_sheet 68 = .ok (.getfield 75, 3) := by decide +kernel
theorem dX9_sheet_71 : decode cX9_sheet 71 = .ok (.iload_n 1, 1) := by decide +kernel
theorem dX9_sheet_72 : decode cX9_sheet 72 = .ok (.iload_n 2, 1) := by decide +kernel
theorem dX9_sheet_73 : decode cX9_sheet 73 = .ok (.ifCond .ne 7, 3) := by decide +kernel
theorem dX9_sheet_76 : decode cX9_sheet 76 = .ok (.iconst 0, 1) := by decide +kernel
theorem dX9_sheet_77 : decode cX9_sheet 77 = .ok (.goto 4, 3) := by decide +kernel
theorem dX9_sheet_80 : decode cX9_sheet 80 = .ok (.iload_n 3, 1) := by decide +kernel
theorem dX9_sheet_81 : decode cX9_sheet 81 = .ok (.iastore, 1) := by decide +kernel
theorem dX9_sheet_82 : decode cX9_sheet 82 = .ok (.iconst 0, 1) := by decide +kernel
theorem dX9_sheet_83 : decode cX9_sheet 83 = .ok (.istore 4, 2) := by decide +kernel
theorem dX9_sheet_85 : decode cX9_sheet 85 = .ok (.iload 4, 2) := by decide +kernel
theorem dX9_sheet_87 : decode cX9_sheet 87 = .ok (.bipush 12, 2) := by decide +kernel
theorem dX9_sheet_89 : decode cX9_sheet 89 = .ok (.if_icmp .ge 22, 3) := by decide +kernel
theorem dX9_sheet_92 : decode cX9_sheet 92 = .ok (.aload_n 0, 1) := by decide +kernel
theorem dX9_sheet_93 : decode cX9_sheet 93 = .ok (.getfield 78, 3) := by decide +kernel
theorem dX9_sheet_96 : decode cX9_sheet 96 = .ok (.bipush 12, 2) := by decide +kernel
theorem dX9_sheet_98 : decode cX9_sheet 98 = .ok (.iload_n 1, 1) := by decide +kernel
theorem dX9_sheet_99 : decode cX9_sheet 99 = .ok (.imul, 1) := by decide +kernel
theorem dX9_sheet_100 : decode cX9_sheet 100 = .ok (.iload 4, 2) := by decide +kernel
theorem dX9_sheet_102 : decode cX9_sheet 102 = .ok (.iadd, 1) := by decide +kernel
theorem dX9_sheet_103 : decode cX9_sheet 103 = .ok (.iconst 0, 1) := by decide +kernel
theorem dX9_sheet_104 : decode cX9_sheet 104 = .ok (.iastore, 1) := by decide +kernel
theorem dX9_sheet_105 : decode cX9_sheet 105 = .ok (.iinc 4 1, 3) := by decide +kernel
theorem dX9_sheet_108 : decode cX9_sheet 108 = .ok (.goto (-23), 3) := by decide +kernel
theorem dX9_sheet_111 : decode cX9_sheet 111 = .ok (.aload_n 0, 1) := by decide +kernel
theorem dX9_sheet_112 : decode cX9_sheet 112 = .ok (.getfield 75, 3) := by decide +kernel
theorem dX9_sheet_115 : decode cX9_sheet 115 = .ok (.iload_n 1, 1) := by decide +kernel
theorem dX9_sheet_116 : decode cX9_sheet 116 = .ok (.iaload, 1) := by decide +kernel
theorem dX9_sheet_117 : decode cX9_sheet 117 = .ok (.ireturn, 1) := by decide +kernel
theorem dX9_put_0 : decode cX9_put 0 = .ok (.iload_n 1, 1) := by decide +kernel
theorem dX9_put_1 : decode cX9_put 1 = .ok (.invokestatic 213, 3) := by decide +kernel
theorem dX9_put_4 : decode cX9_put 4 = .ok (.ifCond .ne 10, 3) := by decide +kernel
theorem dX9_put_7 : decode cX9_put 7 = .ok (.aload_n 0, 1) := by decide +kernel
theorem dX9_put_8 : decode cX9_put 8 = .ok (.ldc 109, 2) := by decide +kernel
theorem dX9_put_10 : decode cX9_put 10 = .ok (.invokevirtual 110, 3) := by decide +kernel
theorem dX9_put_13 : decode cX9_put 13 = .ok (.ireturn, 1) := by decide +kernel
theorem dX9_put_14 : decode cX9_put 14 = .ok (.aload_n 0, 1) := by decide +kernel
theorem dX9_put_15 : decode cX9_put 15 = .ok (.getfield 72, 3) := by decide +kernel
theorem dX9_put_18 : decode cX9_put 18 = .ok (.iload_n 1, 1) := by decide +kernel
theorem dX9_put_19 : decode cX9_put 19 = .ok (.iaload, 1) := by decide +kernel
theorem dX9_put_20 : decode cX9_put 20 = .ok (.ifCond .ne 10, 3) := by decide +kernel
theorem dX9_put_23 : decode cX9_put 23 = .ok (.aload_n 0, 1) := by decide +kernel
theorem dX9_put_24 : decode cX9_put 24 = .ok (.ldc 216, 2) := by decide +kernel
theorem dX9_put_26 : decode cX9_put 26 = .ok (.invokevirtual 110, 3) := by decide +kernel
theorem dX9_put_29 : decode cX9_put 29 = .ok (.ireturn, 1) := by decide +kernel
theorem dX9_put_30 : decode cX9_put 30 = .ok (.iload_n 2, 1) := by decide +kernel
theorem dX9_put_31 : decode cX9_put 31 = .ok (.ifCond .lt 13, 3) := by decide +kernel
theorem dX9_put_34 : decode cX9_put 34 = .ok (.iload_n 2, 1) := by decide +kernel
theorem dX9_put_35 : decode cX9_put 35 = .ok (.aload_n 0, 1) := by decide +kernel
theorem dX9_put_36 : decode cX9_put 36 = .ok (.getfield 75, 3) := by decide +kernel
theorem dX9_put_39 : decode cX9_put 39 = .ok (.iload_n 1, 1) := by decide +kernel
theorem dX9_put_40 : decode cX9_put 40 = .ok (.iaload, 1) := by decide +kernel
theorem dX9_put_41 : decode cX9_put 41 = .ok (.if_icmp .lt 10, 3) := by decide +kernel
theorem dX9_put_44 : decode cX9_put 44 = .ok (.aload_n 0, 1) := by decide +kernel
theorem dX9_put_45 : decode cX9_put 45 = .ok (.ldc 109, 2) := by decide +kernel
theorem dX9_put_47 : decode cX9_put 47 = .ok (.invokevirtual 110, 3) := by decide +kernel
theorem dX9_put_50 : decode cX9_put 50 = .ok (.ireturn, 1) := by decide +kernel
theorem dX9_put_51 : decode cX9_put 51 = .ok (.aload_n 0, 1) := by decide +kernel
theorem dX9_put_52 : decode cX9_put 52 = .ok (.getfield 78, 3) := by decide +kernel
theorem dX9_put_55 : decode cX9_put 55 = .ok (.bipush 12, 2) := by decide +kernel
theorem dX9_put_57 : decode cX9_put 57 = .ok (.iload_n 1, 1) := by decide +kernel
theorem dX9_put_58 : decode cX9_put 58 = .ok (.imul, 1) := by decide +kernel
theorem dX9_put_59 : decode cX9_put 59 = .ok (.iload_n 2, 1) := by decide +kernel
theorem dX9_put_60 : decode cX9_put 60 = .ok (.iadd, 1) := by decide +kernel
theorem dX9_put_61 : decode cX9_put 61 = .ok (.aload_n 0, 1) := by decide +kernel
theorem dX9_put_62 : decode cX9_put 62 = .ok (.getfield 72, 3) := by decide +kernel
theorem dX9_put_65 : decode cX9_put 65 = .ok (.iload_n 1, 1) := by decide +kernel
theorem dX9_put_66 : decode cX9_put 66 = .ok (.iaload, 1) := by decide +kernel
theorem dX9_put_67 : decode cX9_put 67 = .ok (.bipush 8, 2) := by decide +kernel
theorem dX9_put_69 : decode cX9_put 69 = .ok (.if_icmp .ne 8, 3) := by decide +kernel
theorem dX9_put_72 : decode cX9_put 72 = .ok (.iload_n 3, 1) := by decide +kernel
theorem dX9_put_73 : decode cX9_put 73 = .ok (.i2b, 1) := by decide +kernel
theorem dX9_put_74 : decode cX9_put 74 = .ok (.goto 20, 3) := by decide +kernel
theorem dX9_put_77 : decode cX9_put 77 = .ok (.aload_n 0, 1) := by decide +kernel
theorem dX9_put_78 : decode cX9_put 78 = .ok (.getfield 72, 3) := by decide +kernel
theorem dX9_put_81 : decode cX9_put 81 = .ok (.iload_n 1, 1) := by decide +kernel
theorem dX9_put_82 : decode cX9_put 82 = .ok (.iaload, 1) := by decide +kernel
theorem dX9_put_83 : decode cX9_put 83 = .ok (.bipush 16, 2) := by decide +kernel
theorem dX9_put_85 : decode cX9_put 85 = .ok (.if_icmp .ne 8, 3) := by decide +kernel
theorem dX9_put_88 : decode cX9_put 88 = .ok (.iload_n 3, 1) := by decide +kernel
theorem dX9_put_89 : decode cX9_put 89 = .ok (.i2s, 1) := by decide +kernel
theorem dX9_put_90 : decode cX9_put 90 = .ok (.goto 4, 3) := by decide +kernel
theorem dX9_put_93 : decode cX9_put 93 = .ok (.iload_n 3, 1) := by decide +kernel
theorem dX9_put_94 : decode cX9_put 94 = .ok (.iastore, 1) := by decide +kernel
theorem dX9_put_95 : decode cX9_put 95 = .ok (.iconst 0, 1) := by decide +kernel
theorem dX9_put_96 : decode cX9_put 96 = .ok (.ireturn, 1) := by decide +kernel
theorem dX9_hasPart_0 : decode cX9_hasPart 0 = .ok (.iload_n 2, 1) := by decide +kernel
theorem dX9_hasPart_1 : decode cX9_hasPart 1 = .ok (.ifCond .lt 33, 3) := by decide +kernel
theorem dX9_hasPart_4 : decode cX9_hasPart 4 = .ok (.iload_n 3, 1) := by decide +kernel
theorem dX9_hasPart_5 : decode cX9_hasPart 5 = .ok (.ifCond .lt 29, 3) := by decide +kernel
theorem dX9_hasPart_8 : decode cX9_hasPart 8 = .ok (.iload_n 3, 1) := by decide +kernel
theorem dX9_hasPart_9 : decode cX9_hasPart 9 = .ok (.aload_n 0, 1) := by decide +kernel
theorem dX9_hasPart_10 : decode cX9_hasPart 10 = .ok (.getfield 75, 3) := by decide +kernel
theorem dX9_hasPart_13 : decode cX9_hasPart 13 = .ok (.iload_n 1, 1) := by decide +kernel
theorem dX9_hasPart_14 : decode cX9_hasPart 14 = .ok (.iaload, 1) := by decide +kernel
theorem dX9_hasPart_15 : decode cX9_hasPart 15 = .ok (.if_icmp .gt 19, 3) := by decide +kernel
theorem dX9_hasPart_18 : decode cX9_hasPart 18 = .ok (.iload_n 2, 1) := by decide +kernel
theorem dX9_hasPart_19 : decode cX9_hasPart 19 = .ok (.aload_n 0, 1) := by decide +kernel
theorem dX9_hasPart_20 : decode cX9_hasPart 20 = .ok (.getfield 75, 3) := by decide +kernel
theorem dX9_hasPart_23 : decode cX9_hasPart 23 = .ok (.iload_n 1, 1) := by decide +kernel
theorem dX9_hasPart_24 : decode cX9_hasPart 24 = .ok (.iaload, 1) := by decide +kernel
theorem dX9_hasPart_25 : decode cX9_hasPart 25 = .ok (.iload_n 3, 1) := by decide +kernel
theorem dX9_hasPart_26 : decode cX9_hasPart 26 = .ok (.isub, 1) := by decide +kernel
theorem dX9_hasPart_27 : decode cX9_hasPart 27 = .ok (.if_icmp .gt 7, 3) := by decide +kernel
theorem dX9_hasPart_30 : decode cX9_hasPart 30 = .ok (.iconst 1, 1) := by decide +kernel
theorem dX9_hasPart_31 : decode cX9_hasPart 31 = .ok (.goto 4, 3) := by decide +kernel
theorem dX9_hasPart_34 : decode cX9_hasPart 34 = .ok (.iconst 0, 1) := by decide +kernel
theorem dX9_hasPart_35 : decode cX9_hasPart 35 = .ok (.ireturn, 1) := by decide +kernel
theorem dX9_copy_0 : decode cX9_copy 0 = .ok (.iload_n 1, 1) := by decide +kernel
theorem dX9_copy_1 : decode cX9_copy 1 = .ok (.invokestatic 213, 3) := by decide +kernel
theorem dX9_copy_4 : decode cX9_copy 4 = .ok (.ifCond .eq 10, 3) := by decide +kernel
theorem dX9_copy_7 : decode cX9_copy 7 = .ok (.iload_n 3, 1) := by decide +kernel
theorem dX9_copy_8 : decode cX9_copy 8 = .ok (.invokestatic 213, 3) := by decide +kernel
theorem dX9_copy_11 : decode cX9_copy 11 = .ok (.ifCond .ne 10, 3) := by decide +kernel
theorem dX9_copy_14 : decode cX9_copy 14 = .ok (.aload_n 0, 1) := by decide +kernel
theorem dX9_copy_15 : decode cX9_copy 15 = .ok (.ldc 109, 2) := by decide +kernel
theorem dX9_copy_17 : decode cX9_copy 17 = .ok (.invokevirtual 110, 3) := by decide +kernel
theorem dX9_copy_20 : decode cX9_copy 20 = .ok (.ireturn, 1) := by decide +kernel
theorem dX9_copy_21 : decode cX9_copy 21 = .ok (.aload_n 0, 1) := by decide +kernel
theorem dX9_copy_22 : decode cX9_copy 22 = .ok (.getfield 72, 3) := by decide +kernel
theorem dX9_copy_25 : decode cX9_copy 25 = .ok (.iload_n 1, 1) := by decide +kernel
theorem dX9_copy_26 : decode cX9_copy 26 = .ok (.iaload, 1) := by decide +kernel
theorem dX9_copy_27 : decode cX9_copy 27 = .ok (.ifCond .eq 12, 3) := by decide +kernel
theorem dX9_copy_30 : decode cX9_copy 30 = .ok (.aload_n 0, 1) := by decide +kernel
theorem dX9_copy_31 : decode cX9_copy 31 = .ok (.getfield 72, 3) := by decide +kernel
theorem dX9_copy_34 : decode cX9_copy 34 = .ok (.iload_n 3, 1) := by decide +kernel
theorem dX9_copy_35 : decode cX9_copy 35 = .ok (.iaload, 1) := by decide +kernel
theorem dX9_copy_36 : decode cX9_copy 36 = .ok (.ifCond .ne 10, 3) := by decide +kernel
theorem dX9_copy_39 : decode cX9_copy 39 = .ok (.aload_n 0, 1) := by decide +kernel
theorem dX9_copy_40 : decode cX9_copy 40 = .ok (.ldc 216, 2) := by decide +kernel
theorem dX9_copy_42 : decode cX9_copy 42 = .ok (.invokevirtual 110, 3) := by decide +kernel
theorem dX9_copy_45 : decode cX9_copy 45 = .ok (.ireturn, 1) := by decide +kernel
theorem dX9_copy_46 : decode cX9_copy 46 = .ok (.aload_n 0, 1) := by decide +kernel
theorem dX9_copy_47 : decode cX9_copy 47 = .ok (.getfield 72, 3) := by decide +kernel
theorem dX9_copy_50 : decode cX9_copy 50 = .ok (.iload_n 1, 1) := by decide +kernel
theorem dX9_copy_51 : decode cX9_copy 51 = .ok (.iaload, 1) := by decide +kernel
theorem dX9_copy_52 : decode cX9_copy 52 = .ok (.aload_n 0, 1) := by decide +kernel
theorem dX9_copy_53 : decode cX9_copy 53 = .ok (.getfield 72, 3) := by decide +kernel
theorem dX9_copy_56 : decode cX9_copy 56 = .ok (.iload_n 3, 1) := by decide +kernel
theorem dX9_copy_57 : decode cX9_copy 57 = .ok (.iaload, 1) := by decide +kernel
theorem dX9_copy_58 : decode cX9_copy 58 = .ok (.if_icmp .eq 10, 3) := by decide +kernel
theorem dX9_copy_61 : decode cX9_copy 61 = .ok (.aload_n 0, 1) := by decide +kernel
theorem dX9_copy_62 : decode cX9_copy 62 = .ok (.ldc 122, 2) := by decide +kernel
theorem dX9_copy_64 : decode cX9_copy 64 = .ok (.invokevirtual 110, 3) := by decide +kernel
theorem dX9_copy_67 : decode cX9_copy 67 = .ok (.ireturn, 1) := by decide +kernel
theorem dX9_copy_68 : decode cX9_copy 68 = .ok (.aload_n 0, 1) := by decide +kernel
theorem dX9_copy_69 : decode cX9_copy 69 = .ok (.iload_n 1, 1) := by decide +kernel
theorem dX9_copy_70 : decode cX9_copy 70 = .ok (.iload_n 2, 1) := by decide +kernel
theorem dX9_copy_71 : decode cX9_copy 71 = .ok (.iload 5, 2) := by decide +kernel
theorem dX9_copy_73 : decode cX9_copy 73 = .ok (.invokevirtual 217, 3) := by decide +kernel
theorem dX9_copy_76 : decode cX9_copy 76 = .ok (.ifCond .eq 15, 3) := by decide +kernel
theorem dX9_copy_79 : decode cX9_copy 79 = .ok (.aload_n 0, 1) := by decide +kernel
theorem dX9_copy_80 : decode cX9_copy 80 = .ok (.iload_n 3, 1) := by decide +kernel
theorem dX9_copy_81 : decode cX9_copy 81 = .ok (.iload 4, 2) := by decide +kernel
theorem dX9_copy_83 : decode cX9_copy 83 = .ok (.iload 5, 2) := by decide +kernel
theorem dX9_copy_85 : decode cX9_copy 85 = .ok (.invokevirtual 217, 3) := by decide +kernel
theorem dX9_copy_88 : decode cX9_copy 88 = .ok (.ifCond .ne 10, 3) := by decide +kernel
theorem dX9_copy_91 : decode cX9_copy 91 = .ok (.aload_n 0, 1) := by decide +kernel
theorem dX9_copy_92 : decode cX9_copy 92 = .ok (.ldc 109, 2) := by decide +kernel
theorem dX9_copy_94 : decode cX9_copy 94 = .ok (.invokevirtual 110, 3) := by decide +kernel
theorem dX9_copy_97 : decode cX9_copy 97 = .ok (.ireturn, 1) := by decide +kernel
theorem dX9_copy_98 : decode cX9_copy 98 = .ok (.iconst 0, 1) := by decide +kernel
theorem dX9_copy_99 : decode cX9_copy 99 = .ok (.istore 6, 2) := by decide +kernel
theorem dX9_copy_101 : decode cX9_copy 101 = .ok (.iload 6, 2) := by decide +kernel
theorem dX9_copy_103 : decode cX9_copy 103 = .ok (.iload 5, 2) := by decide +kernel
theorem dX9_copy_105 : decode cX9_copy 105 = .ok (.if_icmp .ge 30, 3) := by decide +kernel
theorem dX9_copy_108 : decode cX9_copy 108 = .ok (.aload_n 0, 1) := by decide +kernel
theorem dX9_copy_109 : decode cX9_copy 109 = .ok (.getfield 96, 3) := by decide +kernel
theorem dX9_copy_112 : decode cX9_copy 112 = .ok (.iload 6, 2) := by decide +kernel
theorem dX9_copy_114 : decode cX9_copy 114 = .ok (.aload_n 0, 1) := by decide +kernel
theorem dX9_copy_115 : decode cX9_copy 115 = .ok (.getfield 78, 3) := by decide +kernel
theorem dX9_copy_118 : decode cX9_copy 118 = .ok (.bipush 12, 2) := by decide +kernel
theorem dX9_copy_120 : decode cX9_copy 120 = .ok (.iload_n 1, 1) := by decide +kernel
theorem dX9_copy_121 : decode cX9_copy 121 = .ok (.imul, 1) := by decide +kernel
theorem dX9_copy_122 : decode cX9_copy 122 = .ok (.iload_n 2, 1) := by decide +kernel
theorem dX9_copy_123 : decode cX9_copy 123 = .ok (.iadd, 1) := by decide +kernel
theorem dX9_copy_124 : decode cX9_copy 124 = .ok (.iload 6, 2) := by decide +kernel
theorem dX9_copy_126 : decode cX9_copy 126 = .ok (.iadd, 1) := by decide +kernel
theorem dX9_copy_127 : decode cX9_copy 127 = .ok (.iaload, 1) := by decide +kernel
theorem dX9_copy_128 : decode cX9_copy 128 = .ok (.iastore, 1) := by decide +kernel
theorem dX9_copy_129 : decode cX9_copy 129 = .ok (.iinc 6 1, 3) := by decide +kernel
theorem dX9_copy_132 : decode cX9_copy 132 = .ok (.goto (-31), 3) := by decide +kernel
theorem dX9_copy_135 : decode cX9_copy 135 = .ok (.iconst 0, 1) := by decide +kernel
theorem dX9_copy_136 : decode cX9_copy 136 = .ok (.istore 6, 2) := by decide +kernel
theorem dX9_copy_138 : decode cX9_copy 138 = .ok (.iload 6, 2) := by decide +kernel
theorem dX9_copy_140 : decode cX9_copy 140 = .ok (.iload 5, 2) := by decide +kernel
theorem dX9_copy_142 : decode cX9_copy 142 = .ok (.if_icmp .ge 31, 3) := by decide +kernel
theorem dX9_copy_145 : decode cX9_copy 145 = .ok (.aload_n 0, 1) := by decide +kernel
theorem dX9_copy_146 : decode cX9_copy 146 = .ok (.getfield 78, 3) := by decide +kernel
theorem dX9_copy_149 : decode cX9_copy 149 = .ok (.bipush 12, 2) := by decide +kernel
theorem dX9_copy_151 : decode cX9_copy 151 = .ok (.iload_n 3, 1) := by decide +kernel
theorem dX9_copy_152 : decode cX9_copy 152 = .ok (.imul, 1) := by decide +kernel
theorem dX9_copy_153 : decode cX9_copy 153 = .ok (.iload 4, 2) := by decide +kernel
theorem dX9_copy_155 : decode cX9_copy 155 = .ok (.iadd, 1) := by decide +kernel
theorem dX9_copy_156 : decode cX9_copy 156 = .ok (.iload 6, 2) := by decide +kernel
theorem dX9_copy_158 : decode cX9_copy 158 = .ok (.iadd, 1) := by decide +kernel
theorem dX9_copy_159 : decode cX9_copy 159 = .ok (.aload_n 0, 1) := by decide +kernel
theorem dX9_copy_160 : decode cX9_copy 160 = .ok (.getfield 96, 3) := by decide +kernel
theorem dX9_copy_163 : decode cX9_copy 163 = .ok (.iload 6, 2) := by decide +kernel
theorem dX9_copy_165 : decode cX9_copy 165 = .ok (.iaload, 1) := by decide +kernel
theorem dX9_copy_166 : decode cX9_copy 166 = .ok (.iastore, 1) := by decide +kernel
theorem dX9_copy_167 : decode cX9_copy 167 = .ok (.iinc 6 1, 3) := by decide +kernel
theorem dX9_copy_170 : decode cX9_copy 170 = .ok (.goto (-32), 3) := by decide +kernel
theorem dX9_copy_173 : decode cX9_copy 173 = .ok (.iload 5, 2) := by decide +kernel
theorem dX9_copy_175 : decode cX9_copy 175 = .ok (.ireturn, 1) := by decide +kernel
theorem dX9_read_0 : decode cX9_read 0 = .ok (.iload_n 1, 1) := by decide +kernel
theorem dX9_read_1 : decode cX9_read 1 = .ok (.invokestatic 213, 3) := by decide +kernel
theorem dX9_read_4 : decode cX9_read 4 = .ok (.ifCond .ne 10, 3) := by decide +kernel
theorem dX9_read_7 : decode cX9_read 7 = .ok (.aload_n 0, 1) := by decide +kernel
theorem dX9_read_8 : decode cX9_read 8 = .ok (.ldc 109, 2) := by decide +kernel
theorem dX9_read_10 : decode cX9_read 10 = .ok (.invokevirtual 110, 3) := by decide +kernel
theorem dX9_read_13 : decode cX9_read 13 = .ok (.ireturn, 1) := by decide +kernel
theorem dX9_read_14 : decode cX9_read 14 = .ok (.aload_n 0, 1) := by decide +kernel
theorem dX9_read_15 : decode cX9_read 15 = .ok (.getfield 72, 3) := by decide +kernel
theorem dX9_read_18 : decode cX9_read 18 = .ok (.iload_n 1, 1) := by decide +kernel
theorem dX9_read_19 : decode cX9_read 19 = .ok (.iaload, 1) := by decide +kernel
theorem dX9_read_20 : decode cX9_read 20 = .ok (.ifCond .ne 10, 3) := by decide +kernel
theorem dX9_read_23 : decode cX9_read 23 = .ok (.aload_n 0, 1) := by decide +kernel
theorem dX9_read_24 : decode cX9_read 24 = .ok (.ldc 216, 2) := by decide +kernel
theorem dX9_read_26 : decode cX9_read 26 = .ok (.invokevirtual 110, 3) := by decide +kernel
theorem dX9_read_29 : decode cX9_read 29 = .ok (.ireturn, 1) := by decide +kernel
theorem dX9_read_30 : decode cX9_read 30 = .ok (.iconst 0, 1) := by decide +kernel
theorem dX9_read_31 : decode cX9_read 31 = .ok (.istore_n 2, 1) := by decide +kernel
theorem dX9_read_32 : decode cX9_read 32 = .ok (.iload_n 2, 1) := by decide +kernel
theorem dX9_read_33 : decode cX9_read 33 = .ok (.aload_n 0, 1) := by decide +kernel
theorem dX9_read_34 : decode cX9_read 34 = .ok (.getfield 75, 3) := by decide +kernel
theorem dX9_read_37 : decode cX9_read 37 = .ok (.iload_n 1, 1) := by decide +kernel
theorem dX9_read_38 : decode cX9_read 38 = .ok (.iaload, 1) := by decide +kernel
theorem dX9_read_39 : decode cX9_read 39 = .ok (.if_icmp .ge 23, 3) := by decide +kernel
theorem dX9_read_42 : decode cX9_read 42 = .ok (.aload_n 0, 1) := by decide +kernel
theorem dX9_read_43 : decode cX9_read 43 = .ok (.getfield 78, 3) := by decide +kernel
theorem dX9_read_46 : decode cX9_read 46 = .ok (.bipush 12, 2) := by decide +kernel
theorem dX9_read_48 : decode cX9_read 48 = .ok (.iload_n 1, 1) := by decide +kernel
theorem dX9_read_49 : decode cX9_read 49 = .ok (.imul, 1) := by decide +kernel
theorem dX9_read_50 : decode cX9_read 50 = .ok (.iload_n 2, 1) := by decide +kernel
theorem dX9_read_51 : decode cX9_read 51 = .ok (.iadd, 1) := by decide +kernel
theorem dX9_read_52 : decode cX9_read 52 = .ok (.iaload, 1) := by decide +kernel
theorem dX9_read_53 : decode cX9_read 53 = .ok (.ifCond .eq 9, 3) := by decide +kernel
theorem dX9_read_56 : decode cX9_read 56 = .ok (.iinc 2 1, 3) := by decide +kernel
theorem dX9_read_59 : decode cX9_read 59 = .ok (.goto (-27), 3) := by decide +kernel
theorem dX9_read_62 : decode cX9_read 62 = .ok (.iconst 1, 1) := by decide +kernel
theorem dX9_read_63 : decode cX9_read 63 = .ok (.istore_n 3, 1) := by decide +kernel
theorem dX9_read_64 : decode cX9_read 64 = .ok (.iconst 0, 1) := by decide +kernel
theorem dX9_read_65 : decode cX9_read 65 = .ok (.istore 4, 2) := by decide +kernel
theorem dX9_read_67 : decode cX9_read 67 = .ok (.iconst 0, 1) := by decide +kernel
theorem dX9_read_68 : decode cX9_read 68 = .ok (.istore 5, 2) := by decide +kernel
theorem dX9_read_70 : decode cX9_read 70 = .ok (.iload 5, 2) := by decide +kernel
theorem dX9_read_72 : decode cX9_read 72 = .ok (.iload_n 2, 1) := by decide +kernel
theorem dX9_read_73 : decode cX9_read 73 = .ok (.if_icmp .ge 83, 3) := by decide +kernel
theorem dX9_read_76 : decode cX9_read 76 = .ok (.iload_n 3, 1) := by decide +kernel
theorem dX9_read_77 : decode cX9_read 77 = .ok (.aload_n 0, 1) := by decide +kernel
theorem dX9_read_78 : decode cX9_read 78 = .ok (.getfield 78, 3) := by decide +kernel
theorem dX9_read_81 : decode cX9_read 81 = .ok (.bipush 12, 2) := by decide +kernel
theorem dX9_read_83 : decode cX9_read 83 = .ok (.iload_n 1, 1) := by decide +kernel
theorem dX9_read_84 : decode cX9_read 84 = .ok (.imul, 1) := by decide +kernel
theorem dX9_read_85 : decode cX9_read 85 = .ok (.iload 5, 2) := by decide +kernel
theorem dX9_read_87 : decode cX9_read 87 = .ok (.iadd, 1) := by decide +kernel
theorem dX9_read_88 : decode cX9_read 88 = .ok (.iaload, 1) := by decide +kernel
theorem dX9_read_89 : decode cX9_read 89 = .ok (.iconst 1, 1) := by decide +kernel
theorem dX9_read_90 : decode cX9_read 90 = .ok (.bipush 9, 2) := by decide +kernel
theorem dX9_read_92 : decode cX9_read 92 = .ok (.invokestatic 105, 3) := by decide +kernel
theorem dX9_read_95 : decode cX9_read 95 = .ok (.iand, 1) := by decide +kernel
theorem dX9_read_96 : decode cX9_read 96 = .ok (.istore_n 3, 1) := by decide +kernel
theorem dX9_read_97 : decode cX9_read 97 = .ok (.iconst 0, 1) := by decide +kernel
theorem dX9_read_98 : decode cX9_read 98 = .ok (.istore 6, 2) := by decide +kernel
theorem dX9_read_100 : decode cX9_read 100 = .ok (.iload 6, 2) := by decide +kernel
theorem dX9_read_102 : decode cX9_read 102 = .ok (.iload 5, 2) := by decide +kernel
theorem dX9_read_104 : decode cX9_read 104 = .ok (.if_icmp .ge 46, 3) := by decide +kernel
theorem dX9_read_107 : decode cX9_read 107 = .ok (.iload 4, 2) := by decide +kernel
theorem dX9_read_109 : decode cX9_read 109 = .ok (.aload_n 0, 1) := by decide +kernel
theorem dX9_read_110 : decode cX9_read 110 = .ok (.getfield 78, 3) := by decide +kernel
theorem dX9_read_113 : decode cX9_read 113 = .ok (.bipush 12, 2) := by decide +kernel
theorem dX9_read_115 : decode cX9_read 115 = .ok (.iload_n 1, 1) := by decide +kernel
theorem dX9_read_116 : decode cX9_read 116 = .ok (.imul, 1) := by decide +kernel
theorem dX9_read_117 : decode cX9_read 117 = .ok (.iload 5, 2) := by decide +kernel
theorem dX9_read_119 : decode cX9_read 119 = .ok (.iadd, 1) := by decide +kernel
theorem dX9_read_120 : decode cX9_read 120 = .ok (.iaload, 1) := by decide +kernel
theorem dX9_read_121 : decode cX9_read 121 = .ok (.aload_n 0, 1) := by decide +kernel
theorem dX9_read_122 : decode cX9_read 122 = .ok (.getfield 78, 3) := by decide +kernel
theorem dX9_read_125 : decode cX9_read 125 = .ok (.bipush 12, 2) := by decide +kernel
theorem dX9_read_127 : decode cX9_read 127 = .ok (.iload_n 1, 1) := by decide +kernel
theorem dX9_read_128 : decode cX9_read 128 = .ok (.imul, 1) := by decide +kernel
theorem dX9_read_129 : decode cX9_read 129 = .ok (.iload 6, 2) := by decide +kernel
theorem dX9_read_131 : decode cX9_read 131 = .ok (.iadd, 1) := by decide +kernel
theorem dX9_read_132 : decode cX9_read 132 = .ok (.iaload, 1) := by decide +kernel
theorem dX9_read_133 : decode cX9_read 133 = .ok (.if_icmp .ne 7, 3) := by decide +kernel
theorem dX9_read_136 : decode cX9_read 136 = .ok (.iconst 1, 1) := by decide +kernel
theorem dX9_read_137 : decode cX9_read 137 = .ok (.goto 4, 3) := by decide +kernel
theorem dX9_read_140 : decode cX9_read 140 = .ok (.iconst 0, 1) := by decide +kernel
theorem dX9_read_141 : decode cX9_read 141 = .ok (.ior, 1) := by decide +kernel
theorem dX9_read_142 : decode cX9_read 142 = .ok (.istore 4, 2) := by decide +kernel
theorem dX9_read_144 : decode cX9_read 144 = .ok (.iinc 6 1, 3) := by decide +kernel
theorem dX9_read_147 : decode cX9_read 147 = .ok (.goto (-47), 3) := by decide +kernel
theorem dX9_read_150 : decode cX9_read 150 = .ok (.iinc 5 1, 3) := by decide +kernel
theorem dX9_read_153 : decode cX9_read 153 = .ok (.goto (-83), 3) := by decide +kernel
theorem dX9_read_156 : decode cX9_read 156 = .ok (.iload_n 3, 1) := by decide +kernel
theorem dX9_read_157 : decode cX9_read 157 = .ok (.ifCond .eq 14, 3) := by decide +kernel
theorem dX9_read_160 : decode cX9_read 160 = .ok (.iload 4, 2) := by decide +kernel
theorem dX9_read_162 : decode cX9_read 162 = .ok (.ifCond .ne 9, 3) := by decide +kernel
theorem dX9_read_165 : decode cX9_read 165 = .ok (.iload_n 2, 1) := by decide +kernel
theorem dX9_read_166 : decode cX9_read 166 = .ok (.bipush 6, 2) := by decide +kernel
theorem dX9_read_168 : decode cX9_read 168 = .ok (.if_icmp .le 29, 3) := by decide +kernel
theorem dX9_read_171 : decode cX9_read 171 = .ok (.aload_n 0, 1) := by decide +kernel
theorem dX9_read_172 : decode cX9_read 172 = .ok (.iload_n 3, 1) := by decide +kernel
theorem dX9_read_173 : decode cX9_read 173 = .ok (.ifCond .ne 8, 3) := by decide +kernel
theorem dX9_read_176 : decode cX9_read 176 = .ok (.ldc 109, 2) := by decide +kernel
theorem dX9_read_178 : decode cX9_read 178 = .ok (.goto 15, 3) := by decide +kernel
theorem dX9_read_181 : decode cX9_read 181 = .ok (.iload 4, 2) := by decide +kernel
theorem dX9_read_183 : decode cX9_read 183 = .ok (.ifCond .eq 8, 3) := by decide +kernel
theorem dX9_read_186 : decode cX9_read 186 = .ok (.ldc 136, 2) := by decide +kernel
theorem dX9_read_188 : decode cX9_read 188 = .ok (.goto 5, 3) := by decide +kernel
theorem dX9_read_191 : decode cX9_read 191 = .ok (.ldc 114, 2) := by decide +kernel
theorem dX9_read_193 : decode cX9_read 193 = .ok (.invokevirtual 110, 3) := by decide +kernel
theorem dX9_read_196 : decode cX9_read 196 = .ok (.ireturn, 1) := by decide +kernel
theorem dX9_read_197 : decode cX9_read 197 = .ok (.iconst 0, 1) := by decide +kernel
theorem dX9_read_198 : decode cX9_read 198 = .ok (.istore 5, 2) := by decide +kernel
theorem dX9_read_200 : decode cX9_read 200 = .ok (.iload 5, 2) := by decide +kernel
theorem dX9_read_202 : decode cX9_read 202 = .ok (.iload_n 2, 1) := by decide +kernel
theorem dX9_read_203 : decode cX9_read 203 = .ok (.if_icmp .ge 28, 3) := by decide +kernel
theorem dX9_read_206 : decode cX9_read 206 = .ok (.aload_n 0, 1) := by decide +kernel
theorem dX9_read_207 : decode cX9_read 207 = .ok (.getfield 32, 3) := by decide +kernel
theorem dX9_read_210 : decode cX9_read 210 = .ok (.iload 5, 2) := by decide +kernel
theorem dX9_read_212 : decode cX9_read 212 = .ok (.aload_n 0, 1) := by decide +kernel
theorem dX9_read_213 : decode cX9_read 213 = .ok (.getfield 78, 3) := by decide +kernel
theorem dX9_read_216 : decode cX9_read 216 = .ok (.bipush 12, 2) := by decide +kernel
theorem dX9_read_218 : decode cX9_read 218 = .ok (.iload_n 1, 1) := by decide +kernel
theorem dX9_read_219 : decode cX9_read 219 = .ok (.imul, 1) := by decide +kernel
theorem dX9_read_220 : decode cX9_read 220 = .ok (.iload 5, 2) := by decide +kernel
theorem dX9_read_222 : decode cX9_read 222 = .ok (.iadd, 1) := by decide +kernel
theorem dX9_read_223 : decode cX9_read 223 = .ok (.iaload, 1) := by decide +kernel
theorem dX9_read_224 : decode cX9_read 224 = .ok (.iastore, 1) := by decide +kernel
theorem dX9_read_225 : decode cX9_read 225 = .ok (.iinc 5 1, 3) := by decide +kernel
theorem dX9_read_228 : decode cX9_read 228 = .ok (.goto (-28), 3) := by decide +kernel
theorem dX9_read_231 : decode cX9_read 231 = .ok (.aload_n 0, 1) := by decide +kernel
theorem dX9_read_232 : decode cX9_read 232 = .ok (.iload_n 2, 1) := by decide +kernel
theorem dX9_read_233 : decode cX9_read 233 = .ok (.putfield 146, 3) := by decide +kernel
theorem dX9_read_236 : decode cX9_read 236 = .ok (.iload_n 2, 1) := by decide +kernel
theorem dX9_read_237 : decode cX9_read 237 = .ok (.ireturn, 1) := by decide +kernel
theorem dX9_told_0 : decode cX9_told 0 = .ok (.iload_n 1, 1) := by decide +kernel
theorem dX9_told_1 : decode cX9_told 1 = .ok (.tableswitch 86 0 6 #[43, 48, 53, 58, 63, 68, 73], 43) := by decide +kernel
theorem dX9_told_44 : decode cX9_told 44 = .ok (.aload_n 0, 1) := by decide +kernel
theorem dX9_told_45 : decode cX9_told 45 = .ok (.getfield 102, 3) := by decide +kernel
theorem dX9_told_48 : decode cX9_told 48 = .ok (.ireturn, 1) := by decide +kernel
theorem dX9_told_49 : decode cX9_told 49 = .ok (.aload_n 0, 1) := by decide +kernel
theorem dX9_told_50 : decode cX9_told 50 = .ok (.getfield 126, 3) := by decide +kernel
theorem dX9_told_53 : decode cX9_told 53 = .ok (.ireturn, 1) := by decide +kernel
theorem dX9_told_54 : decode cX9_told 54 = .ok (.aload_n 0, 1) := by decide +kernel
theorem dX9_told_55 : decode cX9_told 55 = .ok (.getfield 146, 3) := by decide +kernel
theorem dX9_told_58 : decode cX9_told 58 = .ok (.ireturn, 1) := by decide +kernel
theorem dX9_told_59 : decode cX9_told 59 = .ok (.aload_n 0, 1) := by decide +kernel
theorem dX9_told_60 : decode cX9_told 60 = .ok (.getfield 175, 3) := by decide +kernel
theorem dX9_told_63 : decode cX9_told 63 = .ok (.ireturn, 1) := by decide +kernel
theorem dX9_told_64 : decode cX9_told 64 = .ok (.aload_n 0, 1) := by decide +kernel
theorem dX9_told_65 : decode cX9_told 65 = .ok (.getfield 99, 3) := by decide +kernel
theorem dX9_told_68 : decode cX9_told 68 = .ok (.ireturn, 1) := by decide +kernel
theorem dX9_told_69 : decode cX9_told 69 = .ok (.aload_n 0, 1) := by decide +kernel
theorem dX9_told_70 : decode cX9_told 70 = .ok (.getfield 207, 3) := by decide +kernel
theorem dX9_told_73 : decode cX9_told 73 = .ok (.ireturn, 1) := by decide +kernel
theorem dX9_told_74 : decode cX9_told 74 = .ok (.aload_n 0, 1) := by decide +kernel
theorem dX9_told_75 : decode cX9_told 75 = .ok (.getfield 188, 3) := by decide +kernel
theorem dX9_told_78 : decode cX9_told 78 = .ok (.ifCond .eq 7, 3) := by decide +kernel
theorem dX9_told_81 : decode cX9_told 81 = .ok (.iconst 1, 1) := by decide +kernel
theorem dX9_told_82 : decode cX9_told 82 = .ok (.goto 4, 3) := by decide +kernel
theorem dX9_told_85 : decode cX9_told 85 = .ok (.iconst 0, 1) := by decide +kernel
theorem dX9_told_86 : decode cX9_told 86 = .ok (.ireturn, 1) := by decide +kernel
theorem dX9_told_87 : decode cX9_told 87 = .ok (.aload_n 0, 1) := by decide +kernel
theorem dX9_told_88 : decode cX9_told 88 = .ok (.ldc 109, 2) := by decide +kernel
theorem dX9_told_90 : decode cX9_told 90 = .ok (.invokevirtual 110, 3) := by decide +kernel
theorem dX9_told_93 : decode cX9_told 93 = .ok (.ireturn, 1) := by decide +kernel
theorem dJ9_abs_0f7a4_0 : decode cJ9_abs_0f7a4 0 = .ok (.iload_n 0, 1) := by decide +kernel
theorem dJ9_abs_0f7a4_1 : decode cJ9_abs_0f7a4 1 = .ok (.ifCond .ge 8, 3) := by decide +kernel
theorem dJ9_abs_0f7a4_4 : decode cJ9_abs_0f7a4 4 = .ok (.iload_n 0, 1) := by decide +kernel
theorem dJ9_abs_0f7a4_5 : decode cJ9_abs_0f7a4 5 = .ok (.ineg, 1) := by decide +kernel
theorem dJ9_abs_0f7a4_6 : decode cJ9_abs_0f7a4 6 = .ok (.goto 4, 3) := by decide +kernel
theorem dJ9_abs_0f7a4_9 : decode cJ9_abs_0f7a4 9 = .ok (.iload_n 0, 1) := by decide +kernel
theorem dJ9_abs_0f7a4_10 : decode cJ9_abs_0f7a4 10 = .ok (.ireturn, 1) := by decide +kernel
theorem dJ9_max_7cf53_0 : decode cJ9_max_7cf53 0 = .ok (.iload_n 0, 1) := by decide +kernel
theorem dJ9_max_7cf53_1 : decode cJ9_max_7cf53 1 = .ok (.iload_n 1, 1) := by decide +kernel
theorem dJ9_max_7cf53_2 : decode cJ9_max_7cf53 2 = .ok (.if_icmp .lt 7, 3) := by decide +kernel
theorem dJ9_max_7cf53_5 : decode cJ9_max_7cf53 5 = .ok (.iload_n 0, 1) := by decide +kernel
theorem dJ9_max_7cf53_6 : decode cJ9_max_7cf53 6 = .ok (.goto 4, 3) := by decide +kernel
theorem dJ9_max_7cf53_9 : decode cJ9_max_7cf53 9 = .ok (.iload_n 1, 1) := by decide +kernel
theorem dJ9_max_7cf53_10 : decode cJ9_max_7cf53 10 = .ok (.ireturn, 1) := by decide +kernel
theorem dJ9_min_7cf53_0 : decode cJ9_min_7cf53 0 = .ok (.iload_n 0, 1) := by decide +kernel
theorem dJ9_min_7cf53_1 : decode cJ9_min_7cf53 1 = .ok (.iload_n 1, 1) := by decide +kernel
theorem dJ9_min_7cf53_2 : decode cJ9_min_7cf53 2 = .ok (.if_icmp .gt 7, 3) := by decide +kernel
theorem dJ9_min_7cf53_5 : decode cJ9_min_7cf53 5 = .ok (.iload_n 0, 1) := by decide +kernel
theorem dJ9_min_7cf53_6 : decode cJ9_min_7cf53 6 = .ok (.goto 4, 3) := by decide +kernel
theorem dJ9_min_7cf53_9 : decode cJ9_min_7cf53 9 = .ok (.iload_n 1, 1) := by decide +kernel
theorem dJ9_min_7cf53_10 : decode cJ9_min_7cf53 10 = .ok (.ireturn, 1) := by decide +kernel
theorem dL_law_0 : decode cL_law 0 = .ok (.new 7, 3) := by decide +kernel
theorem dL_law_3 : decode cL_law 3 = .ok (.dup, 1) := by decide +kernel
theorem dL_law_4 : decode cL_law 4 = .ok (.invokespecial 9, 3) := by decide +kernel
theorem dL_law_7 : decode cL_law 7 = .ok (.astore_n 1, 1) := by decide +kernel
theorem dL_law_8 : decode cL_law 8 = .ok (.new 10, 3) := by decide +kernel
theorem dL_law_11 : decode cL_law 11 = .ok (.dup, 1) := by decide +kernel
theorem dL_law_12 : decode cL_law 12 = .ok (.invokespecial 12, 3) := by decide +kernel
theorem dL_law_15 : decode cL_law 15 = .ok (.astore_n 2, 1) := by decide +kernel
theorem dL_law_16 : decode cL_law 16 = .ok (.iconst 0, 1) := by decide +kernel
theorem dL_law_17 : decode cL_law 17 = .ok (.istore_n 3, 1) := by decide +kernel
theorem dL_law_18 : decode cL_law 18 = .ok (.iload_n 3, 1) := by decide +kernel
theorem dL_law_19 : decode cL_law 19 = .ok (.aload_n 0, 1) := by decide +kernel
theorem dL_law_20 : decode cL_law 20 = .ok (.arraylength, 1) := by decide +kernel
theorem dL_law_21 : decode cL_law 21 = .ok (.bipush 6, 2) := by decide +kernel
theorem dL_law_23 : decode cL_law 23 = .ok (.isub, 1) := by decide +kernel
theorem dL_law_24 : decode cL_law 24 = .ok (.if_icmp .gt 1202, 3) := by decide +kernel
theorem dL_law_27 : decode cL_law 27 = .ok (.aload_n 0, 1) := by decide +kernel
theorem dL_law_28 : decode cL_law 28 = .ok (.iload_n 3, 1) := by decide +kernel
theorem dL_law_29 : decode cL_law 29 = .ok (.iaload, 1) := by decide +kernel
theorem dL_law_30 : decode cL_law 30 = .ok (.bipush 63, 2) := by decide +kernel
theorem dL_law_32 : decode cL_law 32 = .ok (.iand, 1) := by decide +kernel
theorem dL_law_33 : decode cL_law 33 = .ok (.tableswitch 1187 0 33 #[151, 184, 217, 266, 299, 322, 355, 388, 411, 424, 473, 506, 529, 578, 591, 604, 627, 640, 663, 696, 709, 742, 765, 788, 841, 854, 893, 926, 959, 992, 1035, 1078, 1141, 1164], 151) := by decide +kernel
theorem dL_law_184 : decode cL_law 184 = .ok (.aload_n 1, 1) := by decide +kernel
theorem dL_law_185 : decode cL_law 185 = .ok (.aload_n 0, 1) := by decide +kernel
theorem dL_law_186 : decode cL_law 186 = .ok (.iload_n 3, 1) := by decide +kernel
theorem dL_law_187 : decode cL_law 187 = .ok (.iconst 1, 1) := by decide +kernel
theorem dL_law_188 : decode cL_law 188 = .ok (.iadd, 1) := by decide +kernel
theorem dL_law_189 : decode cL_law 189 = .ok (.iaload, 1) := by decide +kernel
theorem dL_law_190 : decode cL_law 190 = .ok (.aload_n 0, 1) := by decide +kernel
theorem dL_law_191 : decode cL_law 191 = .ok (.iload_n 3, 1) := by decide +kernel
theorem dL_law_192 : decode cL_law 192 = .ok (.iconst 2, 1) := by decide +kernel
theorem dL_law_193 : decode cL_law 193 = .ok (.iadd, 1) := by decide +kernel
theorem dL_law_194 : decode cL_law 194 = .ok (.iaload, 1) := by decide +kernel
theorem dL_law_195 : decode cL_law 195 = .ok (.invokevirtual 13, 3) := by decide +kernel
theorem dL_law_198 : decode cL_law 198 = .ok (.aload_n 2, 1) := by decide +kernel
theorem dL_law_199 : decode cL_law 199 = .ok (.aload_n 0, 1) := by decide +kernel
theorem dL_law_200 : decode cL_law 200 = .ok (.iload_n 3, 1) := by decide +kernel
theorem dL_law_201 : decode cL_law 201 = .ok (.iconst 1, 1) := by decide +kernel
theorem dL_law_202 : decode cL_law 202 = .ok (.iadd, 1) := by decide +kernel
theorem dL_law_203 : decode cL_law 203 = .ok (.iaload, 1) := by decide +kernel
theorem dL_law_204 : decode cL_law 204 = .ok (.aload_n 0, 1) := by decide +kernel
theorem dL_law_205 : decode cL_law 205 = .ok (.iload_n 3, 1) := by decide +kernel
theorem dL_law_206 : decode cL_law 206 = .ok (.iconst 2, 1) := by decide +kernel
theorem dL_law_207 : decode cL_law 207 = .ok (.iadd, 1) := by decide +kernel
theorem dL_law_208 : decode cL_law 208 = .ok (.iaload, 1) := by decide +kernel
theorem dL_law_209 : decode cL_law 209 = .ok (.invokevirtual 17, 3) := by decide +kernel
theorem dL_law_212 : decode cL_law 212 = .ok (.if_icmp .eq 1008, 3) := by decide +kernel
theorem dL_law_215 : decode cL_law 215 = .ok (.iconst 0, 1) := by decide +kernel
theorem dL_law_216 : decode cL_law 216 = .ok (.ireturn, 1) := by decide +kernel
theorem dL_law_217 : decode cL_law 217 = .ok (.aload_n 1, 1) := by decide +kernel
theorem dL_law_218 : decode cL_law 218 = .ok (.aload_n 0, 1) := by decide +kernel
theorem dL_law_219 : decode cL_law 219 = .ok (.iload_n 3, 1) := by decide +kernel
theorem dL_law_220 : decode cL_law 220 = .ok (.iconst 1, 1) := by decide +kernel
theorem dL_law_221 : decode cL_law 221 = .ok (.iadd, 1) := by decide +kernel
theorem dL_law_222 : decode cL_law 222 = .ok (.iaload, 1) := by decide +kernel
theorem dL_law_223 : decode cL_law 223 = .ok (.aload_n 0, 1) := by decide +kernel
theorem dL_law_224 : decode cL_law 224 = .ok (.iload_n 3, 1) := by decide +kernel
theorem dL_law_225 : decode cL_law 225 = .ok (.iconst 2, 1) := by decide +kernel
theorem dL_law_226 : decode cL_law 226 = .ok (.iadd, 1) := by decide +kernel
theorem dL_law_227 : decode cL_law 227 = .ok (.iaload, 1) := by decide +kernel
theorem dL_law_228 : decode cL_law 228 = .ok (.invokevirtual 18, 3) := by decide +kernel
theorem dL_law_231 : decode cL_law 231 = .ok (.aload_n 2, 1) := by decide +kernel
theorem dL_law_232 : decode cL_law 232 = .ok (.aload_n 0, 1) := by decide +kernel
theorem dL_law_233 : decode cL_law 233 = .ok (.iload_n 3, 1) := by decide +kernel
theorem dL_law_234 : decode cL_law 234 = .ok (.iconst 1, 1) := by decide +kernel
theorem dL_law_235 : decode cL_law 235 = .ok (.iadd, 1) := by decide +kernel
theorem dL_law_236 : decode cL_law 236 = .ok (.iaload, 1) := by decide +kernel
theorem dL_law_237 : decode cL_law 237 = .ok (.aload_n 0, 1) := by decide +kernel
theorem dL_law_238 : decode cL_law 238 = .ok (.iload_n 3, 1) := by decide +kernel
theorem dL_law_239 : decode cL_law 239 = .ok (.iconst 2, 1) := by decide +kernel
theorem dL_law_240 : decode cL_law 240 = .ok (.iadd, 1) := by decide +kernel
theorem dL_law_241 : decode cL_law 241 = .ok (.iaload, 1) := by decide +kernel
theorem dL_law_242 : decode cL_law 242 = .ok (.invokevirtual 21, 3) := by decide +kernel
theorem dL_law_245 : decode cL_law 245 = .ok (.if_icmp .eq 975, 3) := by decide +kernel
theorem dL_law_248 : decode cL_law 248 = .ok (.iconst 0, 1) := by decide +kernel
theorem dL_law_249 : decode cL_law 249 = .ok (.ireturn, 1) := by decide +kernel
theorem dL_law_250 : decode cL_law 250 = .ok (.aload_n 1, 1) := by decide +kernel
theorem dL_law_251 : decode cL_law 251 = .ok (.aload_n 0, 1) := by decide +kernel
theorem dL_law_252 : decode cL_law 252 = .ok (.iload_n 3, 1) := by decide +kernel
theorem dL_law_253 : decode cL_law 253 = .ok (.iconst 1, 1) := by decide +kernel
theorem dL_law_254 : decode cL_law 254 = .ok (.iadd, 1) := by decide +kernel
theorem dL_law_255 : decode cL_law 255 = .ok (.iaload, 1) := by decide +kernel
theorem dL_law_256 : decode cL_law 256 = .ok (.aload_n 0, 1) := by decide +kernel
theorem dL_law_257 : decode cL_law 257 = .ok (.iload_n 3, 1) := by decide +kernel
theorem dL_law_258 : decode cL_law 258 = .ok (.iconst 2, 1) := by decide +kernel
theorem dL_law_259 : decode cL_law 259 = .ok (.iadd, 1) := by decide +kernel
theorem dL_law_260 : decode cL_law 260 = .ok (.iaload, 1) := by decide +kernel
theorem dL_law_261 : decode cL_law 261 = .ok (.ifCond .eq 7, 3) := by decide +kernel
theorem dL_law_264 : decode cL_law 264 = .ok (.iconst 1, 1) := by decide +kernel
theorem dL_law_265 : decode cL_law 265 = .ok (.goto 4, 3) := by decide +kernel
theorem dL_law_268 : decode cL_law 268 = .ok (.iconst 0, 1) := by decide +kernel
theorem dL_law_269 : decode cL_law 269 = .ok (.invokevirtual 22, 3) := by decide +kernel
theorem dL_law_272 : decode cL_law 272 = .ok (.aload_n 2, 1) := by decide +kernel
theorem dL_law_273 : decode cL_law 273 = .ok (.aload_n 0, 1) := by decide +kernel
theorem dL_law_274 : decode cL_law 274 = .ok (.iload_n 3, 1) := by decide +kernel
theorem dL_law_275 : decode cL_law 275 = .ok (.iconst 1, 1) := by decide +kernel
theorem dL_law_276 : decode cL_law 276 = .ok (.iadd, 1) := by decide +kernel
theorem dL_law_277 : decode cL_law 277 = .ok (.iaload, 1) := by decide +kernel
theorem dL_law_278 : decode cL_law 278 = .ok (.aload_n 0, 1) := by decide +kernel
theorem dL_law_279 : decode cL_law 279 = .ok (.iload_n 3, 1) := by decide +kernel
theorem dL_law_280 : decode cL_law 280 = .ok (.iconst 2, 1) := by decide +kernel
theorem dL_law_281 : decode cL_law 281 = .ok (.iadd, 1) := by decide +kernel
theorem dL_law_282 : decode cL_law 282 = .ok (.iaload, 1) := by decide +kernel
theorem dL_law_283 : decode cL_law 283 = .ok (.ifCond .eq 7, 3) := by decide +kernel
theorem dL_law_286 : decode cL_law 286 = .ok (.iconst 1, 1) := by decide +kernel
theorem dL_law_287 : decode cL_law 287 = .ok (.goto 4, 3) := by decide +kernel
theorem dL_law_290 : decode cL_law 290 = .ok (.iconst 0, 1) := by decide +kernel
theorem dL_law_291 : decode cL_law 291 = .ok (.invokevirtual 26, 3) := by decide +kernel
theorem dL_law_294 : decode cL_law 294 = .ok (.if_icmp .eq 926, 3) := by decide +kernel
theorem dL_law_297 : decode cL_law 297 = .ok (.iconst 0, 1) := by decide +kernel
theorem dL_law_298 : decode cL_law 298 = .ok (.ireturn, 1) := by decide +kernel
theorem dL_law_299 : decode cL_law 299 = .ok (.aload_n 1, 1) := by decide +kernel
theorem dL_law_300 : decode cL_law 300 = .ok (.aload_n 0, 1) := by decide +kernel
theorem dL_law_301 : decode cL_law 301 = .ok (.iload_n 3, 1) := by decide +kernel
theorem dL_law_302 : decode cL_law 302 = .ok (.iconst 1, 1) := by decide +kernel
theorem dL_law_303 : decode cL_law 303 = .ok (.iadd, 1) := by decide +kernel
theorem dL_law_304 : decode cL_law 304 = .ok (.iaload, 1) := by decide +kernel
theorem dL_law_305 : decode cL_law 305 = .ok (.aload_n 0, 1) := by decide +kernel
theorem dL_law_306 : decode cL_law 306 = .ok (.iload_n 3, 1) := by decide +kernel
theorem dL_law_307 : decode cL_law 307 = .ok (.iconst 2, 1) := by decide +kernel
theorem dL_law_308 : decode cL_law 308 = .ok (.iadd, 1) := by decide +kernel
theorem dL_law_309 : decode cL_law 309 = .ok (.iaload, 1) := by decide +kernel
theorem dL_law_310 : decode cL_law 310 = .ok (.invokevirtual 27, 3) := by decide +kernel
theorem dL_law_313 : decode cL_law 313 = .ok (.aload_n 2, 1) := by decide +kernel
theorem dL_law_314 : decode cL_law 314 = .ok (.aload_n 0, 1) := by decide +kernel
theorem dL_law_315 : decode cL_law 315 = .ok (.iload_n 3, 1) := by decide +kernel
theorem dL_law_316 : decode cL_law 316 = .ok (.iconst 1, 1) := by decide +kernel
theorem dL_law_317 : decode cL_law 317 = .ok (.iadd, 1) := by decide +kernel
theorem dL_law_318 : decode cL_law 318 = .ok (.iaload, 1) := by decide +kernel
theorem dL_law_319 : decode cL_law 319 = .ok (.aload_n 0, 1) := by decide +kernel
theorem dL_law_320 : decode cL_law 320 = .ok (.iload_n 3, 1) := by decide +kernel
theorem dL_law_321 : decode cL_law 321 = .ok (.iconst 2, 1) := by decide +kernel
theorem dL_law_322 : decode cL_law 322 = .ok (.iadd, 1) := by decide +kernel
theorem dL_law_323 : decode cL_law 323 = .ok (.iaload, 1) := by decide +kernel
theorem dL_law_324 : decode cL_law 324 = .ok (.invokevirtual 30, 3) := by decide +kernel
theorem dL_law_327 : decode cL_law 327 = .ok (.if_icmp .eq 893, 3) := by decide +kernel
theorem dL_law_330 : decode cL_law 330 = .ok (.iconst 0, 1) := by decide +kernel
theorem dL_law_331 : decode cL_law 331 = .ok (.ireturn, 1) := by decide +kernel
theorem dL_law_332 : decode cL_law 332 = .ok (.aload_n 1, 1) := by decide +kernel
theorem dL_law_333 : decode cL_law 333 = .ok (.aload_n 0, 1) := by decide +kernel
theorem dL_law_334 : decode cL_law 334 = .ok (.iload_n 3, 1) := by decide +kernel
theorem dL_law_335 : decode cL_law 335 = .ok (.iconst 1, 1) := by decide +kernel
theorem dL_law_336 : decode cL_law 336 = .ok (.iadd, 1) := by decide +kernel
theorem dL_law_337 : decode cL_law 337 = .ok (.iaload, 1) := by decide +kernel
theorem dL_law_338 : decode cL_law 338 = .ok (.invokevirtual 31, 3) := by decide +kernel
theorem dL_law_341 : decode cL_law 341 = .ok (.aload_n 2, 1) := by decide +kernel
theorem dL_law_342 : decode cL_law 342 = .ok (.aload_n 0, 1) := by decide +kernel
theorem dL_law_343 : decode cL_law 343 = .ok (.iload_n 3, 1) := by decide +kernel
theorem dL_law_344 : decode cL_law 344 = .ok (.iconst 1, 1) := by decide +kernel
theorem dL_law_345 : decode cL_law 345 = .ok (.iadd, 1) := by decide +kernel
theorem dL_law_346 : decode cL_law 346 = .ok (.iaload, 1) := by decide +kernel
theorem dL_law_347 : decode cL_law 347 = .ok (.invokevirtual 35, 3) := by decide +kernel
theorem dL_law_350 : decode cL_law 350 = .ok (.if_icmp .eq 870, 3) := by decide +kernel
theorem dL_law_353 : decode cL_law 353 = .ok (.iconst 0, 1) := by decide +kernel
theorem dL_law_354 : decode cL_law 354 = .ok (.ireturn, 1) := by decide +kernel
theorem dL_law_355 : decode cL_law 355 = .ok (.aload_n 1, 1) := by decide +kernel
theorem dL_law_356 : decode cL_law 356 = .ok (.aload_n 0, 1) := by decide +kernel
theorem dL_law_357 : decode cL_law 357 = .ok (.iload_n 3, 1) := by decide +kernel
theorem dL_law_358 : decode cL_law 358 = .ok (.iconst 1, 1) := by decide +kernel
theorem dL_law_359 : decode cL_law 359 = .ok (.iadd, 1) := by decide +kernel
theorem dL_law_360 : decode cL_law 360 = .ok (.iaload, 1) := by decide +kernel
theorem dL_law_361 : decode cL_law 361 = .ok (.aload_n 0, 1) := by decide +kernel
theorem dL_law_362 : decode cL_law 362 = .ok (.iload_n 3, 1) := by decide +kernel
theorem dL_law_363 : decode cL_law 363 = .ok (.iconst 2, 1) := by decide +kernel
theorem dL_law_364 : decode cL_law 364 = .ok (.iadd, 1) := by decide +kernel
theorem dL_law_365 : decode cL_law 365 = .ok (.iaload, 1) := by decide +kernel
theorem dL_law_366 : decode cL_law 366 = .ok (.invokevirtual 36, 3) := by decide +kernel
theorem dL_law_369 : decode cL_law 369 = .ok (.aload_n 2, 1) := by decide +kernel
theorem dL_law_370 : decode cL_law 370 = .ok (.aload_n 0, 1) := by decide +kernel
theorem dL_law_371 : decode cL_law 371 = .ok (.iload_n 3, 1) := by decide +kernel
theorem dL_law_372 : decode cL_law 372 = .ok (.iconst 1, 1) := by decide +kernel
theorem dL_law_373 : decode cL_law 373 = .ok (.iadd, 1) := by decide +kernel
theorem dL_law_374 : decode cL_law 374 = .ok (.iaload, 1) := by decide +kernel
theorem dL_law_375 : decode cL_law 375 = .ok (.aload_n 0, 1) := by decide +kernel
theorem dL_law_376 : decode cL_law 376 = .ok (.iload_n 3, 1) := by decide +kernel
theorem dL_law_377 : decode cL_law 377 = .ok (.iconst 2, 1) := by decide +kernel
theorem dL_law_378 : decode cL_law 378 = .ok (.iadd, 1) := by decide +kernel
theorem dL_law_379 : decode cL_law 379 = .ok (.iaload, 1) := by decide +kernel
theorem dL_law_380 : decode cL_law 380 = .ok (.invokevirtual 39, 3) := by decide +kernel
theorem dL_law_383 : decode cL_law 383 = .ok (.if_icmp .eq 837, 3) := by decide +kernel
theorem dL_law_386 : decode cL_law 386 = .ok (.iconst 0, 1) := by decide +kernel
theorem dL_law_387 : decode cL_law 387 = .ok (.ireturn, 1) := by decide +kernel
theorem dL_law_388 : decode cL_law 388 = .ok (.aload_n 1, 1) := by decide +kernel
theorem dL_law_389 : decode cL_law 389 = .ok (.aload_n 0, 1) := by decide +kernel
theorem dL_law_390 : decode cL_law 390 = .ok (.iload_n 3, 1) := by decide +kernel
theorem dL_law_391 : decode cL_law 391 = .ok (.iconst 1, 1) := by decide +kernel
theorem dL_law_392 : decode cL_law 392 = .ok (.iadd, 1) := by decide +kernel
theorem dL_law_393 : decode cL_law 393 = .ok (.iaload, 1) := by decide +kernel
theorem dL_law_394 : decode cL_law 394 = .ok (.aload_n 0, 1) := by decide +kernel
theorem dL_law_395 : decode cL_law 395 = .ok (.iload_n 3, 1) := by decide +kernel
theorem dL_law_396 : decode cL_law 396 = .ok (.iconst 2, 1) := by decide +kernel
theorem dL_law_397 : decode cL_law 397 = .ok (.iadd, 1) := by decide +kernel
theorem dL_law_398 : decode cL_law 398 = .ok (.iaload, 1) := by decide +kernel
theorem dL_law_399 : decode cL_law 399 = .ok (.invokevirtual 40, 3) := by decide +kernel
theorem dL_law_402 : decode cL_law 402 = .ok (.aload_n 2, 1) := by decide +kernel
theorem dL_law_403 : decode cL_law 403 = .ok (.aload_n 0, 1) := by decide +kernel
theorem dL_law_404 : decode cL_law 404 = .ok (.iload_n 3, 1) := by decide +kernel
theorem dL_law_405 : decode cL_law 405 = .ok (.iconst 1, 1) := by decide +kernel
theorem dL_law_406 : decode cL_law 406 = .ok (.iadd, 1) := by decide +kernel
theorem dL_law_407 : decode cL_law 407 = .ok (.iaload, 1) := by decide +kernel
theorem dL_law_408 : decode cL_law 408 = .ok (.aload_n 0, 1) := by decide +kernel
theorem dL_law_409 : decode cL_law 409 = .ok (.iload_n 3, 1) := by decide +kernel
theorem dL_law_410 : decode cL_law 410 = .ok (.iconst 2, 1) := by decide +kernel
theorem dL_law_411 : decode cL_law 411 = .ok (.iadd, 1) := by decide +kernel
theorem dL_law_412 : decode cL_law 412 = .ok (.iaload, 1) := by decide +kernel
theorem dL_law_413 : decode cL_law 413 = .ok (.invokevirtual 43, 3) := by decide +kernel
theorem dL_law_416 : decode cL_law 416 = .ok (.if_icmp .eq 804, 3) := by decide +kernel
theorem dL_law_419 : decode cL_law 419 = .ok (.iconst 0, 1) := by decide +kernel
theorem dL_law_420 : decode cL_law 420 = .ok (.ireturn, 1) := by decide +kernel
theorem dL_law_421 : decode cL_law 421 = .ok (.aload_n 1, 1) := by decide +kernel
theorem dL_law_422 : decode cL_law 422 = .ok (.aload_n 0, 1) := by decide +kernel
theorem dL_law_423 : decode cL_law 423 = .ok (.iload_n 3, 1) := by decide +kernel
theorem dL_law_424 : decode cL_law 424 = .ok (.iconst 1, 1) := by decide +kernel
theorem dL_law_425 : decode cL_law 425 = .ok (.iadd, 1) := by decide +kernel
theorem dL_law_426 : decode cL_law 426 = .ok (.iaload, 1) := by decide +kernel
theorem dL_law_427 : decode cL_law 427 = .ok (.invokevirtual 44, 3) := by decide +kernel
theorem dL_law_430 : decode cL_law 430 = .ok (.aload_n 2, 1) := by decide +kernel
theorem dL_law_431 : decode cL_law 431 = .ok (.aload_n 0, 1) := by decide +kernel
theorem dL_law_432 : decode cL_law 432 = .ok (.iload_n 3, 1) := by decide +kernel
theorem dL_law_433 : decode cL_law 433 = .ok (.iconst 1, 1) := by decide +kernel
theorem dL_law_434 : decode cL_law 434 = .ok (.iadd, 1) := by decide +kernel
theorem dL_law_435 : decode cL_law 435 = .ok (.iaload, 1) := by decide +kernel
theorem dL_law_436 : decode cL_law 436 = .ok (.invokevirtual 47, 3) := by decide +kernel
theorem dL_law_439 : decode cL_law 439 = .ok (.if_icmp .eq 781, 3) := by decide +kernel
theorem dL_law_442 : decode cL_law 442 = .ok (.iconst 0, 1) := by decide +kernel
theorem dL_law_443 : decode cL_law 443 = .ok (.ireturn, 1) := by decide +kernel
theorem dL_law_444 : decode cL_law 444 = .ok (.aload_n 1, 1) := by decide +kernel
theorem dL_law_445 : decode cL_law 445 = .ok (.invokevirtual 48, 3) := by decide +kernel
theorem dL_law_448 : decode cL_law 448 = .ok (.aload_n 2, 1) := by decide +kernel
theorem dL_law_449 : decode cL_law 449 = .ok (.invokevirtual 52, 3) := by decide +kernel
theorem dL_law_452 : decode cL_law 452 = .ok (.if_icmp .eq 768, 3) := by decide +kernel
theorem dL_law_455 : decode cL_law 455 = .ok (.iconst 0, 1) := by decide +kernel
theorem dL_law_456 : decode cL_law 456 = .ok (.ireturn, 1) := by decide +kernel
theorem dL_law_457 : decode cL_law 457 = .ok (.aload_n 1, 1) := by decide +kernel
theorem dL_law_458 : decode cL_law 458 = .ok (.aload_n 0, 1) := by decide +kernel
theorem dL_law_459 : decode cL_law 459 = .ok (.iload_n 3, 1) := by decide +kernel
theorem dL_law_460 : decode cL_law 460 = .ok (.iconst 1, 1) := by decide +kernel
theorem dL_law_461 : decode cL_law 461 = .ok (.iadd, 1) := by decide +kernel
theorem dL_law_462 : decode cL_law 462 = .ok (.iaload, 1) := by decide +kernel
theorem dL_law_463 : decode cL_law 463 = .ok (.aload_n 0, 1) := by decide +kernel
theorem dL_law_464 : decode cL_law 464 = .ok (.iload_n 3, 1) := by decide +kernel
theorem dL_law_465 : decode cL_law 465 = .ok (.iconst 2, 1) := by decide +kernel
theorem dL_law_466 : decode cL_law 466 = .ok (.iadd, 1) := by decide +kernel
theorem dL_law_467 : decode cL_law 467 = .ok (.iaload, 1) := by decide +kernel
theorem dL_law_468 : decode cL_law 468 = .ok (.ifCond .eq 7, 3) := by decide +kernel
theorem dL_law_471 : decode cL_law 471 = .ok (.iconst 1, 1) := by decide +kernel
theorem dL_law_472 : decode cL_law 472 = .ok (.goto 4, 3) := by decide +kernel
theorem dL_law_475 : decode cL_law 475 = .ok (.iconst 0, 1) := by decide +kernel
theorem dL_law_476 : decode cL_law 476 = .ok (.invokevirtual 53, 3) := by decide +kernel
theorem dL_law_479 : decode cL_law 479 = .ok (.aload_n 2, 1) := by decide +kernel
theorem dL_law_480 : decode cL_law 480 = .ok (.aload_n 0, 1) := by decide +kernel
theorem dL_law_481 : decode cL_law 481 = .ok (.iload_n 3, 1) := by decide +kernel
theorem dL_law_482 : decode cL_law 482 = .ok (.iconst 1, 1) := by decide +kernel
theorem dL_law_483 : decode cL_law 483 = .ok (.iadd, 1) := by decide +kernel
theorem dL_law_484 : decode cL_law 484 = .ok (.iaload, 1) := by decide +kernel
theorem dL_law_485 : decode cL_law 485 = .ok (.aload_n 0, 1) := by decide +kernel
theorem dL_law_486 : decode cL_law 486 = .ok (.iload_n 3, 1) := by decide +kernel
theorem dL_law_487 : decode cL_law 487 = .ok (.iconst 2, 1) := by decide +kernel
theorem dL_law_488 : decode cL_law 488 = .ok (.iadd, 1) := by decide +kernel
theorem dL_law_489 : decode cL_law 489 = .ok (.iaload, 1) := by decide +kernel
theorem dL_law_490 : decode cL_law 490 = .ok (.ifCond .eq 7, 3) := by decide +kernel
theorem dL_law_493 : decode cL_law 493 = .ok (.iconst 1, 1) := by decide +kernel
theorem dL_law_494 : decode cL_law 494 = .ok (.goto 4, 3) := by decide +kernel
theorem dL_law_497 : decode cL_law 497 = .ok (.iconst 0, 1) := by decide +kernel
theorem dL_law_498 : decode cL_law 498 = .ok (.invokevirtual 56, 3) := by decide +kernel
theorem dL_law_501 : decode cL_law 501 = .ok (.if_icmp .eq 719, 3) := by decide +kernel
theorem dL_law_504 : decode cL_law 504 = .ok (.iconst 0, 1) := by decide +kernel
theorem dL_law_505 : decode cL_law 505 = .ok (.ireturn, 1) := by decide +kernel
theorem dL_law_506 : decode cL_law 506 = .ok (.aload_n 1, 1) := by decide +kernel
theorem dL_law_507 : decode cL_law 507 = .ok (.aload_n 0, 1) := by decide +kernel
theorem dL_law_508 : decode cL_law 508 = .ok (.iload_n 3, 1) := by decide +kernel
theorem dL_law_509 : decode cL_law 509 = .ok (.iconst 1, 1) := by decide +kernel
theorem dL_law_510 : decode cL_law 510 = .ok (.iadd, 1) := by decide +kernel
theorem dL_law_511 : decode cL_law 511 = .ok (.iaload, 1) := by decide +kernel
theorem dL_law_512 : decode cL_law 512 = .ok (.aload_n 0, 1) := by decide +kernel
theorem dL_law_513 : decode cL_law 513 = .ok (.iload_n 3, 1) := by decide +kernel
theorem dL_law_514 : decode cL_law 514 = .ok (.iconst 2, 1) := by decide +kernel
theorem dL_law_515 : decode cL_law 515 = .ok (.iadd, 1) := by decide +kernel
theorem dL_law_516 : decode cL_law 516 = .ok (.iaload, 1) := by decide +kernel
theorem dL_law_517 : decode cL_law 517 = .ok (.invokevirtual 57, 3) := by decide +kernel
theorem dL_law_520 : decode cL_law 520 = .ok (.aload_n 2, 1) := by decide +kernel
theorem dL_law_521 : decode cL_law 521 = .ok (.aload_n 0, 1) := by decide +kernel
theorem dL_law_522 : decode cL_law 522 = .ok (.iload_n 3, 1) := by decide +kernel
theorem dL_law_523 : decode cL_law 523 = .ok (.iconst 1, 1) := by decide +kernel
theorem dL_law_524 : decode cL_law 524 = .ok (.iadd, 1) := by decide +kernel
theorem dL_law_525 : decode cL_law 525 = .ok (.iaload, 1) := by decide +kernel
theorem dL_law_526 : decode cL_law 526 = .ok (.aload_n 0, 1) := by decide +kernel
theorem dL_law_527 : decode cL_law 527 = .ok (.iload_n 3, 1) := by decide +kernel
theorem dL_law_528 : decode cL_law 528 = .ok (.iconst 2, 1) := by decide +kernel
theorem dL_law_529 : decode cL_law 529 = .ok (.iadd, 1) := by decide +kernel
theorem dL_law_530 : decode cL_law 530 = .ok (.iaload, 1) := by decide +kernel
theorem dL_law_531 : decode cL_law 531 = .ok (.invokevirtual 60, 3) := by decide +kernel
theorem dL_law_534 : decode cL_law 534 = .ok (.if_icmp .eq 686, 3) := by decide +kernel
theorem dL_law_537 : decode cL_law 537 = .ok (.iconst 0, 1) := by decide +kernel
theorem dL_law_538 : decode cL_law 538 = .ok (.ireturn, 1) := by decide +kernel
theorem dL_law_539 : decode cL_law 539 = .ok (.aload_n 1, 1) := by decide +kernel
theorem dL_law_540 : decode cL_law 540 = .ok (.aload_n 0, 1) := by decide +kernel
theorem dL_law_541 : decode cL_law 541 = .ok (.iload_n 3, 1) := by decide +kernel
theorem dL_law_542 : decode cL_law 542 = .ok (.iconst 1, 1) := by decide +kernel
theorem dL_law_543 : decode cL_law 543 = .ok (.iadd, 1) := by decide +kernel
theorem dL_law_544 : decode cL_law 544 = .ok (.iaload, 1) := by decide +kernel
theorem dL_law_545 : decode cL_law 545 = .ok (.invokevirtual 61, 3) := by decide +kernel
theorem dL_law_548 : decode cL_law 548 = .ok (.aload_n 2, 1) := by decide +kernel
theorem dL_law_549 : decode cL_law 549 = .ok (.aload_n 0, 1) := by decide +kernel
theorem dL_law_550 : decode cL_law 550 = .ok (.iload_n 3, 1) := by decide +kernel
theorem dL_law_551 : decode cL_law 551 = .ok (.iconst 1, 1) := by decide +kernel
theorem dL_law_552 : decode cL_law 552 = .ok (.iadd, 1) := by decide +kernel
theorem dL_law_553 : decode cL_law 553 = .ok (.iaload, 1) := by decide +kernel
theorem dL_law_554 : decode cL_law 554 = .ok (.invokevirtual 64, 3) := by decide +kernel
theorem dL_law_557 : decode cL_law 557 = .ok (.if_icmp .eq 663, 3) := by decide +kernel
theorem dL_law_560 : decode cL_law 560 = .ok (.iconst 0, 1) := by decide +kernel
theorem dL_law_561 : decode cL_law 561 = .ok (.ireturn, 1) := by decide +kernel
theorem dL_law_562 : decode cL_law 562 = .ok (.aload_n 1, 1) := by decide +kernel
theorem dL_law_563 : decode cL_law 563 = .ok (.aload_n 0, 1) := by decide +kernel
theorem dL_law_564 : decode cL_law 564 = .ok (.iload_n 3, 1) := by decide +kernel
theorem dL_law_565 : decode cL_law 565 = .ok (.iconst 1, 1) := by decide +kernel
theorem dL_law_566 : decode cL_law 566 = .ok (.iadd, 1) := by decide +kernel
theorem dL_law_567 : decode cL_law 567 = .ok (.iaload, 1) := by decide +kernel
theorem dL_law_568 : decode cL_law 568 = .ok (.aload_n 0, 1) := by decide +kernel
theorem dL_law_569 : decode cL_law 569 = .ok (.iload_n 3, 1) := by decide +kernel
theorem dL_law_570 : decode cL_law 570 = .ok (.iconst 2, 1) := by decide +kernel
theorem dL_law_571 : decode cL_law 571 = .ok (.iadd, 1) := by decide +kernel
theorem dL_law_572 : decode cL_law 572 = .ok (.iaload, 1) := by decide +kernel
theorem dL_law_573 : decode cL_law 573 = .ok (.ifCond .eq 7, 3) := by decide +kernel
theorem dL_law_576 : decode cL_law 576 = .ok (.iconst 1, 1) := by decide +kernel
theorem dL_law_577 : decode cL_law 577 = .ok (.goto 4, 3) := by decide +kernel
theorem dL_law_580 : decode cL_law 580 = .ok (.iconst 0, 1) := by decide +kernel
theorem dL_law_581 : decode cL_law 581 = .ok (.invokevirtual 65, 3) := by decide +kernel
theorem dL_law_584 : decode cL_law 584 = .ok (.aload_n 2, 1) := by decide +kernel
theorem dL_law_585 : decode cL_law 585 = .ok (.aload_n 0, 1) := by decide +kernel
theorem dL_law_586 : decode cL_law 586 = .ok (.iload_n 3, 1) := by decide +kernel
theorem dL_law_587 : decode cL_law 587 = .ok (.iconst 1, 1) := by decide +kernel
theorem dL_law_588 : decode cL_law 588 = .ok (.iadd, 1) := by decide +kernel
theorem dL_law_589 : decode cL_law 589 = .ok (.iaload, 1) := by decide +kernel
theorem dL_law_590 : decode cL_law 590 = .ok (.aload_n 0, 1) := by decide +kernel
theorem dL_law_591 : decode cL_law 591 = .ok (.iload_n 3, 1) := by decide +kernel
theorem dL_law_592 : decode cL_law 592 = .ok (.iconst 2, 1) := by decide +kernel
theorem dL_law_593 : decode cL_law 593 = .ok (.iadd, 1) := by decide +kernel
theorem dL_law_594 : decode cL_law 594 = .ok (.iaload, 1) := by decide +kernel
theorem dL_law_595 : decode cL_law 595 = .ok (.ifCond .eq 7, 3) := by decide +kernel
theorem dL_law_598 : decode cL_law 598 = .ok (.iconst 1, 1) := by decide +kernel
theorem dL_law_599 : decode cL_law 599 = .ok (.goto 4, 3) := by decide +kernel
theorem dL_law_602 : decode cL_law 602 = .ok (.iconst 0, 1) := by decide +kernel
theorem dL_law_603 : decode cL_law 603 = .ok (.invokevirtual 68, 3) := by decide +kernel
theorem dL_law_606 : decode cL_law 606 = .ok (.if_icmp .eq 614, 3) := by decide +kernel
theorem dL_law_609 : decode cL_law 609 = .ok (.iconst 0, 1) := by decide +kernel
theorem dL_law_610 : decode cL_law 610 = .ok (.ireturn, 1) := by decide +kernel
theorem dL_law_611 : decode cL_law 611 = .ok (.aload_n 1, 1) := by decide +kernel
theorem dL_law_612 : decode cL_law 612 = .ok (.invokevirtual 69, 3) := by decide +kernel
theorem dL_law_615 : decode cL_law 615 = .ok (.aload_n 2, 1) := by decide +kernel
theorem dL_law_616 : decode cL_law 616 = .ok (.invokevirtual 72, 3) := by decide +kernel
theorem dL_law_619 : decode cL_law 619 = .ok (.if_icmp .eq 601, 3) := by decide +kernel
theorem dL_law_622 : decode cL_law 622 = .ok (.iconst 0, 1) := by decide +kernel
theorem dL_law_623 : decode cL_law 623 = .ok (.ireturn, 1) := by decide +kernel
theorem dL_law_624 : decode cL_law 624 = .ok (.aload_n 1, 1) := by decide +kernel
theorem dL_law_625 : decode cL_law 625 = .ok (.invokevirtual 73, 3) := by decide +kernel
theorem dL_law_628 : decode cL_law 628 = .ok (.aload_n 2, 1) := by decide +kernel
theorem dL_law_629 : decode cL_law 629 = .ok (.invokevirtual 76, 3) := by decide +kernel
theorem dL_law_632 : decode cL_law 632 = .ok (.if_icmp .eq 588, 3) := by decide +kernel
theorem dL_law_635 : decode cL_law 635 = .ok (.iconst 0, 1) := by decide +kernel
theorem dL_law_636 : decode cL_law 636 = .ok (.ireturn, 1) := by decide +kernel
theorem dL_law_637 : decode cL_law 637 = .ok (.aload_n 1, 1) := by decide +kernel
theorem dL_law_638 : decode cL_law 638 = .ok (.aload_n 0, 1) := by decide +kernel
theorem dL_law_639 : decode cL_law 639 = .ok (.iload_n 3, 1) := by decide +kernel
theorem dL_law_640 : decode cL_law 640 = .ok (.iconst 1, 1) := by decide +kernel
theorem dL_law_641 : decode cL_law 641 = .ok (.iadd, 1) := by decide +kernel
theorem dL_law_642 : decode cL_law 642 = .ok (.iaload, 1) := by decide +kernel
theorem dL_law_643 : decode cL_law 643 = .ok (.invokevirtual 77, 3) := by decide +kernel
theorem dL_law_646 : decode cL_law 646 = .ok (.aload_n 2, 1) := by decide +kernel
theorem dL_law_647 : decode cL_law 647 = .ok (.aload_n 0, 1) := by decide +kernel
theorem dL_law_648 : decode cL_law 648 = .ok (.iload_n 3, 1) := by decide +kernel
theorem dL_law_649 : decode cL_law 649 = .ok (.iconst 1, 1) := by decide +kernel
theorem dL_law_650 : decode cL_law 650 = .ok (.iadd, 1) := by decide +kernel
theorem dL_law_651 : decode cL_law 651 = .ok (.iaload, 1) := by decide +kernel
theorem dL_law_652 : decode cL_law 652 = .ok (.invokevirtual 80, 3) := by decide +kernel
theorem dL_law_655 : decode cL_law 655 = .ok (.if_icmp .eq 565, 3) := by decide +kernel
theorem dL_law_658 : decode cL_law 658 = .ok (.iconst 0, 1) := by decide +kernel
theorem dL_law_659 : decode cL_law 659 = .ok (.ireturn, 1) := by decide +kernel
theorem dL_law_660 : decode cL_law 660 = .ok (.aload_n 1, 1) := by decide +kernel
theorem dL_law_661 : decode cL_law 661 = .ok (.invokevirtual 81, 3) := by decide +kernel
theorem dL_law_664 : decode cL_law 664 = .ok (.aload_n 2, 1) := by decide +kernel
theorem dL_law_665 : decode cL_law 665 = .ok (.invokevirtual 84, 3) := by decide +kernel
theorem dL_law_668 : decode cL_law 668 = .ok (.if_icmp .eq 552, 3) := by decide +kernel
theorem dL_law_671 : decode cL_law 671 = .ok (.iconst 0, 1) := by decide +kernel
theorem dL_law_672 : decode cL_law 672 = .ok (.ireturn, 1) := by decide +kernel
theorem dL_law_673 : decode cL_law 673 = .ok (.aload_n 1, 1) := by decide +kernel
theorem dL_law_674 : decode cL_law 674 = .ok (.aload_n 0, 1) := by decide +kernel
theorem dL_law_675 : decode cL_law 675 = .ok (.iload_n 3, 1) := by decide +kernel
theorem dL_law_676 : decode cL_law 676 = .ok (.iconst 1, 1) := by decide +kernel
theorem dL_law_677 : decode cL_law 677 = .ok (.iadd, 1) := by decide +kernel
theorem dL_law_678 : decode cL_law 678 = .ok (.iaload, 1) := by decide +kernel
theorem dL_law_679 : decode cL_law 679 = .ok (.invokevirtual 85, 3) := by decide +kernel
theorem dL_law_682 : decode cL_law 682 = .ok (.aload_n 2, 1) := by decide +kernel
theorem dL_law_683 : decode cL_law 683 = .ok (.aload_n 0, 1) := by decide +kernel
theorem dL_law_684 : decode cL_law 684 = .ok (.iload_n 3, 1) := by decide +kernel
theorem dL_law_685 : decode cL_law 685 = .ok (.iconst 1, 1) := by decide +kernel
theorem dL_law_686 : decode cL_law 686 = .ok (.iadd, 1) := by decide +kernel
theorem dL_law_687 : decode cL_law 687 = .ok (.iaload, 1) := by decide +kernel
theorem dL_law_688 : decode cL_law 688 = .ok (.invokevirtual 88, 3) := by decide +kernel
theorem dL_law_691 : decode cL_law 691 = .ok (.if_icmp .eq 529, 3) := by decide +kernel
theorem dL_law_694 : decode cL_law 694 = .ok (.iconst 0, 1) := by decide +kernel
theorem dL_law_695 : decode cL_law 695 = .ok (.ireturn, 1) := by decide +kernel
theorem dL_law_696 : decode cL_law 696 = .ok (.aload_n 1, 1) := by decide +kernel
theorem dL_law_697 : decode cL_law 697 = .ok (.aload_n 0, 1) := by decide +kernel
theorem dL_law_698 : decode cL_law 698 = .ok (.iload_n 3, 1) := by decide +kernel
theorem dL_law_699 : decode cL_law 699 = .ok (.iconst 1, 1) := by decide +kernel
theorem dL_law_700 : decode cL_law 700 = .ok (.iadd, 1) := by decide +kernel
theorem dL_law_701 : decode cL_law 701 = .ok (.iaload, 1) := by decide +kernel
theorem dL_law_702 : decode cL_law 702 = .ok (.aload_n 0, 1) := by decide +kernel
theorem dL_law_703 : decode cL_law 703 = .ok (.iload_n 3, 1) := by decide +kernel
theorem dL_law_704 : decode cL_law 704 = .ok (.iconst 2, 1) := by decide +kernel
theorem dL_law_705 : decode cL_law 705 = .ok (.iadd, 1) := by decide +kernel
theorem dL_law_706 : decode cL_law 706 = .ok (.iaload, 1) := by decide +kernel
theorem dL_law_707 : decode cL_law 707 = .ok (.invokevirtual 89, 3) := by decide +kernel
theorem dL_law_710 : decode cL_law 710 = .ok (.aload_n 2, 1) := by decide +kernel
theorem dL_law_711 : decode cL_law 711 = .ok (.aload_n 0, 1) := by decide +kernel
theorem dL_law_712 : decode cL_law 712 = .ok (.iload_n 3, 1) := by decide +kernel
theorem dL_law_713 : decode cL_law 713 = .ok (.iconst 1, 1) := by decide +kernel
theorem dL_law_714 : decode cL_law 714 = .ok (.iadd, 1) := by decide +kernel
theorem dL_law_715 : decode cL_law 715 = .ok (.iaload, 1) := by decide +kernel
theorem dL_law_716 : decode cL_law 716 = .ok (.aload_n 0, 1) := by decide +kernel
theorem dL_law_717 : decode cL_law 717 = .ok (.iload_n 3, 1) := by decide +kernel
theorem dL_law_718 : decode cL_law 718 = .ok (.iconst 2, 1) := by decide +kernel
theorem dL_law_719 : decode cL_law 719 = .ok (.iadd, 1) := by decide +kernel
theorem dL_law_720 : decode cL_law 720 = .ok (.iaload, 1) := by decide +kernel
theorem dL_law_721 : decode cL_law 721 = .ok (.invokevirtual 92, 3) := by decide +kernel
theorem dL_law_724 : decode cL_law 724 = .ok (.if_icmp .eq 496, 3) := by decide +kernel
theorem dL_law_727 : decode cL_law 727 = .ok (.iconst 0, 1) := by decide +kernel
theorem dL_law_728 : decode cL_law 728 = .ok (.ireturn, 1) := by decide +kernel
theorem dL_law_729 : decode cL_law 729 = .ok (.aload_n 1, 1) := by decide +kernel
theorem dL_law_730 : decode cL_law 730 = .ok (.invokevirtual 93, 3) := by decide +kernel
theorem dL_law_733 : decode cL_law 733 = .ok (.aload_n 2, 1) := by decide +kernel
theorem dL_law_734 : decode cL_law 734 = .ok (.invokevirtual 96, 3) := by decide +kernel
theorem dL_law_737 : decode cL_law 737 = .ok (.if_icmp .eq 483, 3) := by decide +kernel
theorem dL_law_740 : decode cL_law 740 = .ok (.iconst 0, 1) := by decide +kernel
theorem dL_law_741 : decode cL_law 741 = .ok (.ireturn, 1) := by decide +kernel
theorem dL_law_742 : decode cL_law 742 = .ok (.aload_n 1, 1) := by decide +kernel
theorem dL_law_743 : decode cL_law 743 = .ok (.aload_n 0, 1) := by decide +kernel
theorem dL_law_744 : decode cL_law 744 = .ok (.iload_n 3, 1) := by decide +kernel
theorem dL_law_745 : decode cL_law 745 = .ok (.iconst 1, 1) := by decide +kernel
theorem dL_law_746 : decode cL_law 746 = .ok (.iadd, 1) := by decide +kernel
theorem dL_law_747 : decode cL_law 747 = .ok (.iaload, 1) := by decide +kernel
theorem dL_law_748 : decode cL_law 748 = .ok (.aload_n 0, 1) := by decide +kernel
theorem dL_law_749 : decode cL_law 749 = .ok (.iload_n 3, 1) := by decide +kernel
theorem dL_law_750 : decode cL_law 750 = .ok (.iconst 2, 1) := by decide +kernel
theorem dL_law_751 : decode cL_law 751 = .ok (.iadd, 1) := by decide +kernel
theorem dL_law_752 : decode cL_law 752 = .ok (.iaload, 1) := by decide +kernel
theorem dL_law_753 : decode cL_law 753 = .ok (.invokevirtual 97, 3) := by decide +kernel
theorem dL_law_756 : decode cL_law 756 = .ok (.aload_n 2, 1) := by decide +kernel
theorem dL_law_757 : decode cL_law 757 = .ok (.aload_n 0, 1) := by decide +kernel
theorem dL_law_758 : decode cL_law 758 = .ok (.iload_n 3, 1) := by decide +kernel
theorem dL_law_759 : decode cL_law 759 = .ok (.iconst 1, 1) := by decide +kernel
theorem dL_law_760 : decode cL_law 760 = .ok (.iadd, 1) := by decide +kernel
theorem dL_law_761 : decode cL_law 761 = .ok (.iaload, 1) := by decide +kernel
theorem dL_law_762 : decode cL_law 762 = .ok (.aload_n 0, 1) := by decide +kernel
theorem dL_law_763 : decode cL_law 763 = .ok (.iload_n 3, 1) := by decide +kernel
theorem dL_law_764 : decode cL_law 764 = .ok (.iconst 2, 1) := by decide +kernel
theorem dL_law_765 : decode cL_law 765 = .ok (.iadd, 1) := by decide +kernel
theorem dL_law_766 : decode cL_law 766 = .ok (.iaload, 1) := by decide +kernel
theorem dL_law_767 : decode cL_law 767 = .ok (.invokevirtual 100, 3) := by decide +kernel
theorem dL_law_770 : decode cL_law 770 = .ok (.if_icmp .eq 450, 3) := by decide +kernel
theorem dL_law_773 : decode cL_law 773 = .ok (.iconst 0, 1) := by decide +kernel
theorem dL_law_774 : decode cL_law 774 = .ok (.ireturn, 1) := by decide +kernel
theorem dL_law_775 : decode cL_law 775 = .ok (.aload_n 1, 1) := by decide +kernel
theorem dL_law_776 : decode cL_law 776 = .ok (.aload_n 0, 1) := by decide +kernel
theorem dL_law_777 : decode cL_law 777 = .ok (.iload_n 3, 1) := by decide +kernel
theorem dL_law_778 : decode cL_law 778 = .ok (.iconst 1, 1) := by decide +kernel
theorem dL_law_779 : decode cL_law 779 = .ok (.iadd, 1) := by decide +kernel
theorem dL_law_780 : decode cL_law 780 = .ok (.iaload, 1) := by decide +kernel
theorem dL_law_781 : decode cL_law 781 = .ok (.invokevirtual 101, 3) := by decide +kernel
theorem dL_law_784 : decode cL_law 784 = .ok (.aload_n 2, 1) := by decide +kernel
theorem dL_law_785 : decode cL_law 785 = .ok (.aload_n 0, 1) := by decide +kernel
theorem dL_law_786 : decode cL_law 786 = .ok (.iload_n 3, 1) := by decide +kernel
theorem dL_law_787 : decode cL_law 787 = .ok (.iconst 1, 1) := by decide +kernel
theorem dL_law_788 : decode cL_law 788 = .ok (.iadd, 1) := by decide +kernel
theorem dL_law_789 : decode cL_law 789 = .ok (.iaload, 1) := by decide +kernel
theorem dL_law_790 : decode cL_law 790 = .ok (.invokevirtual 104, 3) := by decide +kernel
theorem dL_law_793 : decode cL_law 793 = .ok (.if_icmp .eq 427, 3) := by decide +kernel
theorem dL_law_796 : decode cL_law 796 = .ok (.iconst 0, 1) := by decide +kernel
theorem dL_law_797 : decode cL_law 797 = .ok (.ireturn, 1) := by decide +kernel
theorem dL_law_798 : decode cL_law 798 = .ok (.aload_n 1, 1) := by decide +kernel
theorem dL_law_799 : decode cL_law 799 = .ok (.aload_n 0, 1) := by decide +kernel
theorem dL_law_800 : decode cL_law 800 = .ok (.iload_n 3, 1) := by decide +kernel
theorem dL_law_801 : decode cL_law 801 = .ok (.iconst 1, 1) := by decide +kernel
theorem dL_law_802 : decode cL_law 802 = .ok (.iadd, 1) := by decide +kernel
theorem dL_law_803 : decode cL_law 803 = .ok (.iaload, 1) := by decide +kernel
theorem dL_law_804 : decode cL_law 804 = .ok (.invokevirtual 105, 3) := by decide +kernel
theorem dL_law_807 : decode cL_law 807 = .ok (.aload_n 2, 1) := by decide +kernel
theorem dL_law_808 : decode cL_law 808 = .ok (.aload_n 0, 1) := by decide +kernel
theorem dL_law_809 : decode cL_law 809 = .ok (.iload_n 3, 1) := by decide +kernel
theorem dL_law_810 : decode cL_law 810 = .ok (.iconst 1, 1) := by decide +kernel
theorem dL_law_811 : decode cL_law 811 = .ok (.iadd, 1) := by decide +kernel
theorem dL_law_812 : decode cL_law 812 = .ok (.iaload, 1) := by decide +kernel
theorem dL_law_813 : decode cL_law 813 = .ok (.invokevirtual 108, 3) := by decide +kernel
theorem dL_law_816 : decode cL_law 816 = .ok (.if_icmp .eq 404, 3) := by decide +kernel
theorem dL_law_819 : decode cL_law 819 = .ok (.iconst 0, 1) := by decide +kernel
theorem dL_law_820 : decode cL_law 820 = .ok (.ireturn, 1) := by decide +kernel
theorem dL_law_821 : decode cL_law 821 = .ok (.aload_n 1, 1) := by decide +kernel
theorem dL_law_822 : decode cL_law 822 = .ok (.aload_n 0, 1) := by decide +kernel
theorem dL_law_823 : decode cL_law 823 = .ok (.iload_n 3, 1) := by decide +kernel
theorem dL_law_824 : decode cL_law 824 = .ok (.iconst 1, 1) := by decide +kernel
theorem dL_law_825 : decode cL_law 825 = .ok (.iadd, 1) := by decide +kernel
theorem dL_law_826 : decode cL_law 826 = .ok (.iaload, 1) := by decide +kernel
theorem dL_law_827 : decode cL_law 827 = .ok (.aload_n 0, 1) := by decide +kernel
theorem dL_law_828 : decode cL_law 828 = .ok (.iload_n 3, 1) := by decide +kernel
theorem dL_law_829 : decode cL_law 829 = .ok (.iconst 2, 1) := by decide +kernel
theorem dL_law_830 : decode cL_law 830 = .ok (.iadd, 1) := by decide +kernel
theorem dL_law_831 : decode cL_law 831 = .ok (.iaload, 1) := by decide +kernel
theorem dL_law_832 : decode cL_law 832 = .ok (.aload_n 0, 1) := by decide +kernel
theorem dL_law_833 : decode cL_law 833 = .ok (.iload_n 3, 1) := by decide +kernel
theorem dL_law_834 : decode cL_law 834 = .ok (.iconst 3, 1) := by decide +kernel
theorem dL_law_835 : decode cL_law 835 = .ok (.iadd, 1) := by decide +kernel
theorem dL_law_836 : decode cL_law 836 = .ok (.iaload, 1) := by decide +kernel
theorem dL_law_837 : decode cL_law 837 = .ok (.aload_n 0, 1) := by decide +kernel
theorem dL_law_838 : decode cL_law 838 = .ok (.iload_n 3, 1) := by decide +kernel
theorem dL_law_839 : decode cL_law 839 = .ok (.iconst 4, 1) := by decide +kernel
theorem dL_law_840 : decode cL_law 840 = .ok (.iadd, 1) := by decide +kernel
theorem dL_law_841 : decode cL_law 841 = .ok (.iaload, 1) := by decide +kernel
theorem dL_law_842 : decode cL_law 842 = .ok (.invokevirtual 109, 3) := by decide +kernel
theorem dL_law_845 : decode cL_law 845 = .ok (.aload_n 2, 1) := by decide +kernel
theorem dL_law_846 : decode cL_law 846 = .ok (.aload_n 0, 1) := by decide +kernel
theorem dL_law_847 : decode cL_law 847 = .ok (.iload_n 3, 1) := by decide +kernel
theorem dL_law_848 : decode cL_law 848 = .ok (.iconst 1, 1) := by decide +kernel
theorem dL_law_849 : decode cL_law 849 = .ok (.iadd, 1) := by decide +kernel
theorem dL_law_850 : decode cL_law 850 = .ok (.iaload, 1) := by decide +kernel
theorem dL_law_851 : decode cL_law 851 = .ok (.aload_n 0, 1) := by decide +kernel
theorem dL_law_852 : decode cL_law 852 = .ok (.iload_n 3, 1) := by decide +kernel
theorem dL_law_853 : decode cL_law 853 = .ok (.iconst 2, 1) := by decide +kernel
theorem dL_law_854 : decode cL_law 854 = .ok (.iadd, 1) := by decide +kernel
theorem dL_law_855 : decode cL_law 855 = .ok (.iaload, 1) := by decide +kernel
theorem dL_law_856 : decode cL_law 856 = .ok (.aload_n 0, 1) := by decide +kernel
theorem dL_law_857 : decode cL_law 857 = .ok (.iload_n 3, 1) := by decide +kernel
theorem dL_law_858 : decode cL_law 858 = .ok (.iconst 3, 1) := by decide +kernel
theorem dL_law_859 : decode cL_law 859 = .ok (.iadd, 1) := by decide +kernel
theorem dL_law_860 : decode cL_law 860 = .ok (.iaload, 1) := by decide +kernel
theorem dL_law_861 : decode cL_law 861 = .ok (.aload_n 0, 1) := by decide +kernel
theorem dL_law_862 : decode cL_law 862 = .ok (.iload_n 3, 1) := by decide +kernel
theorem dL_law_863 : decode cL_law 863 = .ok (.iconst 4, 1) := by decide +kernel
theorem dL_law_864 : decode cL_law 864 = .ok (.iadd, 1) := by decide +kernel
theorem dL_law_865 : decode cL_law 865 = .ok (.iaload, 1) := by decide +kernel
theorem dL_law_866 : decode cL_law 866 = .ok (.invokevirtual 113, 3) := by decide +kernel
theorem dL_law_869 : decode cL_law 869 = .ok (.if_icmp .eq 351, 3) := by decide +kernel
theorem dL_law_872 : decode cL_law 872 = .ok (.iconst 0, 1) := by decide +kernel
theorem dL_law_873 : decode cL_law 873 = .ok (.ireturn, 1) := by decide +kernel
theorem dL_law_874 : decode cL_law 874 = .ok (.aload_n 1, 1) := by decide +kernel
theorem dL_law_875 : decode cL_law 875 = .ok (.invokevirtual 114, 3) := by decide +kernel
theorem dL_law_878 : decode cL_law 878 = .ok (.aload_n 2, 1) := by decide +kernel
theorem dL_law_879 : decode cL_law 879 = .ok (.invokevirtual 117, 3) := by decide +kernel
theorem dL_law_882 : decode cL_law 882 = .ok (.if_icmp .eq 338, 3) := by decide +kernel
theorem dL_law_885 : decode cL_law 885 = .ok (.iconst 0, 1) := by decide +kernel
theorem dL_law_886 : decode cL_law 886 = .ok (.ireturn, 1) := by decide +kernel
theorem dL_law_887 : decode cL_law 887 = .ok (.aload_n 1, 1) := by decide +kernel
theorem dL_law_888 : decode cL_law 888 = .ok (.aload_n 0, 1) := by decide +kernel
theorem dL_law_889 : decode cL_law 889 = .ok (.iload_n 3, 1) := by decide +kernel
theorem dL_law_890 : decode cL_law 890 = .ok (.iconst 1, 1) := by decide +kernel
theorem dL_law_891 : decode cL_law 891 = .ok (.iadd, 1) := by decide +kernel
theorem dL_law_892 : decode cL_law 892 = .ok (.iaload, 1) := by decide +kernel
theorem dL_law_893 : decode cL_law 893 = .ok (.ifCond .eq 7, 3) := by decide +kernel
theorem dL_law_896 : decode cL_law 896 = .ok (.iconst 1, 1) := by decide +kernel
theorem dL_law_897 : decode cL_law 897 = .ok (.goto 4, 3) := by decide +kernel
theorem dL_law_900 : decode cL_law 900 = .ok (.iconst 0, 1) := by decide +kernel
theorem dL_law_901 : decode cL_law 901 = .ok (.invokevirtual 118, 3) := by decide +kernel
theorem dL_law_904 : decode cL_law 904 = .ok (.aload_n 2, 1) := by decide +kernel
theorem dL_law_905 : decode cL_law 905 = .ok (.aload_n 0, 1) := by decide +kernel
theorem dL_law_906 : decode cL_law 906 = .ok (.iload_n 3, 1) := by decide +kernel
theorem dL_law_907 : decode cL_law 907 = .ok (.iconst 1, 1) := by decide +kernel
theorem dL_law_908 : decode cL_law 908 = .ok (.iadd, 1) := by decide +kernel
theorem dL_law_909 : decode cL_law 909 = .ok (.iaload, 1) := by decide +kernel
theorem dL_law_910 : decode cL_law 910 = .ok (.ifCond .eq 7, 3) := by decide +kernel
theorem dL_law_913 : decode cL_law 913 = .ok (.iconst 1, 1) := by decide +kernel
theorem dL_law_914 : decode cL_law 914 = .ok (.goto 4, 3) := by decide +kernel
theorem dL_law_917 : decode cL_law 917 = .ok (.iconst 0, 1) := by decide +kernel
theorem dL_law_918 : decode cL_law 918 = .ok (.invokevirtual 122, 3) := by decide +kernel
theorem dL_law_921 : decode cL_law 921 = .ok (.if_icmp .eq 299, 3) := by decide +kernel
theorem dL_law_924 : decode cL_law 924 = .ok (.iconst 0, 1) := by decide +kernel
theorem dL_law_925 : decode cL_law 925 = .ok (.ireturn, 1) := by decide +kernel
theorem dL_law_926 : decode cL_law 926 = .ok (.aload_n 1, 1) := by decide +kernel
theorem dL_law_927 : decode cL_law 927 = .ok (.aload_n 0, 1) := by decide +kernel
theorem dL_law_928 : decode cL_law 928 = .ok (.iload_n 3, 1) := by decide +kernel
theorem dL_law_929 : decode cL_law 929 = .ok (.iconst 1, 1) := by decide +kernel
theorem dL_law_930 : decode cL_law 930 = .ok (.iadd, 1) := by decide +kernel
theorem dL_law_931 : decode cL_law 931 = .ok (.iaload, 1) := by decide +kernel
theorem dL_law_932 : decode cL_law 932 = .ok (.aload_n 0, 1) := by decide +kernel
theorem dL_law_933 : decode cL_law 933 = .ok (.iload_n 3, 1) := by decide +kernel
theorem dL_law_934 : decode cL_law 934 = .ok (.iconst 2, 1) := by decide +kernel
theorem dL_law_935 : decode cL_law 935 = .ok (.iadd, 1) := by decide +kernel
theorem dL_law_936 : decode cL_law 936 = .ok (.iaload, 1) := by decide +kernel
theorem dL_law_937 : decode cL_law 937 = .ok (.invokevirtual 123, 3) := by decide +kernel
theorem dL_law_940 : decode cL_law 940 = .ok (.aload_n 2, 1) := by decide +kernel
theorem dL_law_941 : decode cL_law 941 = .ok (.aload_n 0, 1) := by decide +kernel
theorem dL_law_942 : decode cL_law 942 = .ok (.iload_n 3, 1) := by decide +kernel
theorem dL_law_943 : decode cL_law 943 = .ok (.iconst 1, 1) := by decide +kernel
theorem dL_law_944 : decode cL_law 944 = .ok (.iadd, 1) := by decide +kernel
theorem dL_law_945 : decode cL_law 945 = .ok (.iaload, 1) := by decide +kernel
theorem dL_law_946 : decode cL_law 946 = .ok (.aload_n 0, 1) := by decide +kernel
theorem dL_law_947 : decode cL_law 947 = .ok (.iload_n 3, 1) := by decide +kernel
theorem dL_law_948 : decode cL_law 948 = .ok (.iconst 2, 1) := by decide +kernel
theorem dL_law_949 : decode cL_law 949 = .ok (.iadd, 1) := by decide +kernel
theorem dL_law_950 : decode cL_law 950 = .ok (.iaload, 1) := by decide +kernel
theorem dL_law_951 : decode cL_law 951 = .ok (.invokevirtual 126, 3) := by decide +kernel
theorem dL_law_954 : decode cL_law 954 = .ok (.if_icmp .eq 266, 3) := by decide +kernel
theorem dL_law_957 : decode cL_law 957 = .ok (.iconst 0, 1) := by decide +kernel
theorem dL_law_958 : decode cL_law 958 = .ok (.ireturn, 1) := by decide +kernel
theorem dL_law_959 : decode cL_law 959 = .ok (.aload_n 1, 1) := by decide +kernel
theorem dL_law_960 : decode cL_law 960 = .ok (.aload_n 0, 1) := by decide +kernel
theorem dL_law_961 : decode cL_law 961 = .ok (.iload_n 3, 1) := by decide +kernel
theorem dL_law_962 : decode cL_law 962 = .ok (.iconst 1, 1) := by decide +kernel
theorem dL_law_963 : decode cL_law 963 = .ok (.iadd, 1) := by decide +kernel
theorem dL_law_964 : decode cL_law 964 = .ok (.iaload, 1) := by decide +kernel
theorem dL_law_965 : decode cL_law 965 = .ok (.aload_n 0, 1) := by decide +kernel
theorem dL_law_966 : decode cL_law 966 = .ok (.iload_n 3, 1) := by decide +kernel
theorem dL_law_967 : decode cL_law 967 = .ok (.iconst 2, 1) := by decide +kernel
theorem dL_law_968 : decode cL_law 968 = .ok (.iadd, 1) := by decide +kernel
theorem dL_law_969 : decode cL_law 969 = .ok (.iaload, 1) := by decide +kernel
theorem dL_law_970 : decode cL_law 970 = .ok (.invokevirtual 127, 3) := by decide +kernel
theorem dL_law_973 : decode cL_law 973 = .ok (.aload_n 2, 1) := by decide +kernel
theorem dL_law_974 : decode cL_law 974 = .ok (.aload_n 0, 1) := by decide +kernel
theorem dL_law_975 : decode cL_law 975 = .ok (.iload_n 3, 1) := by decide +kernel
theorem dL_law_976 : decode cL_law 976 = .ok (.iconst 1, 1) := by decide +kernel
theorem dL_law_977 : decode cL_law 977 = .ok (.iadd, 1) := by decide +kernel
theorem dL_law_978 : decode cL_law 978 = .ok (.iaload, 1) := by decide +kernel
theorem dL_law_979 : decode cL_law 979 = .ok (.aload_n 0, 1) := by decide +kernel
theorem dL_law_980 : decode cL_law 980 = .ok (.iload_n 3, 1) := by decide +kernel
theorem dL_law_981 : decode cL_law 981 = .ok (.iconst 2, 1) := by decide +kernel
theorem dL_law_982 : decode cL_law 982 = .ok (.iadd, 1) := by decide +kernel
theorem dL_law_983 : decode cL_law 983 = .ok (.iaload, 1) := by decide +kernel
theorem dL_law_984 : decode cL_law 984 = .ok (.invokevirtual 130, 3) := by decide +kernel
theorem dL_law_987 : decode cL_law 987 = .ok (.if_icmp .eq 233, 3) := by decide +kernel
theorem dL_law_990 : decode cL_law 990 = .ok (.iconst 0, 1) := by decide +kernel
theorem dL_law_991 : decode cL_law 991 = .ok (.ireturn, 1) := by decide +kernel
theorem dL_law_992 : decode cL_law 992 = .ok (.aload_n 1, 1) := by decide +kernel
theorem dL_law_993 : decode cL_law 993 = .ok (.aload_n 0, 1) := by decide +kernel
theorem dL_law_994 : decode cL_law 994 = .ok (.iload_n 3, 1) := by decide +kernel
theorem dL_law_995 : decode cL_law 995 = .ok (.iconst 1, 1) := by decide +kernel
theorem dL_law_996 : decode cL_law 996 = .ok (.iadd, 1) := by decide +kernel
theorem dL_law_997 : decode cL_law 997 = .ok (.iaload, 1) := by decide +kernel
theorem dL_law_998 : decode cL_law 998 = .ok (.aload_n 0, 1) := by decide +kernel
theorem dL_law_999 : decode cL_law 999 = .ok (.iload_n 3, 1) := by decide +kernel
theorem dL_law_1000 : decode cL_law 1000 = .ok (.iconst 2, 1) := by decide +kernel
theorem dL_law_1001 : decode cL_law 1001 = .ok (.iadd, 1) := by decide +kernel
theorem dL_law_1002 : decode cL_law 1002 = .ok (.iaload, 1) := by decide +kernel
theorem dL_law_1003 : decode cL_law 1003 = .ok (.invokevirtual 131, 3) := by decide +kernel
theorem dL_law_1006 : decode cL_law 1006 = .ok (.aload_n 2, 1) := by decide +kernel
theorem dL_law_1007 : decode cL_law 1007 = .ok (.aload_n 0, 1) := by decide +kernel
theorem dL_law_1008 : decode cL_law 1008 = .ok (.iload_n 3, 1) := by decide +kernel
theorem dL_law_1009 : decode cL_law 1009 = .ok (.iconst 1, 1) := by decide +kernel
theorem dL_law_1010 : decode cL_law 1010 = .ok (.iadd, 1) := by decide +kernel
theorem dL_law_1011 : decode cL_law 1011 = .ok (.iaload, 1) := by decide +kernel
theorem dL_law_1012 : decode cL_law 1012 = .ok (.aload_n 0, 1) := by decide +kernel
theorem dL_law_1013 : decode cL_law 1013 = .ok (.iload_n 3, 1) := by decide +kernel
theorem dL_law_1014 : decode cL_law 1014 = .ok (.iconst 2, 1) := by decide +kernel
theorem dL_law_1015 : decode cL_law 1015 = .ok (.iadd, 1) := by decide +kernel
theorem dL_law_1016 : decode cL_law 1016 = .ok (.iaload, 1) := by decide +kernel
theorem dL_law_1017 : decode cL_law 1017 = .ok (.invokevirtual 134, 3) := by decide +kernel
theorem dL_law_1020 : decode cL_law 1020 = .ok (.if_icmp .eq 200, 3) := by decide +kernel
theorem dL_law_1023 : decode cL_law 1023 = .ok (.iconst 0, 1) := by decide +kernel
theorem dL_law_1024 : decode cL_law 1024 = .ok (.ireturn, 1) := by decide +kernel
theorem dL_law_1025 : decode cL_law 1025 = .ok (.aload_n 1, 1) := by decide +kernel
theorem dL_law_1026 : decode cL_law 1026 = .ok (.aload_n 0, 1) := by decide +kernel
theorem dL_law_1027 : decode cL_law 1027 = .ok (.iload_n 3, 1) := by decide +kernel
theorem dL_law_1028 : decode cL_law 1028 = .ok (.iconst 1, 1) := by decide +kernel
theorem dL_law_1029 : decode cL_law 1029 = .ok (.iadd, 1) := by decide +kernel
theorem dL_law_1030 : decode cL_law 1030 = .ok (.iaload, 1) := by decide +kernel
theorem dL_law_1031 : decode cL_law 1031 = .ok (.aload_n 0, 1) := by decide +kernel
theorem dL_law_1032 : decode cL_law 1032 = .ok (.iload_n 3, 1) := by decide +kernel
theorem dL_law_1033 : decode cL_law 1033 = .ok (.iconst 2, 1) := by decide +kernel
theorem dL_law_1034 : decode cL_law 1034 = .ok (.iadd, 1) := by decide +kernel
theorem dL_law_1035 : decode cL_law 1035 = .ok (.iaload, 1) := by decide +kernel
theorem dL_law_1036 : decode cL_law 1036 = .ok (.aload_n 0, 1) := by decide +kernel
theorem dL_law_1037 : decode cL_law 1037 = .ok (.iload_n 3, 1) := by decide +kernel
theorem dL_law_1038 : decode cL_law 1038 = .ok (.iconst 3, 1) := by decide +kernel
theorem dL_law_1039 : decode cL_law 1039 = .ok (.iadd, 1) := by decide +kernel
theorem dL_law_1040 : decode cL_law 1040 = .ok (.iaload, 1) := by decide +kernel
theorem dL_law_1041 : decode cL_law 1041 = .ok (.invokevirtual 135, 3) := by decide +kernel
theorem dL_law_1044 : decode cL_law 1044 = .ok (.aload_n 2, 1) := by decide +kernel
theorem dL_law_1045 : decode cL_law 1045 = .ok (.aload_n 0, 1) := by decide +kernel
theorem dL_law_1046 : decode cL_law 1046 = .ok (.iload_n 3, 1) := by decide +kernel
theorem dL_law_1047 : decode cL_law 1047 = .ok (.iconst 1, 1) := by decide +kernel
theorem dL_law_1048 : decode cL_law 1048 = .ok (.iadd, 1) := by decide +kernel
theorem dL_law_1049 : decode cL_law 1049 = .ok (.iaload, 1) := by decide +kernel
theorem dL_law_1050 : decode cL_law 1050 = .ok (.aload_n 0, 1) := by decide +kernel
theorem dL_law_1051 : decode cL_law 1051 = .ok (.iload_n 3, 1) := by decide +kernel
theorem dL_law_1052 : decode cL_law 1052 = .ok (.iconst 2, 1) := by decide +kernel
theorem dL_law_1053 : decode cL_law 1053 = .ok (.iadd, 1) := by decide +kernel
theorem dL_law_1054 : decode cL_law 1054 = .ok (.iaload, 1) := by decide +kernel
theorem dL_law_1055 : decode cL_law 1055 = .ok (.aload_n 0, 1) := by decide +kernel
theorem dL_law_1056 : decode cL_law 1056 = .ok (.iload_n 3, 1) := by decide +kernel
theorem dL_law_1057 : decode cL_law 1057 = .ok (.iconst 3, 1) := by decide +kernel
theorem dL_law_1058 : decode cL_law 1058 = .ok (.iadd, 1) := by decide +kernel
theorem dL_law_1059 : decode cL_law 1059 = .ok (.iaload, 1) := by decide +kernel
theorem dL_law_1060 : decode cL_law 1060 = .ok (.invokevirtual 139, 3) := by decide +kernel
theorem dL_law_1063 : decode cL_law 1063 = .ok (.if_icmp .eq 157, 3) := by decide +kernel
theorem dL_law_1066 : decode cL_law 1066 = .ok (.iconst 0, 1) := by decide +kernel
theorem dL_law_1067 : decode cL_law 1067 = .ok (.ireturn, 1) := by decide +kernel
theorem dL_law_1068 : decode cL_law 1068 = .ok (.aload_n 1, 1) := by decide +kernel
theorem dL_law_1069 : decode cL_law 1069 = .ok (.aload_n 0, 1) := by decide +kernel
theorem dL_law_1070 : decode cL_law 1070 = .ok (.iload_n 3, 1) := by decide +kernel
theorem dL_law_1071 : decode cL_law 1071 = .ok (.iconst 1, 1) := by decide +kernel
theorem dL_law_1072 : decode cL_law 1072 = .ok (.iadd, 1) := by decide +kernel
theorem dL_law_1073 : decode cL_law 1073 = .ok (.iaload, 1) := by decide +kernel
theorem dL_law_1074 : decode cL_law 1074 = .ok (.aload_n 0, 1) := by decide +kernel
theorem dL_law_1075 : decode cL_law 1075 = .ok (.iload_n 3, 1) := by decide +kernel
theorem dL_law_1076 : decode cL_law 1076 = .ok (.iconst 2, 1) := by decide +kernel
theorem dL_law_1077 : decode cL_law 1077 = .ok (.iadd, 1) := by decide +kernel
theorem dL_law_1078 : decode cL_law 1078 = .ok (.iaload, 1) := by decide +kernel
theorem dL_law_1079 : decode cL_law 1079 = .ok (.aload_n 0, 1) := by decide +kernel
theorem dL_law_1080 : decode cL_law 1080 = .ok (.iload_n 3, 1) := by decide +kernel
theorem dL_law_1081 : decode cL_law 1081 = .ok (.iconst 3, 1) := by decide +kernel
theorem dL_law_1082 : decode cL_law 1082 = .ok (.iadd, 1) := by decide +kernel
theorem dL_law_1083 : decode cL_law 1083 = .ok (.iaload, 1) := by decide +kernel
theorem dL_law_1084 : decode cL_law 1084 = .ok (.invokevirtual 140, 3) := by decide +kernel
theorem dL_law_1087 : decode cL_law 1087 = .ok (.aload_n 2, 1) := by decide +kernel
theorem dL_law_1088 : decode cL_law 1088 = .ok (.aload_n 0, 1) := by decide +kernel
theorem dL_law_1089 : decode cL_law 1089 = .ok (.iload_n 3, 1) := by decide +kernel
theorem dL_law_1090 : decode cL_law 1090 = .ok (.iconst 1, 1) := by decide +kernel
theorem dL_law_1091 : decode cL_law 1091 = .ok (.iadd, 1) := by decide +kernel
theorem dL_law_1092 : decode cL_law 1092 = .ok (.iaload, 1) := by decide +kernel
theorem dL_law_1093 : decode cL_law 1093 = .ok (.aload_n 0, 1) := by decide +kernel
theorem dL_law_1094 : decode cL_law 1094 = .ok (.iload_n 3, 1) := by decide +kernel
theorem dL_law_1095 : decode cL_law 1095 = .ok (.iconst 2, 1) := by decide +kernel
theorem dL_law_1096 : decode cL_law 1096 = .ok (.iadd, 1) := by decide +kernel
theorem dL_law_1097 : decode cL_law 1097 = .ok (.iaload, 1) := by decide +kernel
theorem dL_law_1098 : decode cL_law 1098 = .ok (.aload_n 0, 1) := by decide +kernel
theorem dL_law_1099 : decode cL_law 1099 = .ok (.iload_n 3, 1) := by decide +kernel
theorem dL_law_1100 : decode cL_law 1100 = .ok (.iconst 3, 1) := by decide +kernel
theorem dL_law_1101 : decode cL_law 1101 = .ok (.iadd, 1) := by decide +kernel
theorem dL_law_1102 : decode cL_law 1102 = .ok (.iaload, 1) := by decide +kernel
theorem dL_law_1103 : decode cL_law 1103 = .ok (.invokevirtual 143, 3) := by decide +kernel
theorem dL_law_1106 : decode cL_law 1106 = .ok (.if_icmp .eq 114, 3) := by decide +kernel
theorem dL_law_1109 : decode cL_law 1109 = .ok (.iconst 0, 1) := by decide +kernel
theorem dL_law_1110 : decode cL_law 1110 = .ok (.ireturn, 1) := by decide +kernel
theorem dL_law_1111 : decode cL_law 1111 = .ok (.aload_n 1, 1) := by decide +kernel
theorem dL_law_1112 : decode cL_law 1112 = .ok (.aload_n 0, 1) := by decide +kernel
theorem dL_law_1113 : decode cL_law 1113 = .ok (.iload_n 3, 1) := by decide +kernel
theorem dL_law_1114 : decode cL_law 1114 = .ok (.iconst 1, 1) := by decide +kernel
theorem dL_law_1115 : decode cL_law 1115 = .ok (.iadd, 1) := by decide +kernel
theorem dL_law_1116 : decode cL_law 1116 = .ok (.iaload, 1) := by decide +kernel
theorem dL_law_1117 : decode cL_law 1117 = .ok (.aload_n 0, 1) := by decide +kernel
theorem dL_law_1118 : decode cL_law 1118 = .ok (.iload_n 3, 1) := by decide +kernel
theorem dL_law_1119 : decode cL_law 1119 = .ok (.iconst 2, 1) := by decide +kernel
theorem dL_law_1120 : decode cL_law 1120 = .ok (.iadd, 1) := by decide +kernel
theorem dL_law_1121 : decode cL_law 1121 = .ok (.iaload, 1) := by decide +kernel
theorem dL_law_1122 : decode cL_law 1122 = .ok (.aload_n 0, 1) := by decide +kernel
theorem dL_law_1123 : decode cL_law 1123 = .ok (.iload_n 3, 1) := by decide +kernel
theorem dL_law_1124 : decode cL_law 1124 = .ok (.iconst 3, 1) := by decide +kernel
theorem dL_law_1125 : decode cL_law 1125 = .ok (.iadd, 1) := by decide +kernel
theorem dL_law_1126 : decode cL_law 1126 = .ok (.iaload, 1) := by decide +kernel
theorem dL_law_1127 : decode cL_law 1127 = .ok (.aload_n 0, 1) := by decide +kernel
theorem dL_law_1128 : decode cL_law 1128 = .ok (.iload_n 3, 1) := by decide +kernel
theorem dL_law_1129 : decode cL_law 1129 = .ok (.iconst 4, 1) := by decide +kernel
theorem dL_law_1130 : decode cL_law 1130 = .ok (.iadd, 1) := by decide +kernel
theorem dL_law_1131 : decode cL_law 1131 = .ok (.iaload, 1) := by decide +kernel
theorem dL_law_1132 : decode cL_law 1132 = .ok (.aload_n 0, 1) := by decide +kernel
theorem dL_law_1133 : decode cL_law 1133 = .ok (.iload_n 3, 1) := by decide +kernel
theorem dL_law_1134 : decode cL_law 1134 = .ok (.iconst 5, 1) := by decide +kernel
theorem dL_law_1135 : decode cL_law 1135 = .ok (.iadd, 1) := by decide +kernel
theorem dL_law_1136 : decode cL_law 1136 = .ok (.iaload, 1) := by decide +kernel
theorem dL_law_1137 : decode cL_law 1137 = .ok (.invokevirtual 144, 3) := by decide +kernel
theorem dL_law_1140 : decode cL_law 1140 = .ok (.aload_n 2, 1) := by decide +kernel
theorem dL_law_1141 : decode cL_law 1141 = .ok (.aload_n 0, 1) := by decide +kernel
theorem dL_law_1142 : decode cL_law 1142 = .ok (.iload_n 3, 1) := by decide +kernel
theorem dL_law_1143 : decode cL_law 1143 = .ok (.iconst 1, 1) := by decide +kernel
theorem dL_law_1144 : decode cL_law 1144 = .ok (.iadd, 1) := by decide +kernel
theorem dL_law_1145 : decode cL_law 1145 = .ok (.iaload, 1) := by decide +kernel
theorem dL_law_1146 : decode cL_law 1146 = .ok (.aload_n 0, 1) := by decide +kernel
theorem dL_law_1147 : decode cL_law 1147 = .ok (.iload_n 3, 1) := by decide +kernel
theorem dL_law_1148 : decode cL_law 1148 = .ok (.iconst 2, 1) := by decide +kernel
theorem dL_law_1149 : decode cL_law 1149 = .ok (.iadd, 1) := by decide +kernel
theorem dL_law_1150 : decode cL_law 1150 = .ok (.iaload, 1) := by decide +kernel
theorem dL_law_1151 : decode cL_law 1151 = .ok (.aload_n 0, 1) := by decide +kernel
theorem dL_law_1152 : decode cL_law 1152 = .ok (.iload_n 3, 1) := by decide +kernel
theorem dL_law_1153 : decode cL_law 1153 = .ok (.iconst 3, 1) := by decide +kernel
theorem dL_law_1154 : decode cL_law 1154 = .ok (.iadd, 1) := by decide +kernel
theorem dL_law_1155 : decode cL_law 1155 = .ok (.iaload, 1) := by decide +kernel
theorem dL_law_1156 : decode cL_law 1156 = .ok (.aload_n 0, 1) := by decide +kernel
theorem dL_law_1157 : decode cL_law 1157 = .ok (.iload_n 3, 1) := by decide +kernel
theorem dL_law_1158 : decode cL_law 1158 = .ok (.iconst 4, 1) := by decide +kernel
theorem dL_law_1159 : decode cL_law 1159 = .ok (.iadd, 1) := by decide +kernel
theorem dL_law_1160 : decode cL_law 1160 = .ok (.iaload, 1) := by decide +kernel
theorem dL_law_1161 : decode cL_law 1161 = .ok (.aload_n 0, 1) := by decide +kernel
theorem dL_law_1162 : decode cL_law 1162 = .ok (.iload_n 3, 1) := by decide +kernel
theorem dL_law_1163 : decode cL_law 1163 = .ok (.iconst 5, 1) := by decide +kernel
theorem dL_law_1164 : decode cL_law 1164 = .ok (.iadd, 1) := by decide +kernel
theorem dL_law_1165 : decode cL_law 1165 = .ok (.iaload, 1) := by decide +kernel
theorem dL_law_1166 : decode cL_law 1166 = .ok (.invokevirtual 148, 3) := by decide +kernel
theorem dL_law_1169 : decode cL_law 1169 = .ok (.if_icmp .eq 51, 3) := by decide +kernel
theorem dL_law_1172 : decode cL_law 1172 = .ok (.iconst 0, 1) := by decide +kernel
theorem dL_law_1173 : decode cL_law 1173 = .ok (.ireturn, 1) := by decide +kernel
theorem dL_law_1174 : decode cL_law 1174 = .ok (.aload_n 1, 1) := by decide +kernel
theorem dL_law_1175 : decode cL_law 1175 = .ok (.aload_n 0, 1) := by decide +kernel
theorem dL_law_1176 : decode cL_law 1176 = .ok (.iload_n 3, 1) := by decide +kernel
theorem dL_law_1177 : decode cL_law 1177 = .ok (.iconst 1, 1) := by decide +kernel
theorem dL_law_1178 : decode cL_law 1178 = .ok (.iadd, 1) := by decide +kernel
theorem dL_law_1179 : decode cL_law 1179 = .ok (.iaload, 1) := by decide +kernel
theorem dL_law_1180 : decode cL_law 1180 = .ok (.invokevirtual 149, 3) := by decide +kernel
theorem dL_law_1183 : decode cL_law 1183 = .ok (.aload_n 2, 1) := by decide +kernel
theorem dL_law_1184 : decode cL_law 1184 = .ok (.aload_n 0, 1) := by decide +kernel
theorem dL_law_1185 : decode cL_law 1185 = .ok (.iload_n 3, 1) := by decide +kernel
theorem dL_law_1186 : decode cL_law 1186 = .ok (.iconst 1, 1) := by decide +kernel
theorem dL_law_1187 : decode cL_law 1187 = .ok (.iadd, 1) := by decide +kernel
theorem dL_law_1188 : decode cL_law 1188 = .ok (.iaload, 1) := by decide +kernel
theorem dL_law_1189 : decode cL_law 1189 = .ok (.invokevirtual 152, 3) := by decide +kernel
theorem dL_law_1192 : decode cL_law 1192 = .ok (.if_icmp .eq 28, 3) := by decide +kernel
theorem dL_law_1195 : decode cL_law 1195 = .ok (.iconst 0, 1) := by decide +kernel
theorem dL_law_1196 : decode cL_law 1196 = .ok (.ireturn, 1) := by decide +kernel
theorem dL_law_1197 : decode cL_law 1197 = .ok (.aload_n 1, 1) := by decide +kernel
theorem dL_law_1198 : decode cL_law 1198 = .ok (.aload_n 0, 1) := by decide +kernel
theorem dL_law_1199 : decode cL_law 1199 = .ok (.iload_n 3, 1) := by decide +kernel
theorem dL_law_1200 : decode cL_law 1200 = .ok (.iconst 1, 1) := by decide +kernel
theorem dL_law_1201 : decode cL_law 1201 = .ok (.iadd, 1) := by decide +kernel
theorem dL_law_1202 : decode cL_law 1202 = .ok (.iaload, 1) := by decide +kernel
theorem dL_law_1203 : decode cL_law 1203 = .ok (.invokevirtual 153, 3) := by decide +kernel
theorem dL_law_1206 : decode cL_law 1206 = .ok (.aload_n 2, 1) := by decide +kernel
theorem dL_law_1207 : decode cL_law 1207 = .ok (.aload_n 0, 1) := by decide +kernel
theorem dL_law_1208 : decode cL_law 1208 = .ok (.iload_n 3, 1) := by decide +kernel
theorem dL_law_1209 : decode cL_law 1209 = .ok (.iconst 1, 1) := by decide +kernel
theorem dL_law_1210 : decode cL_law 1210 = .ok (.iadd, 1) := by decide +kernel
theorem dL_law_1211 : decode cL_law 1211 = .ok (.iaload, 1) := by decide +kernel
theorem dL_law_1212 : decode cL_law 1212 = .ok (.invokevirtual 156, 3) := by decide +kernel
theorem dL_law_1215 : decode cL_law 1215 = .ok (.if_icmp .eq 5, 3) := by decide +kernel
theorem dL_law_1218 : decode cL_law 1218 = .ok (.iconst 0, 1) := by decide +kernel
theorem dL_law_1219 : decode cL_law 1219 = .ok (.ireturn, 1) := by decide +kernel
theorem dL_law_1220 : decode cL_law 1220 = .ok (.iinc 3 6, 3) := by decide +kernel
theorem dL_law_1223 : decode cL_law 1223 = .ok (.goto (-1205), 3) := by decide +kernel
theorem dL_law_1226 : decode cL_law 1226 = .ok (.iconst 1, 1) := by decide +kernel
theorem dL_law_1227 : decode cL_law 1227 = .ok (.ireturn, 1) := by decide +kernel
end
section
/-! worlds, contracts' forms, rows of calls -/
abbrev Mem : Type := Nat → Nat → Int32
def upc (mem : Mem) (k : Nat) (f : Nat → Int32) : Mem := fun a => if a = k then f else mem a
def up2 (mem : Mem) (k j : Nat) (v : Int32) : Mem := upc mem k (upd (mem k) j v)
def fu : Nat := 100000
abbrev isB (v : Int32) : Prop := v = 0 ∨ v = 1
def gI {α : Type} (i : Int32) (n : Nat) (t : Option α) : Option α := if i < 0 ∨ n ≤ i.toNatClampNeg then none else t
def gZ {α : Type} (d : Int32) (t : Option α) : Option α := if d = 0 then none else t
def gB {α : Type} (v : Int32) (t : Option α) : Option α := if v = 0 ∨ v = 1 then t else none
def oc {α : Type} (o : Option Nat) (a : Option α) (f : Nat → Option α) : Option α := match o with
  | none => a
  | some k => f k
theorem gI_some {α : Type} {i : Int32} {n : Nat} {t : Option α} {v : α} (h : gI i n t = some v) : vp_in i n ∧ t = some v := by
  unfold gI at h
  by_cases c : i < 0 ∨ n ≤ i.toNatClampNeg
  · rw [if_pos c] at h; cases h
  · rw [if_neg c] at h; exact ⟨c, h⟩
theorem gZ_some {α : Type} {d : Int32} {t : Option α} {v : α} (h : gZ d t = some v) : ¬ d = 0 ∧ t = some v := by
  unfold gZ at h
  by_cases c : d = 0
  · rw [if_pos c] at h; cases h
  · rw [if_neg c] at h; exact ⟨c, h⟩
theorem gB_some {α : Type} {d : Int32} {t : Option α} {v : α} (h : gB d t = some v) : isB d ∧ t = some v := by
  unfold gB at h
  by_cases c : d = 0 ∨ d = 1
  · rw [if_pos c] at h; exact ⟨c, h⟩
  · rw [if_neg c] at h; cases h
def ob1 {α β : Type} (o : Option α) (f : α → Option β) : Option β := o.bind f
def ob2 {α β γ : Type} (o : Option (α × β)) (f : α → β → Option γ) : Option γ := o.bind (fun q => f q.1 q.2)
theorem ob2_some {α β γ : Type} {o : Option (α × β)} {f : α → β → Option γ} {v : γ} (h : ob2 o f = some v) : ∃ a b, o = some (a, b) ∧ f a b = some v := by
  cases o with
  | none => cases h
  | some q => exact ⟨q.1, q.2, rfl, h⟩
theorem ob_some {α β : Type} {o : Option α} {f : α → Option β} {v : β} (h : ob1 o f = some v) : ∃ a, o = some a ∧ f a = some v := by
  cases o with
  | none => cases h
  | some a => exact ⟨a, rfl, h⟩
theorem isB_nar {v : Int32} (h : isB v) : narrow .boolean (.int v) = .int v := by
  rcases h with rfl | rfl <;> rfl
theorem isB_fit {v : Int32} (h : isB v) : fits .boolean (.int v) = true := by
  rcases h with rfl | rfl <;> rfl
theorem ne_toInt {x c : Int32} {k : Int} (h : ¬ x = c) (hc : c.toInt = k) : x.toInt ≠ k := fun q => h (Int32.toInt_inj.mp (q.trans hc.symm))
abbrev gG : Type := va_G × ClassId × ClassId × ClassId
abbrev tyG (g : gG) : List (ClassId × FieldType) := [(g.2.1, .int), (g.2.2.1, .boolean), (g.2.2.2, .object "SpeakHall$Sheet")]
def AW (n : Nat) (ad : Nat → Nat) : Nat → Prop := fun q => ∃ k : Nat, k < n ∧ q = ad k
def Apt (n : Nat) (ad : Nat → Nat) : Prop := ∀ i j : Nat, i < n → j < n → ad i = ad j → i = j
theorem wD_of {n : Nat} {ad : Nat → Nat} {w : va_W} (hw : w.map Prod.fst = (List.range n).map ad) (h : Apt n ad) : va_D (AW n ad) w := by
  have key : ∀ (i : Nat) (p : Nat × va_E), w[i]? = some p → i < n ∧ p.1 = ad i := by
    intro i p hp
    have h1 : (w.map Prod.fst)[i]? = some p.1 := by rw [List.getElem?_map, hp]; rfl
    rw [hw, List.getElem?_map] at h1
    by_cases hi : i < n
    · rw [List.getElem?_range hi] at h1
      exact ⟨hi, (Option.some.inj h1).symm⟩
    · rw [List.getElem?_eq_none (by simp; omega)] at h1
      cases h1
  refine ⟨fun i j p q hp hq he => ?_, fun k q hk => ?_⟩
  · obtain ⟨hi, e1⟩ := key i p hp
    obtain ⟨hj, e2⟩ := key j q hq
    exact h i j hi hj (by rw [← e1, ← e2, he])
  · obtain ⟨hi, e1⟩ := key k q hk
    exact ⟨k, hi, e1⟩

def wX (g : gG) (ad : Nat → Nat) (mem : Mem) : va_W := [(ad 0, .inr (8, [.ref (ad 1), .ref (ad 5), .ref (ad 11), .ref (ad 17), .ref (ad 19), .ref (ad 21), .ref (ad 27), .ref (ad 29), .ref (ad 35), .int (mem 0 9)])), (ad 1, .inr (4, [.ref (ad 2), .ref (ad 3), .ref (ad 4), .int (mem 1 3)])), (ad 2, .inl (g.2.1, 10, .inl (mem 2))), (ad 3, .inl (g.2.1, 10, .inl (mem 3))), (ad 4, .inl (g.2.2.1, 10, .inl (mem 4))), (ad 5, .inr (7, [.ref (ad 1), .ref (ad 6), .ref (ad 7), .ref (ad 8), .ref (ad 9), .ref (ad 10), .int (mem 5 6), .int (mem 5 7)])), (ad 6, .inl (g.2.1, 20, .inl (mem 6))), (ad 7, .inl (g.2.1, 20, .inl (mem 7))), (ad 8, .inl (g.2.1, 10, .inl (mem 8))), (ad 9, .inl (g.2.1, 10, .inl (mem 9))), (ad 10, .inl (g.2.1, 5, .inl (mem 10))), (ad 11, .inr (7, [.ref (ad 1), .ref (ad 12), .ref (ad 13), .ref (ad 14), .ref (ad 15), .ref (ad 16), .int (mem 11 6), .int (mem 11 7)])), (ad 12, .inl (g.2.1, 20, .inl (mem 12))), (ad 13, .inl (g.2.1, 20, .inl (mem 13))), (ad 14, .inl (g.2.1, 10, .inl (mem 14))), (ad 15, .inl (g.2.1, 10, .inl (mem 15))), (ad 16, .inl (g.2.1, 5, .inl (mem 16))), (ad 17, .inr (5, [.ref (ad 1), .ref (ad 18), .int (mem 17 2)])), (ad 18, .inl (g.2.1, 6, .inl (mem 18))), (ad 19, .inr (2, [.ref (ad 1), .ref (ad 17), .ref (ad 5), .ref (ad 20), .int (mem 19 4)])), (ad 20, .inl (g.2.1, 20, .inl (mem 20))), (ad 21, .inr (1, [.ref (ad 22), .ref (ad 23), .ref (ad 24), .ref (ad 25), .ref (ad 26), .int (mem 21 5)])), (ad 22, .inl (g.2.1, 5, .inl (mem 22))), (ad 23, .inl (g.2.1, 5, .inl (mem 23))), (ad 24, .inl (g.2.1, 5, .inl (mem 24))), (ad 25, .inl (g.2.1, 5, .inl (mem 25))), (ad 26, .inl (g.2.1, 3, .inl (mem 26))), (ad 27, .inr (0, [.ref (ad 1), .ref (ad 28), .int (mem 27 2)])), (ad 28, .inl (g.2.1, 10, .inl (mem 28))), (ad 29, .inr (3, [.ref (ad 30), .ref (ad 31), .ref (ad 32), .ref (ad 33), .ref (ad 34), .int (mem 29 5), .int (mem 29 6)])), (ad 30, .inl (g.2.1, 100, .inl (mem 30))), (ad 31, .inl (g.2.1, 100, .inl (mem 31))), (ad 32, .inl (g.2.1, 100, .inl (mem 32))), (ad 33, .inl (g.2.1, 40, .inl (mem 33))), (ad 34, .inl (g.2.1, 40, .inl (mem 34))), (ad 35, .inl (g.2.2.2, 4, .inr (.inr (.inr (.inr (fun j => some (ad (36 + 2 * j)))))))), (ad 36, .inr (6, [.ref (ad 37), .int (mem 36 1), .int (mem 36 2)])), (ad 37, .inl (g.2.1, 12, .inl (mem 37))), (ad 38, .inr (6, [.ref (ad 39), .int (mem 38 1), .int (mem 38 2)])), (ad 39, .inl (g.2.1, 12, .inl (mem 39))), (ad 40, .inr (6, [.ref (ad 41), .int (mem 40 1), .int (mem 40 2)])), (ad 41, .inl (g.2.1, 12, .inl (mem 41))), (ad 42, .inr (6, [.ref (ad 43), .int (mem 42 1), .int (mem 42 2)])), (ad 43, .inl (g.2.1, 12, .inl (mem 43)))]
theorem wX_0 {g : gG} {ad : Nat → Nat} {mem : Mem} : (wX g ad mem)[0]? = some (ad 0, .inr (8, [.ref (ad 1), .ref (ad 5), .ref (ad 11), .ref (ad 17), .ref (ad 19), .ref (ad 21), .ref (ad 27), .ref (ad 29), .ref (ad 35), .int (mem 0 9)])) := rfl
theorem wX_s0_9 {g : gG} {ad : Nat → Nat} {mem : Mem} {v : Int32} : (wX g ad mem).set 0 (ad 0, .inr (8, [.ref (ad 1), .ref (ad 5), .ref (ad 11), .ref (ad 17), .ref (ad 19), .ref (ad 21), .ref (ad 27), .ref (ad 29), .ref (ad 35), .int v])) = wX g ad (up2 mem 0 9 v) := rfl
theorem wX_1 {g : gG} {ad : Nat → Nat} {mem : Mem} : (wX g ad mem)[1]? = some (ad 1, .inr (4, [.ref (ad 2), .ref (ad 3), .ref (ad 4), .int (mem 1 3)])) := rfl
theorem wX_s1_3 {g : gG} {ad : Nat → Nat} {mem : Mem} {v : Int32} : (wX g ad mem).set 1 (ad 1, .inr (4, [.ref (ad 2), .ref (ad 3), .ref (ad 4), .int v])) = wX g ad (up2 mem 1 3 v) := rfl
theorem wX_2 {g : gG} {ad : Nat → Nat} {mem : Mem} : (wX g ad mem)[2]? = some (ad 2, .inl (g.2.1, 10, .inl (mem 2))) := rfl
theorem wX_s2 {g : gG} {ad : Nat → Nat} {mem : Mem} {f : Nat → Int32} : (wX g ad mem).set 2 (ad 2, .inl (g.2.1, 10, .inl f)) = wX g ad (upc mem 2 f) := rfl
theorem wX_3 {g : gG} {ad : Nat → Nat} {mem : Mem} : (wX g ad mem)[3]? = some (ad 3, .inl (g.2.1, 10, .inl (mem 3))) := rfl
theorem wX_s3 {g : gG} {ad : Nat → Nat} {mem : Mem} {f : Nat → Int32} : (wX g ad mem).set 3 (ad 3, .inl (g.2.1, 10, .inl f)) = wX g ad (upc mem 3 f) := rfl
theorem wX_4 {g : gG} {ad : Nat → Nat} {mem : Mem} : (wX g ad mem)[4]? = some (ad 4, .inl (g.2.2.1, 10, .inl (mem 4))) := rfl
theorem wX_s4 {g : gG} {ad : Nat → Nat} {mem : Mem} {f : Nat → Int32} : (wX g ad mem).set 4 (ad 4, .inl (g.2.2.1, 10, .inl f)) = wX g ad (upc mem 4 f) := rfl
theorem wX_5 {g : gG} {ad : Nat → Nat} {mem : Mem} : (wX g ad mem)[5]? = some (ad 5, .inr (7, [.ref (ad 1), .ref (ad 6), .ref (ad 7), .ref (ad 8), .ref (ad 9), .ref (ad 10), .int (mem 5 6), .int (mem 5 7)])) := rfl
theorem wX_s5_6 {g : gG} {ad : Nat → Nat} {mem : Mem} {v : Int32} : (wX g ad mem).set 5 (ad 5, .inr (7, [.ref (ad 1), .ref (ad 6), .ref (ad 7), .ref (ad 8), .ref (ad 9), .ref (ad 10), .int v, .int (mem 5 7)])) = wX g ad (up2 mem 5 6 v) := rfl
theorem wX_s5_7 {g : gG} {ad : Nat → Nat} {mem : Mem} {v : Int32} : (wX g ad mem).set 5 (ad 5, .inr (7, [.ref (ad 1), .ref (ad 6), .ref (ad 7), .ref (ad 8), .ref (ad 9), .ref (ad 10), .int (mem 5 6), .int v])) = wX g ad (up2 mem 5 7 v) := rfl
theorem wX_6 {g : gG} {ad : Nat → Nat} {mem : Mem} : (wX g ad mem)[6]? = some (ad 6, .inl (g.2.1, 20, .inl (mem 6))) := rfl
theorem wX_s6 {g : gG} {ad : Nat → Nat} {mem : Mem} {f : Nat → Int32} : (wX g ad mem).set 6 (ad 6, .inl (g.2.1, 20, .inl f)) = wX g ad (upc mem 6 f) := rfl
theorem wX_7 {g : gG} {ad : Nat → Nat} {mem : Mem} : (wX g ad mem)[7]? = some (ad 7, .inl (g.2.1, 20, .inl (mem 7))) := rfl
theorem wX_s7 {g : gG} {ad : Nat → Nat} {mem : Mem} {f : Nat → Int32} : (wX g ad mem).set 7 (ad 7, .inl (g.2.1, 20, .inl f)) = wX g ad (upc mem 7 f) := rfl
theorem wX_8 {g : gG} {ad : Nat → Nat} {mem : Mem} : (wX g ad mem)[8]? = some (ad 8, .inl (g.2.1, 10, .inl (mem 8))) := rfl
theorem wX_s8 {g : gG} {ad : Nat → Nat} {mem : Mem} {f : Nat → Int32} : (wX g ad mem).set 8 (ad 8, .inl (g.2.1, 10, .inl f)) = wX g ad (upc mem 8 f) := rfl
theorem wX_9 {g : gG} {ad : Nat → Nat} {mem : Mem} : (wX g ad mem)[9]? = some (ad 9, .inl (g.2.1, 10, .inl (mem 9))) := rfl
theorem wX_s9 {g : gG} {ad : Nat → Nat} {mem : Mem} {f : Nat → Int32} : (wX g ad mem).set 9 (ad 9, .inl (g.2.1, 10, .inl f)) = wX g ad (upc mem 9 f) := rfl
theorem wX_10 {g : gG} {ad : Nat → Nat} {mem : Mem} : (wX g ad mem)[10]? = some (ad 10, .inl (g.2.1, 5, .inl (mem 10))) := rfl
theorem wX_s10 {g : gG} {ad : Nat → Nat} {mem : Mem} {f : Nat → Int32} : (wX g ad mem).set 10 (ad 10, .inl (g.2.1, 5, .inl f)) = wX g ad (upc mem 10 f) := rfl
theorem wX_11 {g : gG} {ad : Nat → Nat} {mem : Mem} : (wX g ad mem)[11]? = some (ad 11, .inr (7, [.ref (ad 1), .ref (ad 12), .ref (ad 13), .ref (ad 14), .ref (ad 15), .ref (ad 16), .int (mem 11 6), .int (mem 11 7)])) := rfl
theorem wX_s11_6 {g : gG} {ad : Nat → Nat} {mem : Mem} {v : Int32} : (wX g ad mem).set 11 (ad 11, .inr (7, [.ref (ad 1), .ref (ad 12), .ref (ad 13), .ref (ad 14), .ref (ad 15), .ref (ad 16), .int v, .int (mem 11 7)])) = wX g ad (up2 mem 11 6 v) := rfl
theorem wX_s11_7 {g : gG} {ad : Nat → Nat} {mem : Mem} {v : Int32} : (wX g ad mem).set 11 (ad 11, .inr (7, [.ref (ad 1), .ref (ad 12), .ref (ad 13), .ref (ad 14), .ref (ad 15), .ref (ad 16), .int (mem 11 6), .int v])) = wX g ad (up2 mem 11 7 v) := rfl
theorem wX_12 {g : gG} {ad : Nat → Nat} {mem : Mem} : (wX g ad mem)[12]? = some (ad 12, .inl (g.2.1, 20, .inl (mem 12))) := rfl
theorem wX_s12 {g : gG} {ad : Nat → Nat} {mem : Mem} {f : Nat → Int32} : (wX g ad mem).set 12 (ad 12, .inl (g.2.1, 20, .inl f)) = wX g ad (upc mem 12 f) := rfl
theorem wX_13 {g : gG} {ad : Nat → Nat} {mem : Mem} : (wX g ad mem)[13]? = some (ad 13, .inl (g.2.1, 20, .inl (mem 13))) := rfl
theorem wX_s13 {g : gG} {ad : Nat → Nat} {mem : Mem} {f : Nat → Int32} : (wX g ad mem).set 13 (ad 13, .inl (g.2.1, 20, .inl f)) = wX g ad (upc mem 13 f) := rfl
theorem wX_14 {g : gG} {ad : Nat → Nat} {mem : Mem} : (wX g ad mem)[14]? = some (ad 14, .inl (g.2.1, 10, .inl (mem 14))) := rfl
theorem wX_s14 {g : gG} {ad : Nat → Nat} {mem : Mem} {f : Nat → Int32} : (wX g ad mem).set 14 (ad 14, .inl (g.2.1, 10, .inl f)) = wX g ad (upc mem 14 f) := rfl
theorem wX_15 {g : gG} {ad : Nat → Nat} {mem : Mem} : (wX g ad mem)[15]? = some (ad 15, .inl (g.2.1, 10, .inl (mem 15))) := rfl
theorem wX_s15 {g : gG} {ad : Nat → Nat} {mem : Mem} {f : Nat → Int32} : (wX g ad mem).set 15 (ad 15, .inl (g.2.1, 10, .inl f)) = wX g ad (upc mem 15 f) := rfl
theorem wX_16 {g : gG} {ad : Nat → Nat} {mem : Mem} : (wX g ad mem)[16]? = some (ad 16, .inl (g.2.1, 5, .inl (mem 16))) := rfl
theorem wX_s16 {g : gG} {ad : Nat → Nat} {mem : Mem} {f : Nat → Int32} : (wX g ad mem).set 16 (ad 16, .inl (g.2.1, 5, .inl f)) = wX g ad (upc mem 16 f) := rfl
theorem wX_17 {g : gG} {ad : Nat → Nat} {mem : Mem} : (wX g ad mem)[17]? = some (ad 17, .inr (5, [.ref (ad 1), .ref (ad 18), .int (mem 17 2)])) := rfl
theorem wX_s17_2 {g : gG} {ad : Nat → Nat} {mem : Mem} {v : Int32} : (wX g ad mem).set 17 (ad 17, .inr (5, [.ref (ad 1), .ref (ad 18), .int v])) = wX g ad (up2 mem 17 2 v) := rfl
theorem wX_18 {g : gG} {ad : Nat → Nat} {mem : Mem} : (wX g ad mem)[18]? = some (ad 18, .inl (g.2.1, 6, .inl (mem 18))) := rfl
theorem wX_s18 {g : gG} {ad : Nat → Nat} {mem : Mem} {f : Nat → Int32} : (wX g ad mem).set 18 (ad 18, .inl (g.2.1, 6, .inl f)) = wX g ad (upc mem 18 f) := rfl
theorem wX_19 {g : gG} {ad : Nat → Nat} {mem : Mem} : (wX g ad mem)[19]? = some (ad 19, .inr (2, [.ref (ad 1), .ref (ad 17), .ref (ad 5), .ref (ad 20), .int (mem 19 4)])) := rfl
theorem wX_s19_4 {g : gG} {ad : Nat → Nat} {mem : Mem} {v : Int32} : (wX g ad mem).set 19 (ad 19, .inr (2, [.ref (ad 1), .ref (ad 17), .ref (ad 5), .ref (ad 20), .int v])) = wX g ad (up2 mem 19 4 v) := rfl
theorem wX_20 {g : gG} {ad : Nat → Nat} {mem : Mem} : (wX g ad mem)[20]? = some (ad 20, .inl (g.2.1, 20, .inl (mem 20))) := rfl
theorem wX_s20 {g : gG} {ad : Nat → Nat} {mem : Mem} {f : Nat → Int32} : (wX g ad mem).set 20 (ad 20, .inl (g.2.1, 20, .inl f)) = wX g ad (upc mem 20 f) := rfl
theorem wX_21 {g : gG} {ad : Nat → Nat} {mem : Mem} : (wX g ad mem)[21]? = some (ad 21, .inr (1, [.ref (ad 22), .ref (ad 23), .ref (ad 24), .ref (ad 25), .ref (ad 26), .int (mem 21 5)])) := rfl
theorem wX_s21_5 {g : gG} {ad : Nat → Nat} {mem : Mem} {v : Int32} : (wX g ad mem).set 21 (ad 21, .inr (1, [.ref (ad 22), .ref (ad 23), .ref (ad 24), .ref (ad 25), .ref (ad 26), .int v])) = wX g ad (up2 mem 21 5 v) := rfl
theorem wX_22 {g : gG} {ad : Nat → Nat} {mem : Mem} : (wX g ad mem)[22]? = some (ad 22, .inl (g.2.1, 5, .inl (mem 22))) := rfl
theorem wX_s22 {g : gG} {ad : Nat → Nat} {mem : Mem} {f : Nat → Int32} : (wX g ad mem).set 22 (ad 22, .inl (g.2.1, 5, .inl f)) = wX g ad (upc mem 22 f) := rfl
theorem wX_23 {g : gG} {ad : Nat → Nat} {mem : Mem} : (wX g ad mem)[23]? = some (ad 23, .inl (g.2.1, 5, .inl (mem 23))) := rfl
theorem wX_s23 {g : gG} {ad : Nat → Nat} {mem : Mem} {f : Nat → Int32} : (wX g ad mem).set 23 (ad 23, .inl (g.2.1, 5, .inl f)) = wX g ad (upc mem 23 f) := rfl
theorem wX_24 {g : gG} {ad : Nat → Nat} {mem : Mem} : (wX g ad mem)[24]? = some (ad 24, .inl (g.2.1, 5, .inl (mem 24))) := rfl
theorem wX_s24 {g : gG} {ad : Nat → Nat} {mem : Mem} {f : Nat → Int32} : (wX g ad mem).set 24 (ad 24, .inl (g.2.1, 5, .inl f)) = wX g ad (upc mem 24 f) := rfl
theorem wX_25 {g : gG} {ad : Nat → Nat} {mem : Mem} : (wX g ad mem)[25]? = some (ad 25, .inl (g.2.1, 5, .inl (mem 25))) := rfl
theorem wX_s25 {g : gG} {ad : Nat → Nat} {mem : Mem} {f : Nat → Int32} : (wX g ad mem).set 25 (ad 25, .inl (g.2.1, 5, .inl f)) = wX g ad (upc mem 25 f) := rfl
theorem wX_26 {g : gG} {ad : Nat → Nat} {mem : Mem} : (wX g ad mem)[26]? = some (ad 26, .inl (g.2.1, 3, .inl (mem 26))) := rfl
theorem wX_s26 {g : gG} {ad : Nat → Nat} {mem : Mem} {f : Nat → Int32} : (wX g ad mem).set 26 (ad 26, .inl (g.2.1, 3, .inl f)) = wX g ad (upc mem 26 f) := rfl
theorem wX_27 {g : gG} {ad : Nat → Nat} {mem : Mem} : (wX g ad mem)[27]? = some (ad 27, .inr (0, [.ref (ad 1), .ref (ad 28), .int (mem 27 2)])) := rfl
theorem wX_s27_2 {g : gG} {ad : Nat → Nat} {mem : Mem} {v : Int32} : (wX g ad mem).set 27 (ad 27, .inr (0, [.ref (ad 1), .ref (ad 28), .int v])) = wX g ad (up2 mem 27 2 v) := rfl
theorem wX_28 {g : gG} {ad : Nat → Nat} {mem : Mem} : (wX g ad mem)[28]? = some (ad 28, .inl (g.2.1, 10, .inl (mem 28))) := rfl
theorem wX_s28 {g : gG} {ad : Nat → Nat} {mem : Mem} {f : Nat → Int32} : (wX g ad mem).set 28 (ad 28, .inl (g.2.1, 10, .inl f)) = wX g ad (upc mem 28 f) := rfl
theorem wX_29 {g : gG} {ad : Nat → Nat} {mem : Mem} : (wX g ad mem)[29]? = some (ad 29, .inr (3, [.ref (ad 30), .ref (ad 31), .ref (ad 32), .ref (ad 33), .ref (ad 34), .int (mem 29 5), .int (mem 29 6)])) := rfl
theorem wX_s29_5 {g : gG} {ad : Nat → Nat} {mem : Mem} {v : Int32} : (wX g ad mem).set 29 (ad 29, .inr (3, [.ref (ad 30), .ref (ad 31), .ref (ad 32), .ref (ad 33), .ref (ad 34), .int v, .int (mem 29 6)])) = wX g ad (up2 mem 29 5 v) := rfl
theorem wX_s29_6 {g : gG} {ad : Nat → Nat} {mem : Mem} {v : Int32} : (wX g ad mem).set 29 (ad 29, .inr (3, [.ref (ad 30), .ref (ad 31), .ref (ad 32), .ref (ad 33), .ref (ad 34), .int (mem 29 5), .int v])) = wX g ad (up2 mem 29 6 v) := rfl
theorem wX_30 {g : gG} {ad : Nat → Nat} {mem : Mem} : (wX g ad mem)[30]? = some (ad 30, .inl (g.2.1, 100, .inl (mem 30))) := rfl
theorem wX_s30 {g : gG} {ad : Nat → Nat} {mem : Mem} {f : Nat → Int32} : (wX g ad mem).set 30 (ad 30, .inl (g.2.1, 100, .inl f)) = wX g ad (upc mem 30 f) := rfl
theorem wX_31 {g : gG} {ad : Nat → Nat} {mem : Mem} : (wX g ad mem)[31]? = some (ad 31, .inl (g.2.1, 100, .inl (mem 31))) := rfl
theorem wX_s31 {g : gG} {ad : Nat → Nat} {mem : Mem} {f : Nat → Int32} : (wX g ad mem).set 31 (ad 31, .inl (g.2.1, 100, .inl f)) = wX g ad (upc mem 31 f) := rfl
theorem wX_32 {g : gG} {ad : Nat → Nat} {mem : Mem} : (wX g ad mem)[32]? = some (ad 32, .inl (g.2.1, 100, .inl (mem 32))) := rfl
theorem wX_s32 {g : gG} {ad : Nat → Nat} {mem : Mem} {f : Nat → Int32} : (wX g ad mem).set 32 (ad 32, .inl (g.2.1, 100, .inl f)) = wX g ad (upc mem 32 f) := rfl
theorem wX_33 {g : gG} {ad : Nat → Nat} {mem : Mem} : (wX g ad mem)[33]? = some (ad 33, .inl (g.2.1, 40, .inl (mem 33))) := rfl
theorem wX_s33 {g : gG} {ad : Nat → Nat} {mem : Mem} {f : Nat → Int32} : (wX g ad mem).set 33 (ad 33, .inl (g.2.1, 40, .inl f)) = wX g ad (upc mem 33 f) := rfl
theorem wX_34 {g : gG} {ad : Nat → Nat} {mem : Mem} : (wX g ad mem)[34]? = some (ad 34, .inl (g.2.1, 40, .inl (mem 34))) := rfl
theorem wX_s34 {g : gG} {ad : Nat → Nat} {mem : Mem} {f : Nat → Int32} : (wX g ad mem).set 34 (ad 34, .inl (g.2.1, 40, .inl f)) = wX g ad (upc mem 34 f) := rfl
theorem wX_35 {g : gG} {ad : Nat → Nat} {mem : Mem} : (wX g ad mem)[35]? = some (ad 35, .inl (g.2.2.2, 4, .inr (.inr (.inr (.inr (fun j => some (ad (36 + 2 * j)))))))) := rfl
theorem wX_36 {g : gG} {ad : Nat → Nat} {mem : Mem} : (wX g ad mem)[36]? = some (ad 36, .inr (6, [.ref (ad 37), .int (mem 36 1), .int (mem 36 2)])) := rfl
theorem wX_s36_1 {g : gG} {ad : Nat → Nat} {mem : Mem} {v : Int32} : (wX g ad mem).set 36 (ad 36, .inr (6, [.ref (ad 37), .int v, .int (mem 36 2)])) = wX g ad (up2 mem 36 1 v) := rfl
theorem wX_s36_2 {g : gG} {ad : Nat → Nat} {mem : Mem} {v : Int32} : (wX g ad mem).set 36 (ad 36, .inr (6, [.ref (ad 37), .int (mem 36 1), .int v])) = wX g ad (up2 mem 36 2 v) := rfl
theorem wX_37 {g : gG} {ad : Nat → Nat} {mem : Mem} : (wX g ad mem)[37]? = some (ad 37, .inl (g.2.1, 12, .inl (mem 37))) := rfl
theorem wX_s37 {g : gG} {ad : Nat → Nat} {mem : Mem} {f : Nat → Int32} : (wX g ad mem).set 37 (ad 37, .inl (g.2.1, 12, .inl f)) = wX g ad (upc mem 37 f) := rfl
theorem wX_38 {g : gG} {ad : Nat → Nat} {mem : Mem} : (wX g ad mem)[38]? = some (ad 38, .inr (6, [.ref (ad 39), .int (mem 38 1), .int (mem 38 2)])) := rfl
theorem wX_s38_1 {g : gG} {ad : Nat → Nat} {mem : Mem} {v : Int32} : (wX g ad mem).set 38 (ad 38, .inr (6, [.ref (ad 39), .int v, .int (mem 38 2)])) = wX g ad (up2 mem 38 1 v) := rfl
theorem wX_s38_2 {g : gG} {ad : Nat → Nat} {mem : Mem} {v : Int32} : (wX g ad mem).set 38 (ad 38, .inr (6, [.ref (ad 39), .int (mem 38 1), .int v])) = wX g ad (up2 mem 38 2 v) := rfl
theorem wX_39 {g : gG} {ad : Nat → Nat} {mem : Mem} : (wX g ad mem)[39]? = some (ad 39, .inl (g.2.1, 12, .inl (mem 39))) := rfl
theorem wX_s39 {g : gG} {ad : Nat → Nat} {mem : Mem} {f : Nat → Int32} : (wX g ad mem).set 39 (ad 39, .inl (g.2.1, 12, .inl f)) = wX g ad (upc mem 39 f) := rfl
theorem wX_40 {g : gG} {ad : Nat → Nat} {mem : Mem} : (wX g ad mem)[40]? = some (ad 40, .inr (6, [.ref (ad 41), .int (mem 40 1), .int (mem 40 2)])) := rfl
theorem wX_s40_1 {g : gG} {ad : Nat → Nat} {mem : Mem} {v : Int32} : (wX g ad mem).set 40 (ad 40, .inr (6, [.ref (ad 41), .int v, .int (mem 40 2)])) = wX g ad (up2 mem 40 1 v) := rfl
theorem wX_s40_2 {g : gG} {ad : Nat → Nat} {mem : Mem} {v : Int32} : (wX g ad mem).set 40 (ad 40, .inr (6, [.ref (ad 41), .int (mem 40 1), .int v])) = wX g ad (up2 mem 40 2 v) := rfl
theorem wX_41 {g : gG} {ad : Nat → Nat} {mem : Mem} : (wX g ad mem)[41]? = some (ad 41, .inl (g.2.1, 12, .inl (mem 41))) := rfl
theorem wX_s41 {g : gG} {ad : Nat → Nat} {mem : Mem} {f : Nat → Int32} : (wX g ad mem).set 41 (ad 41, .inl (g.2.1, 12, .inl f)) = wX g ad (upc mem 41 f) := rfl
theorem wX_42 {g : gG} {ad : Nat → Nat} {mem : Mem} : (wX g ad mem)[42]? = some (ad 42, .inr (6, [.ref (ad 43), .int (mem 42 1), .int (mem 42 2)])) := rfl
theorem wX_s42_1 {g : gG} {ad : Nat → Nat} {mem : Mem} {v : Int32} : (wX g ad mem).set 42 (ad 42, .inr (6, [.ref (ad 43), .int v, .int (mem 42 2)])) = wX g ad (up2 mem 42 1 v) := rfl
theorem wX_s42_2 {g : gG} {ad : Nat → Nat} {mem : Mem} {v : Int32} : (wX g ad mem).set 42 (ad 42, .inr (6, [.ref (ad 43), .int (mem 42 1), .int v])) = wX g ad (up2 mem 42 2 v) := rfl
theorem wX_43 {g : gG} {ad : Nat → Nat} {mem : Mem} : (wX g ad mem)[43]? = some (ad 43, .inl (g.2.1, 12, .inl (mem 43))) := rfl
theorem wX_s43 {g : gG} {ad : Nat → Nat} {mem : Mem} {f : Nat → Int32} : (wX g ad mem).set 43 (ad 43, .inl (g.2.1, 12, .inl f)) = wX g ad (upc mem 43 f) := rfl
theorem wX_fst {g : gG} {ad : Nat → Nat} {mem : Mem} : (wX g ad mem).map Prod.fst = (List.range 44).map ad := rfl
theorem wX_D {g : gG} {ad : Nat → Nat} {mem : Mem} (h : Apt 44 ad) : va_D (AW 44 ad) (wX g ad mem) := wD_of wX_fst h
def wM (g : gG) (ad : Nat → Nat) (mem : Mem) : va_W := [(ad 0, .inr (9, [.int (mem 0 0), .ref (ad 1), .ref (ad 2), .ref (ad 3), .ref (ad 4), .ref (ad 5), .int (mem 0 6), .ref (ad 6), .ref (ad 7), .int (mem 0 9), .ref (ad 8), .int (mem 0 11), .int (mem 0 12), .ref (ad 9), .ref (ad 10), .ref (ad 11), .ref (ad 12), .ref (ad 13), .int (mem 0 18), .ref (ad 14), .int (mem 0 20), .int (mem 0 21), .ref (ad 15), .ref (ad 16), .ref (ad 17), .int (mem 0 25), .ref (ad 18), .ref (ad 19), .ref (ad 20), .ref (ad 21), .ref (ad 22), .int (mem 0 31), .ref (ad 23), .int (mem 0 33), .ref (ad 24), .ref (ad 25), .ref (ad 26), .ref (ad 27), .ref (ad 28)])), (ad 1, .inl (g.2.1, 10, .inl (mem 1))), (ad 2, .inl (g.2.1, 10, .inl (mem 2))), (ad 3, .inl (g.2.2.1, 10, .inl (mem 3))), (ad 4, .inl (g.2.1, 10, .inl (mem 4))), (ad 5, .inl (g.2.1, 10, .inl (mem 5))), (ad 6, .inl (g.2.1, 20, .inl (mem 6))), (ad 7, .inl (g.2.1, 20, .inl (mem 7))), (ad 8, .inl (g.2.1, 6, .inl (mem 8))), (ad 9, .inl (g.2.1, 5, .inl (mem 9))), (ad 10, .inl (g.2.1, 5, .inl (mem 10))), (ad 11, .inl (g.2.1, 5, .inl (mem 11))), (ad 12, .inl (g.2.1, 5, .inl (mem 12))), (ad 13, .inl (g.2.1, 3, .inl (mem 13))), (ad 14, .inl (g.2.1, 10, .inl (mem 14))), (ad 15, .inl (g.2.1, 100, .inl (mem 15))), (ad 16, .inl (g.2.1, 100, .inl (mem 16))), (ad 17, .inl (g.2.1, 100, .inl (mem 17))), (ad 18, .inl (g.2.1, 41, .inl (mem 18))), (ad 19, .inl (g.2.1, 41, .inl (mem 19))), (ad 20, .inl (g.2.1, 4, .inl (mem 20))), (ad 21, .inl (g.2.1, 4, .inl (mem 21))), (ad 22, .inl (g.2.1, 48, .inl (mem 22))), (ad 23, .inl (g.2.1, 20, .inl (mem 23))), (ad 24, .inl (g.2.1, 20, .inl (mem 24))), (ad 25, .inl (g.2.1, 20, .inl (mem 25))), (ad 26, .inl (g.2.1, 10, .inl (mem 26))), (ad 27, .inl (g.2.1, 10, .inl (mem 27))), (ad 28, .inl (g.2.1, 12, .inl (mem 28)))]
theorem wM_0 {g : gG} {ad : Nat → Nat} {mem : Mem} : (wM g ad mem)[0]? = some (ad 0, .inr (9, [.int (mem 0 0), .ref (ad 1), .ref (ad 2), .ref (ad 3), .ref (ad 4), .ref (ad 5), .int (mem 0 6), .ref (ad 6), .ref (ad 7), .int (mem 0 9), .ref (ad 8), .int (mem 0 11), .int (mem 0 12), .ref (ad 9), .ref (ad 10), .ref (ad 11), .ref (ad 12), .ref (ad 13), .int (mem 0 18), .ref (ad 14), .int (mem 0 20), .int (mem 0 21), .ref (ad 15), .ref (ad 16), .ref (ad 17), .int (mem 0 25), .ref (ad 18), .ref (ad 19), .ref (ad 20), .ref (ad 21), .ref (ad 22), .int (mem 0 31), .ref (ad 23), .int (mem 0 33), .ref (ad 24), .ref (ad 25), .ref (ad 26), .ref (ad 27), .ref (ad 28)])) := rfl
theorem wM_s0_0 {g : gG} {ad : Nat → Nat} {mem : Mem} {v : Int32} : (wM g ad mem).set 0 (ad 0, .inr (9, [.int v, .ref (ad 1), .ref (ad 2), .ref (ad 3), .ref (ad 4), .ref (ad 5), .int (mem 0 6), .ref (ad 6), .ref (ad 7), .int (mem 0 9), .ref (ad 8), .int (mem 0 11), .int (mem 0 12), .ref (ad 9), .ref (ad 10), .ref (ad 11), .ref (ad 12), .ref (ad 13), .int (mem 0 18), .ref (ad 14), .int (mem 0 20), .int (mem 0 21), .ref (ad 15), .ref (ad 16), .ref (ad 17), .int (mem 0 25), .ref (ad 18), .ref (ad 19), .ref (ad 20), .ref (ad 21), .ref (ad 22), .int (mem 0 31), .ref (ad 23), .int (mem 0 33), .ref (ad 24), .ref (ad 25), .ref (ad 26), .ref (ad 27), .ref (ad 28)])) = wM g ad (up2 mem 0 0 v) := rfl
theorem wM_s0_6 {g : gG} {ad : Nat → Nat} {mem : Mem} {v : Int32} : (wM g ad mem).set 0 (ad 0, .inr (9, [.int (mem 0 0), .ref (ad 1), .ref (ad 2), .ref (ad 3), .ref (ad 4), .ref (ad 5), .int v, .ref (ad 6), .ref (ad 7), .int (mem 0 9), .ref (ad 8), .int (mem 0 11), .int (mem 0 12), .ref (ad 9), .ref (ad 10), .ref (ad 11), .ref (ad 12), .ref (ad 13), .int (mem 0 18), .ref (ad 14), .int (mem 0 20), .int (mem 0 21), .ref (ad 15), .ref (ad 16), .ref (ad 17), .int (mem 0 25), .ref (ad 18), .ref (ad 19), .ref (ad 20), .ref (ad 21), .ref (ad 22), .int (mem 0 31), .ref (ad 23), .int (mem 0 33), .ref (ad 24), .ref (ad 25), .ref (ad 26), .ref (ad 27), .ref (ad 28)])) = wM g ad (up2 mem 0 6 v) := rfl
theorem wM_s0_9 {g : gG} {ad : Nat → Nat} {mem : Mem} {v : Int32} : (wM g ad mem).set 0 (ad 0, .inr (9, [.int (mem 0 0), .ref (ad 1), .ref (ad 2), .ref (ad 3), .ref (ad 4), .ref (ad 5), .int (mem 0 6), .ref (ad 6), .ref (ad 7), .int v, .ref (ad 8), .int (mem 0 11), .int (mem 0 12), .ref (ad 9), .ref (ad 10), .ref (ad 11), .ref (ad 12), .ref (ad 13), .int (mem 0 18), .ref (ad 14), .int (mem 0 20), .int (mem 0 21), .ref (ad 15), .ref (ad 16), .ref (ad 17), .int (mem 0 25), .ref (ad 18), .ref (ad 19), .ref (ad 20), .ref (ad 21), .ref (ad 22), .int (mem 0 31), .ref (ad 23), .int (mem 0 33), .ref (ad 24), .ref (ad 25), .ref (ad 26), .ref (ad 27), .ref (ad 28)])) = wM g ad (up2 mem 0 9 v) := rfl
theorem wM_s0_11 {g : gG} {ad : Nat → Nat} {mem : Mem} {v : Int32} : (wM g ad mem).set 0 (ad 0, .inr (9, [.int (mem 0 0), .ref (ad 1), .ref (ad 2), .ref (ad 3), .ref (ad 4), .ref (ad 5), .int (mem 0 6), .ref (ad 6), .ref (ad 7), .int (mem 0 9), .ref (ad 8), .int v, .int (mem 0 12), .ref (ad 9), .ref (ad 10), .ref (ad 11), .ref (ad 12), .ref (ad 13), .int (mem 0 18), .ref (ad 14), .int (mem 0 20), .int (mem 0 21), .ref (ad 15), .ref (ad 16), .ref (ad 17), .int (mem 0 25), .ref (ad 18), .ref (ad 19), .ref (ad 20), .ref (ad 21), .ref (ad 22), .int (mem 0 31), .ref (ad 23), .int (mem 0 33), .ref (ad 24), .ref (ad 25), .ref (ad 26), .ref (ad 27), .ref (ad 28)])) = wM g ad (up2 mem 0 11 v) := rfl
theorem wM_s0_12 {g : gG} {ad : Nat → Nat} {mem : Mem} {v : Int32} : (wM g ad mem).set 0 (ad 0, .inr (9, [.int (mem 0 0), .ref (ad 1), .ref (ad 2), .ref (ad 3), .ref (ad 4), .ref (ad 5), .int (mem 0 6), .ref (ad 6), .ref (ad 7), .int (mem 0 9), .ref (ad 8), .int (mem 0 11), .int v, .ref (ad 9), .ref (ad 10), .ref (ad 11), .ref (ad 12), .ref (ad 13), .int (mem 0 18), .ref (ad 14), .int (mem 0 20), .int (mem 0 21), .ref (ad 15), .ref (ad 16), .ref (ad 17), .int (mem 0 25), .ref (ad 18), .ref (ad 19), .ref (ad 20), .ref (ad 21), .ref (ad 22), .int (mem 0 31), .ref (ad 23), .int (mem 0 33), .ref (ad 24), .ref (ad 25), .ref (ad 26), .ref (ad 27), .ref (ad 28)])) = wM g ad (up2 mem 0 12 v) := rfl
theorem wM_s0_18 {g : gG} {ad : Nat → Nat} {mem : Mem} {v : Int32} : (wM g ad mem).set 0 (ad 0, .inr (9, [.int (mem 0 0), .ref (ad 1), .ref (ad 2), .ref (ad 3), .ref (ad 4), .ref (ad 5), .int (mem 0 6), .ref (ad 6), .ref (ad 7), .int (mem 0 9), .ref (ad 8), .int (mem 0 11), .int (mem 0 12), .ref (ad 9), .ref (ad 10), .ref (ad 11), .ref (ad 12), .ref (ad 13), .int v, .ref (ad 14), .int (mem 0 20), .int (mem 0 21), .ref (ad 15), .ref (ad 16), .ref (ad 17), .int (mem 0 25), .ref (ad 18), .ref (ad 19), .ref (ad 20), .ref (ad 21), .ref (ad 22), .int (mem 0 31), .ref (ad 23), .int (mem 0 33), .ref (ad 24), .ref (ad 25), .ref (ad 26), .ref (ad 27), .ref (ad 28)])) = wM g ad (up2 mem 0 18 v) := rfl
theorem wM_s0_20 {g : gG} {ad : Nat → Nat} {mem : Mem} {v : Int32} : (wM g ad mem).set 0 (ad 0, .inr (9, [.int (mem 0 0), .ref (ad 1), .ref (ad 2), .ref (ad 3), .ref (ad 4), .ref (ad 5), .int (mem 0 6), .ref (ad 6), .ref (ad 7), .int (mem 0 9), .ref (ad 8), .int (mem 0 11), .int (mem 0 12), .ref (ad 9), .ref (ad 10), .ref (ad 11), .ref (ad 12), .ref (ad 13), .int (mem 0 18), .ref (ad 14), .int v, .int (mem 0 21), .ref (ad 15), .ref (ad 16), .ref (ad 17), .int (mem 0 25), .ref (ad 18), .ref (ad 19), .ref (ad 20), .ref (ad 21), .ref (ad 22), .int (mem 0 31), .ref (ad 23), .int (mem 0 33), .ref (ad 24), .ref (ad 25), .ref (ad 26), .ref (ad 27), .ref (ad 28)])) = wM g ad (up2 mem 0 20 v) := rfl
theorem wM_s0_21 {g : gG} {ad : Nat → Nat} {mem : Mem} {v : Int32} : (wM g ad mem).set 0 (ad 0, .inr (9, [.int (mem 0 0), .ref (ad 1), .ref (ad 2), .ref (ad 3), .ref (ad 4), .ref (ad 5), .int (mem 0 6), .ref (ad 6), .ref (ad 7), .int (mem 0 9), .ref (ad 8), .int (mem 0 11), .int (mem 0 12), .ref (ad 9), .ref (ad 10), .ref (ad 11), .ref (ad 12), .ref (ad 13), .int (mem 0 18), .ref (ad 14), .int (mem 0 20), .int v, .ref (ad 15), .ref (ad 16), .ref (ad 17), .int (mem 0 25), .ref (ad 18), .ref (ad 19), .ref (ad 20), .ref (ad 21), .ref (ad 22), .int (mem 0 31), .ref (ad 23), .int (mem 0 33), .ref (ad 24), .ref (ad 25), .ref (ad 26), .ref (ad 27), .ref (ad 28)])) = wM g ad (up2 mem 0 21 v) := rfl
theorem wM_s0_25 {g : gG} {ad : Nat → Nat} {mem : Mem} {v : Int32} : (wM g ad mem).set 0 (ad 0, .inr (9, [.int (mem 0 0), .ref (ad 1), .ref (ad 2), .ref (ad 3), .ref (ad 4), .ref (ad 5), .int (mem 0 6), .ref (ad 6), .ref (ad 7), .int (mem 0 9), .ref (ad 8), .int (mem 0 11), .int (mem 0 12), .ref (ad 9), .ref (ad 10), .ref (ad 11), .ref (ad 12), .ref (ad 13), .int (mem 0 18), .ref (ad 14), .int (mem 0 20), .int (mem 0 21), .ref (ad 15), .ref (ad 16), .ref (ad 17), .int v, .ref (ad 18), .ref (ad 19), .ref (ad 20), .ref (ad 21), .ref (ad 22), .int (mem 0 31), .ref (ad 23), .int (mem 0 33), .ref (ad 24), .ref (ad 25), .ref (ad 26), .ref (ad 27), .ref (ad 28)])) = wM g ad (up2 mem 0 25 v) := rfl
theorem wM_s0_31 {g : gG} {ad : Nat → Nat} {mem : Mem} {v : Int32} : (wM g ad mem).set 0 (ad 0, .inr (9, [.int (mem 0 0), .ref (ad 1), .ref (ad 2), .ref (ad 3), .ref (ad 4), .ref (ad 5), .int (mem 0 6), .ref (ad 6), .ref (ad 7), .int (mem 0 9), .ref (ad 8), .int (mem 0 11), .int (mem 0 12), .ref (ad 9), .ref (ad 10), .ref (ad 11), .ref (ad 12), .ref (ad 13), .int (mem 0 18), .ref (ad 14), .int (mem 0 20), .int (mem 0 21), .ref (ad 15), .ref (ad 16), .ref (ad 17), .int (mem 0 25), .ref (ad 18), .ref (ad 19), .ref (ad 20), .ref (ad 21), .ref (ad 22), .int v, .ref (ad 23), .int (mem 0 33), .ref (ad 24), .ref (ad 25), .ref (ad 26), .ref (ad 27), .ref (ad 28)])) = wM g ad (up2 mem 0 31 v) := rfl
theorem wM_s0_33 {g : gG} {ad : Nat → Nat} {mem : Mem} {v : Int32} : (wM g ad mem).set 0 (ad 0, .inr (9, [.int (mem 0 0), .ref (ad 1), .ref (ad 2), .ref (ad 3), .ref (ad 4), .ref (ad 5), .int (mem 0 6), .ref (ad 6), .ref (ad 7), .int (mem 0 9), .ref (ad 8), .int (mem 0 11), .int (mem 0 12), .ref (ad 9), .ref (ad 10), .ref (ad 11), .ref (ad 12), .ref (ad 13), .int (mem 0 18), .ref (ad 14), .int (mem 0 20), .int (mem 0 21), .ref (ad 15), .ref (ad 16), .ref (ad 17), .int (mem 0 25), .ref (ad 18), .ref (ad 19), .ref (ad 20), .ref (ad 21), .ref (ad 22), .int (mem 0 31), .ref (ad 23), .int v, .ref (ad 24), .ref (ad 25), .ref (ad 26), .ref (ad 27), .ref (ad 28)])) = wM g ad (up2 mem 0 33 v) := rfl
theorem wM_1 {g : gG} {ad : Nat → Nat} {mem : Mem} : (wM g ad mem)[1]? = some (ad 1, .inl (g.2.1, 10, .inl (mem 1))) := rfl
theorem wM_s1 {g : gG} {ad : Nat → Nat} {mem : Mem} {f : Nat → Int32} : (wM g ad mem).set 1 (ad 1, .inl (g.2.1, 10, .inl f)) = wM g ad (upc mem 1 f) := rfl
theorem wM_2 {g : gG} {ad : Nat → Nat} {mem : Mem} : (wM g ad mem)[2]? = some (ad 2, .inl (g.2.1, 10, .inl (mem 2))) := rfl
theorem wM_s2 {g : gG} {ad : Nat → Nat} {mem : Mem} {f : Nat → Int32} : (wM g ad mem).set 2 (ad 2, .inl (g.2.1, 10, .inl f)) = wM g ad (upc mem 2 f) := rfl
theorem wM_3 {g : gG} {ad : Nat → Nat} {mem : Mem} : (wM g ad mem)[3]? = some (ad 3, .inl (g.2.2.1, 10, .inl (mem 3))) := rfl
theorem wM_s3 {g : gG} {ad : Nat → Nat} {mem : Mem} {f : Nat → Int32} : (wM g ad mem).set 3 (ad 3, .inl (g.2.2.1, 10, .inl f)) = wM g ad (upc mem 3 f) := rfl
theorem wM_4 {g : gG} {ad : Nat → Nat} {mem : Mem} : (wM g ad mem)[4]? = some (ad 4, .inl (g.2.1, 10, .inl (mem 4))) := rfl
theorem wM_s4 {g : gG} {ad : Nat → Nat} {mem : Mem} {f : Nat → Int32} : (wM g ad mem).set 4 (ad 4, .inl (g.2.1, 10, .inl f)) = wM g ad (upc mem 4 f) := rfl
theorem wM_5 {g : gG} {ad : Nat → Nat} {mem : Mem} : (wM g ad mem)[5]? = some (ad 5, .inl (g.2.1, 10, .inl (mem 5))) := rfl
theorem wM_s5 {g : gG} {ad : Nat → Nat} {mem : Mem} {f : Nat → Int32} : (wM g ad mem).set 5 (ad 5, .inl (g.2.1, 10, .inl f)) = wM g ad (upc mem 5 f) := rfl
theorem wM_6 {g : gG} {ad : Nat → Nat} {mem : Mem} : (wM g ad mem)[6]? = some (ad 6, .inl (g.2.1, 20, .inl (mem 6))) := rfl
theorem wM_s6 {g : gG} {ad : Nat → Nat} {mem : Mem} {f : Nat → Int32} : (wM g ad mem).set 6 (ad 6, .inl (g.2.1, 20, .inl f)) = wM g ad (upc mem 6 f) := rfl
theorem wM_7 {g : gG} {ad : Nat → Nat} {mem : Mem} : (wM g ad mem)[7]? = some (ad 7, .inl (g.2.1, 20, .inl (mem 7))) := rfl
theorem wM_s7 {g : gG} {ad : Nat → Nat} {mem : Mem} {f : Nat → Int32} : (wM g ad mem).set 7 (ad 7, .inl (g.2.1, 20, .inl f)) = wM g ad (upc mem 7 f) := rfl
theorem wM_8 {g : gG} {ad : Nat → Nat} {mem : Mem} : (wM g ad mem)[8]? = some (ad 8, .inl (g.2.1, 6, .inl (mem 8))) := rfl
theorem wM_s8 {g : gG} {ad : Nat → Nat} {mem : Mem} {f : Nat → Int32} : (wM g ad mem).set 8 (ad 8, .inl (g.2.1, 6, .inl f)) = wM g ad (upc mem 8 f) := rfl
theorem wM_9 {g : gG} {ad : Nat → Nat} {mem : Mem} : (wM g ad mem)[9]? = some (ad 9, .inl (g.2.1, 5, .inl (mem 9))) := rfl
theorem wM_s9 {g : gG} {ad : Nat → Nat} {mem : Mem} {f : Nat → Int32} : (wM g ad mem).set 9 (ad 9, .inl (g.2.1, 5, .inl f)) = wM g ad (upc mem 9 f) := rfl
theorem wM_10 {g : gG} {ad : Nat → Nat} {mem : Mem} : (wM g ad mem)[10]? = some (ad 10, .inl (g.2.1, 5, .inl (mem 10))) := rfl
theorem wM_s10 {g : gG} {ad : Nat → Nat} {mem : Mem} {f : Nat → Int32} : (wM g ad mem).set 10 (ad 10, .inl (g.2.1, 5, .inl f)) = wM g ad (upc mem 10 f) := rfl
theorem wM_11 {g : gG} {ad : Nat → Nat} {mem : Mem} : (wM g ad mem)[11]? = some (ad 11, .inl (g.2.1, 5, .inl (mem 11))) := rfl
theorem wM_s11 {g : gG} {ad : Nat → Nat} {mem : Mem} {f : Nat → Int32} : (wM g ad mem).set 11 (ad 11, .inl (g.2.1, 5, .inl f)) = wM g ad (upc mem 11 f) := rfl
theorem wM_12 {g : gG} {ad : Nat → Nat} {mem : Mem} : (wM g ad mem)[12]? = some (ad 12, .inl (g.2.1, 5, .inl (mem 12))) := rfl
theorem wM_s12 {g : gG} {ad : Nat → Nat} {mem : Mem} {f : Nat → Int32} : (wM g ad mem).set 12 (ad 12, .inl (g.2.1, 5, .inl f)) = wM g ad (upc mem 12 f) := rfl
theorem wM_13 {g : gG} {ad : Nat → Nat} {mem : Mem} : (wM g ad mem)[13]? = some (ad 13, .inl (g.2.1, 3, .inl (mem 13))) := rfl
theorem wM_s13 {g : gG} {ad : Nat → Nat} {mem : Mem} {f : Nat → Int32} : (wM g ad mem).set 13 (ad 13, .inl (g.2.1, 3, .inl f)) = wM g ad (upc mem 13 f) := rfl
theorem wM_14 {g : gG} {ad : Nat → Nat} {mem : Mem} : (wM g ad mem)[14]? = some (ad 14, .inl (g.2.1, 10, .inl (mem 14))) := rfl
theorem wM_s14 {g : gG} {ad : Nat → Nat} {mem : Mem} {f : Nat → Int32} : (wM g ad mem).set 14 (ad 14, .inl (g.2.1, 10, .inl f)) = wM g ad (upc mem 14 f) := rfl
theorem wM_15 {g : gG} {ad : Nat → Nat} {mem : Mem} : (wM g ad mem)[15]? = some (ad 15, .inl (g.2.1, 100, .inl (mem 15))) := rfl
theorem wM_s15 {g : gG} {ad : Nat → Nat} {mem : Mem} {f : Nat → Int32} : (wM g ad mem).set 15 (ad 15, .inl (g.2.1, 100, .inl f)) = wM g ad (upc mem 15 f) := rfl
theorem wM_16 {g : gG} {ad : Nat → Nat} {mem : Mem} : (wM g ad mem)[16]? = some (ad 16, .inl (g.2.1, 100, .inl (mem 16))) := rfl
theorem wM_s16 {g : gG} {ad : Nat → Nat} {mem : Mem} {f : Nat → Int32} : (wM g ad mem).set 16 (ad 16, .inl (g.2.1, 100, .inl f)) = wM g ad (upc mem 16 f) := rfl
theorem wM_17 {g : gG} {ad : Nat → Nat} {mem : Mem} : (wM g ad mem)[17]? = some (ad 17, .inl (g.2.1, 100, .inl (mem 17))) := rfl
theorem wM_s17 {g : gG} {ad : Nat → Nat} {mem : Mem} {f : Nat → Int32} : (wM g ad mem).set 17 (ad 17, .inl (g.2.1, 100, .inl f)) = wM g ad (upc mem 17 f) := rfl
theorem wM_18 {g : gG} {ad : Nat → Nat} {mem : Mem} : (wM g ad mem)[18]? = some (ad 18, .inl (g.2.1, 41, .inl (mem 18))) := rfl
theorem wM_s18 {g : gG} {ad : Nat → Nat} {mem : Mem} {f : Nat → Int32} : (wM g ad mem).set 18 (ad 18, .inl (g.2.1, 41, .inl f)) = wM g ad (upc mem 18 f) := rfl
theorem wM_19 {g : gG} {ad : Nat → Nat} {mem : Mem} : (wM g ad mem)[19]? = some (ad 19, .inl (g.2.1, 41, .inl (mem 19))) := rfl
theorem wM_s19 {g : gG} {ad : Nat → Nat} {mem : Mem} {f : Nat → Int32} : (wM g ad mem).set 19 (ad 19, .inl (g.2.1, 41, .inl f)) = wM g ad (upc mem 19 f) := rfl
theorem wM_20 {g : gG} {ad : Nat → Nat} {mem : Mem} : (wM g ad mem)[20]? = some (ad 20, .inl (g.2.1, 4, .inl (mem 20))) := rfl
theorem wM_s20 {g : gG} {ad : Nat → Nat} {mem : Mem} {f : Nat → Int32} : (wM g ad mem).set 20 (ad 20, .inl (g.2.1, 4, .inl f)) = wM g ad (upc mem 20 f) := rfl
theorem wM_21 {g : gG} {ad : Nat → Nat} {mem : Mem} : (wM g ad mem)[21]? = some (ad 21, .inl (g.2.1, 4, .inl (mem 21))) := rfl
theorem wM_s21 {g : gG} {ad : Nat → Nat} {mem : Mem} {f : Nat → Int32} : (wM g ad mem).set 21 (ad 21, .inl (g.2.1, 4, .inl f)) = wM g ad (upc mem 21 f) := rfl
theorem wM_22 {g : gG} {ad : Nat → Nat} {mem : Mem} : (wM g ad mem)[22]? = some (ad 22, .inl (g.2.1, 48, .inl (mem 22))) := rfl
theorem wM_s22 {g : gG} {ad : Nat → Nat} {mem : Mem} {f : Nat → Int32} : (wM g ad mem).set 22 (ad 22, .inl (g.2.1, 48, .inl f)) = wM g ad (upc mem 22 f) := rfl
theorem wM_23 {g : gG} {ad : Nat → Nat} {mem : Mem} : (wM g ad mem)[23]? = some (ad 23, .inl (g.2.1, 20, .inl (mem 23))) := rfl
theorem wM_s23 {g : gG} {ad : Nat → Nat} {mem : Mem} {f : Nat → Int32} : (wM g ad mem).set 23 (ad 23, .inl (g.2.1, 20, .inl f)) = wM g ad (upc mem 23 f) := rfl
theorem wM_24 {g : gG} {ad : Nat → Nat} {mem : Mem} : (wM g ad mem)[24]? = some (ad 24, .inl (g.2.1, 20, .inl (mem 24))) := rfl
theorem wM_s24 {g : gG} {ad : Nat → Nat} {mem : Mem} {f : Nat → Int32} : (wM g ad mem).set 24 (ad 24, .inl (g.2.1, 20, .inl f)) = wM g ad (upc mem 24 f) := rfl
theorem wM_25 {g : gG} {ad : Nat → Nat} {mem : Mem} : (wM g ad mem)[25]? = some (ad 25, .inl (g.2.1, 20, .inl (mem 25))) := rfl
theorem wM_s25 {g : gG} {ad : Nat → Nat} {mem : Mem} {f : Nat → Int32} : (wM g ad mem).set 25 (ad 25, .inl (g.2.1, 20, .inl f)) = wM g ad (upc mem 25 f) := rfl
theorem wM_26 {g : gG} {ad : Nat → Nat} {mem : Mem} : (wM g ad mem)[26]? = some (ad 26, .inl (g.2.1, 10, .inl (mem 26))) := rfl
theorem wM_s26 {g : gG} {ad : Nat → Nat} {mem : Mem} {f : Nat → Int32} : (wM g ad mem).set 26 (ad 26, .inl (g.2.1, 10, .inl f)) = wM g ad (upc mem 26 f) := rfl
theorem wM_27 {g : gG} {ad : Nat → Nat} {mem : Mem} : (wM g ad mem)[27]? = some (ad 27, .inl (g.2.1, 10, .inl (mem 27))) := rfl
theorem wM_s27 {g : gG} {ad : Nat → Nat} {mem : Mem} {f : Nat → Int32} : (wM g ad mem).set 27 (ad 27, .inl (g.2.1, 10, .inl f)) = wM g ad (upc mem 27 f) := rfl
theorem wM_28 {g : gG} {ad : Nat → Nat} {mem : Mem} : (wM g ad mem)[28]? = some (ad 28, .inl (g.2.1, 12, .inl (mem 28))) := rfl
theorem wM_s28 {g : gG} {ad : Nat → Nat} {mem : Mem} {f : Nat → Int32} : (wM g ad mem).set 28 (ad 28, .inl (g.2.1, 12, .inl f)) = wM g ad (upc mem 28 f) := rfl
theorem wM_fst {g : gG} {ad : Nat → Nat} {mem : Mem} : (wM g ad mem).map Prod.fst = (List.range 29).map ad := rfl
theorem wM_D {g : gG} {ad : Nat → Nat} {mem : Mem} (h : Apt 29 ad) : va_D (AW 29 ad) (wM g ad mem) := wD_of wM_fst h
abbrev isSt (k : Nat) : Prop := k = 5 ∨ k = 11
theorem wX_St {g : gG} {ad : Nat → Nat} {mem : Mem} {k : Nat} (hk : isSt k) : (wX g ad mem)[k]? = some (ad k, .inr (7, [.ref (ad 1), .ref (ad (k + 1)), .ref (ad (k + 2)), .ref (ad (k + 3)), .ref (ad (k + 4)), .ref (ad (k + 5)), .int (mem k 6), .int (mem k 7)])) := by
  rcases hk with rfl | rfl <;> rfl
theorem wX_St_1 {g : gG} {ad : Nat → Nat} {mem : Mem} {k : Nat} (hk : isSt k) : (wX g ad mem)[k + 1]? = some (ad (k + 1), .inl (g.2.1, 20, .inl (mem (k + 1)))) := by
  rcases hk with rfl | rfl <;> rfl
theorem wX_St_s1 {g : gG} {ad : Nat → Nat} {mem : Mem} {k : Nat} {f : Nat → Int32} (hk : isSt k) : (wX g ad mem).set (k + 1) (ad (k + 1), .inl (g.2.1, 20, .inl f)) = wX g ad (upc mem (k + 1) f) := by
  rcases hk with rfl | rfl <;> rfl
theorem wX_St_2 {g : gG} {ad : Nat → Nat} {mem : Mem} {k : Nat} (hk : isSt k) : (wX g ad mem)[k + 2]? = some (ad (k + 2), .inl (g.2.1, 20, .inl (mem (k + 2)))) := by
  rcases hk with rfl | rfl <;> rfl
theorem wX_St_s2 {g : gG} {ad : Nat → Nat} {mem : Mem} {k : Nat} {f : Nat → Int32} (hk : isSt k) : (wX g ad mem).set (k + 2) (ad (k + 2), .inl (g.2.1, 20, .inl f)) = wX g ad (upc mem (k + 2) f) := by
  rcases hk with rfl | rfl <;> rfl
theorem wX_St_3 {g : gG} {ad : Nat → Nat} {mem : Mem} {k : Nat} (hk : isSt k) : (wX g ad mem)[k + 3]? = some (ad (k + 3), .inl (g.2.1, 10, .inl (mem (k + 3)))) := by
  rcases hk with rfl | rfl <;> rfl
theorem wX_St_s3 {g : gG} {ad : Nat → Nat} {mem : Mem} {k : Nat} {f : Nat → Int32} (hk : isSt k) : (wX g ad mem).set (k + 3) (ad (k + 3), .inl (g.2.1, 10, .inl f)) = wX g ad (upc mem (k + 3) f) := by
  rcases hk with rfl | rfl <;> rfl
theorem wX_St_4 {g : gG} {ad : Nat → Nat} {mem : Mem} {k : Nat} (hk : isSt k) : (wX g ad mem)[k + 4]? = some (ad (k + 4), .inl (g.2.1, 10, .inl (mem (k + 4)))) := by
  rcases hk with rfl | rfl <;> rfl
theorem wX_St_s4 {g : gG} {ad : Nat → Nat} {mem : Mem} {k : Nat} {f : Nat → Int32} (hk : isSt k) : (wX g ad mem).set (k + 4) (ad (k + 4), .inl (g.2.1, 10, .inl f)) = wX g ad (upc mem (k + 4) f) := by
  rcases hk with rfl | rfl <;> rfl
theorem wX_St_5 {g : gG} {ad : Nat → Nat} {mem : Mem} {k : Nat} (hk : isSt k) : (wX g ad mem)[k + 5]? = some (ad (k + 5), .inl (g.2.1, 5, .inl (mem (k + 5)))) := by
  rcases hk with rfl | rfl <;> rfl
theorem wX_St_s5 {g : gG} {ad : Nat → Nat} {mem : Mem} {k : Nat} {f : Nat → Int32} (hk : isSt k) : (wX g ad mem).set (k + 5) (ad (k + 5), .inl (g.2.1, 5, .inl f)) = wX g ad (upc mem (k + 5) f) := by
  rcases hk with rfl | rfl <;> rfl
theorem wX_St_s_6 {g : gG} {ad : Nat → Nat} {mem : Mem} {k : Nat} {v : Int32} (hk : isSt k) : (wX g ad mem).set k (ad k, .inr (7, [.ref (ad 1), .ref (ad (k + 1)), .ref (ad (k + 2)), .ref (ad (k + 3)), .ref (ad (k + 4)), .ref (ad (k + 5)), .int v, .int (mem k 7)])) = wX g ad (up2 mem k 6 v) := by
  rcases hk with rfl | rfl <;> rfl
theorem wX_St_s_7 {g : gG} {ad : Nat → Nat} {mem : Mem} {k : Nat} {v : Int32} (hk : isSt k) : (wX g ad mem).set k (ad k, .inr (7, [.ref (ad 1), .ref (ad (k + 1)), .ref (ad (k + 2)), .ref (ad (k + 3)), .ref (ad (k + 4)), .ref (ad (k + 5)), .int (mem k 6), .int v])) = wX g ad (up2 mem k 7 v) := by
  rcases hk with rfl | rfl <;> rfl
abbrev isSh (k : Nat) : Prop := k = 36 ∨ k = 38 ∨ k = 40 ∨ k = 42
theorem wX_Sh {g : gG} {ad : Nat → Nat} {mem : Mem} {k : Nat} (hk : isSh k) : (wX g ad mem)[k]? = some (ad k, .inr (6, [.ref (ad (k + 1)), .int (mem k 1), .int (mem k 2)])) := by
  rcases hk with rfl | rfl | rfl | rfl <;> rfl
theorem wX_Sh_1 {g : gG} {ad : Nat → Nat} {mem : Mem} {k : Nat} (hk : isSh k) : (wX g ad mem)[k + 1]? = some (ad (k + 1), .inl (g.2.1, 12, .inl (mem (k + 1)))) := by
  rcases hk with rfl | rfl | rfl | rfl <;> rfl
theorem wX_Sh_s1 {g : gG} {ad : Nat → Nat} {mem : Mem} {k : Nat} {f : Nat → Int32} (hk : isSh k) : (wX g ad mem).set (k + 1) (ad (k + 1), .inl (g.2.1, 12, .inl f)) = wX g ad (upc mem (k + 1) f) := by
  rcases hk with rfl | rfl | rfl | rfl <;> rfl
theorem wX_Sh_s_1 {g : gG} {ad : Nat → Nat} {mem : Mem} {k : Nat} {v : Int32} (hk : isSh k) : (wX g ad mem).set k (ad k, .inr (6, [.ref (ad (k + 1)), .int v, .int (mem k 2)])) = wX g ad (up2 mem k 1 v) := by
  rcases hk with rfl | rfl | rfl | rfl <;> rfl
theorem wX_Sh_s_2 {g : gG} {ad : Nat → Nat} {mem : Mem} {k : Nat} {v : Int32} (hk : isSh k) : (wX g ad mem).set k (ad k, .inr (6, [.ref (ad (k + 1)), .int (mem k 1), .int v])) = wX g ad (up2 mem k 2 v) := by
  rcases hk with rfl | rfl | rfl | rfl <;> rfl

/-- KIND_ABOVE -/
def kab : Nat → Int32 := fun j => if j = 3 then 1 else 0
def eX (g : gG) (ad : Nat → Nat) (tk : Nat) (U : State) : Prop :=
  va_K g.1 vwCl (tyG g) U ∧ (∀ w ∈ nw, va_Nw w U) ∧ Apt 44 ad ∧ va_Z "SpeakHall$Roster" "KIND_ABOVE" "[I" (.ref tk) (AW 44 ad) U U.heap ∧ va_X tk 4 kab U U.heap ∧ ¬ AW 44 ad tk
def eM (g : gG) (ad : Nat → Nat) (U : State) : Prop := va_K g.1 vwCl (tyG g) U ∧ Apt 29 ad
/-- what of a state stays good when the machine goes on, and the heap changes in A alone -/
def Est (A : Nat → Prop) (E : State → Prop) : Prop := ∀ u U : State, u.WarmedH U.vm → u.heap.size ≤ U.heap.size → (∀ q : Nat, q < u.heap.size → ¬ A q → U.heap[q]? = u.heap[q]?) → E u → E U
theorem nw_meth : ∀ w ∈ nw, ∃ a i x h, w = Cond.methodLinkNest a i x h := by
  unfold nw
  simp only [List.forall_mem_cons]
  repeat' first | exact fun _ h => absurd h List.not_mem_nil | refine ⟨⟨_, _, _, _, rfl⟩, ?_⟩
theorem va_X_lt {b L : Nat} {xs : Nat → Int32} {U : State} {H : Heap} (h : va_X b L xs U H) : b < H.size := by
  obtain ⟨scr, h1, -⟩ := h
  exact (Array.getElem?_eq_some_iff.mp h1).1
theorem eX_st {g : gG} {ad : Nat → Nat} {tk : Nat} : Est (AW 44 ad) (eX g ad tk) := by
  intro u U hW hz hq h
  obtain ⟨hK, hN, hA, hZ, hX, ht⟩ := h
  refine ⟨va_K.moved hW.alike hK, fun w hw => ?_, hA, va_Z.moved hW.alike (hZ.kept (fun a h1 h2 => hq a h1 h2)), va_X.moved hW.alike (hX.kept (hq tk (va_X_lt hX) ht)), ht⟩
  obtain ⟨a, i, x, h, rfl⟩ := nw_meth w hw
  exact va_Nw.warmM hW (hN _ hw)
theorem eM_st {g : gG} {ad : Nat → Nat} : Est (AW 29 ad) (eM g ad) := by
  intro u U hW hz hq h
  exact ⟨va_K.moved hW.alike h.1, h.2⟩
/-- contracts: a start over a world, an end that leaves the heap, an end with a new world -/
def pG (w : va_W) (E : State → Prop) (g : gG) (av : List Value) : Array Value → State → Prop := fun v U => v = av.toArray ∧ va_P g.1 vwCl w U.heap ∧ E U
def qR (rv : Option Value) (ok : Prop) : Array Value → State → Outcome → State → Prop := fun _ st oc t => oc = .returned rv ∧ ok ∧ t.heap = st.heap
def qW (w : va_W) (g : gG) (A : Nat → Prop) (rv : Option Value) (ok : Prop) : Array Value → State → Outcome → State → Prop := fun _ st oc t => oc = .returned rv ∧ ok ∧ va_P g.1 vwCl w t.heap ∧ va_F A st t
def noA : Addr → Prop := fun _ => False
def cxt (E : State → Prop) (cc : ByteArray) (nL : Nat) (own : String) (ret : Option FieldType) (p : Program) (s : State) (m : MethodId) (args : Array Value) (meth : Method) (c : Code) : Prop :=
  p.tables.exec = Jvm.exec ∧ c.code = cc ∧ c.maxLocals = nL ∧ s.vm.findClass own = some m.cls ∧ (∀ w ∈ gw, w.before args s = true) ∧ meth.sig.returnType = ret ∧ meth.locks = false ∧ E s
theorem met_of {l : Launch} {w : va_W} {E : State → Prop} {g : gG} {av : List Value} {y : MethodName} {cc : ByteArray} {nL : Nat} {ret : Option FieldType} {rm : Room} {Qc : Array Value → State → Outcome → State → Prop} {free : Addr → Prop} (hy : plainName y.cls = true) (hav : (lg_sl av).length ≤ nL)
    (body : ∀ (p : Program) (e : Env) (s : State) (m : MethodId) (args : Array Value) (below : List Frame) (meth : Method) (c : Code) (ls : Array Slot), cxt E cc nL y.cls ret p s m args meth c → va_P g.1 vwCl w s.heap → lv_has ls nL (lv_args 0 av) → W p l e rm s m args below meth c s.heap [] 0 0 (MQ below Qc args s 0 0 free) (F0 m 0 ls [])) :
    Met l y (Cond.code y cc nL ret :: gw) rm (pG w E g av) Qc 0 0 free := by
  refine Met.ofW (cc := cc) (maxL := nL) (ret := ret) hy rfl ?_
  intro p e s m args below meth c s₁ B hml hv
  obtain ⟨rfl, hP, hE⟩ := hv
  have hts := atoms_spec (ws := Cond.code y cc nL ret :: gw) B.pre
  rw [lg_entry_eq]
  exact body p e s m _ below meth c _ ⟨B.exec, B.bytes, hml, findClass_of_methodNamed B.named, fun w h => hts w (List.mem_cons_of_mem _ h), B.returns, B.notSynchronized, hE⟩ hP (lv_entry av hav)
def pkV (y : MethodName) (bytes : ByteArray) (maxL : Nat) (ret : Option FieldType) (C : String) (n : Nat) : Prop :=
  Cond.instanceMethod y ∈ gw ∧ Cond.selects C y y ∈ gw ∧ Cond.initialized y.cls ∈ gw ∧ Cond.code y bytes maxL ret ∈ gw ∧ (y.cls ≠ "java/lang/invoke/MethodHandle" ∧ y.cls ≠ "java/lang/invoke/VarHandle" ∧ (parseMethodDescriptor y.desc).map (fun d => d.parameters.length) = some n)
def pkS (y : MethodName) (bytes : ByteArray) (maxL : Nat) (ret : Option FieldType) (n : Nat) : Prop :=
  Cond.static y ∈ gw ∧ Cond.initialized y.cls ∈ gw ∧ Cond.code y bytes maxL ret ∈ gw ∧ (y.cls ≠ "java/lang/invoke/MethodHandle" ∧ y.cls ≠ "java/lang/invoke/VarHandle" ∧ (parseMethodDescriptor y.desc).map (fun d => d.parameters.length) = some n)
theorem gw_goodIn {w : Cond} (h : w ∈ gw) : GoodIn gw (w :: gw) := by
  intro x hx
  have hm : x ∈ gw := (List.mem_cons.mp hx).elim (fun e => e ▸ h) id
  exact ⟨hm, good_of_word (gw_good hm)⟩
theorem pG_blind {A : Nat → Prop} {w : va_W} {E : State → Prop} {g : gG} {av : List Value} (hE : Est A E) : FrameBlind (pG w E g av) := by
  intro a U f mk h
  exact ⟨h.1, h.2.1, hE U (U.calling f mk a) (State.WarmedH.refl U) (Nat.le_refl _) (fun _ _ _ => rfl) h.2.2⟩
section CALLS
variable {p : Program} {l : Launch} {e : Env} {R : Room} {s : State} {m : MethodId} {args : Array Value} {below : List Frame} {meth : Method} {c : Code} {H : Heap} {locs : List Loc} {cells slots : Nat} {Q : State → Prop}
variable {E E' : State → Prop} {A : Nat → Prop} {cc bytes : ByteArray} {nL maxL n index pc : Nat} {own C host : String} {ret ret' : Option FieldType} {g : gG} {w w' : va_W} {y : MethodName} {rm : Room} {As rest st0 : List Value} {b : Nat} {rv : Option Value} {ok : Prop} {ls : Array Slot}
theorem e_at (C0 : cxt E cc nL own ret p s m args meth c) (hE : Est A E) (hS : va_S A s.heap H locs) {U : State} (hU : U.heap = H) (hW : s.WarmedH U.vm) : E U :=
  hE s U hW (by rw [hU]; exact hS.1) (fun q h1 h2 => by rw [hU]; exact hS.2.1 q h1 h2) C0.2.2.2.2.2.2.2
/-- behind a call that leaves the heap -/
theorem go_R {st0 : List Value} (hr : va_Run p l e R s m args below meth c H locs cells slots 0 0 (F0 m pc ls st0) rest (qR rv ok #[]) noA)
    (kk : ok → W p l e R s m args below meth c H locs cells slots Q (F0 m (pc + 3) ls (rv.toList ++ rest))) : W p l e R s m args below meth c H locs cells slots Q (F0 m pc ls st0) := by
  intro T hT X
  obtain ⟨v, st₀, t, T', L, h0, X', hL, e1, e2, ⟨hv, hp, hh⟩, st⟩ := hr T hT X
  cases hv
  obtain ⟨t2, a1, b1⟩ := kk hp T' (by rw [e1, hh, h0]) (Stand.forget X' (fun q h => (hL q h).elim))
  exact ⟨t2, st t2 a1, b1⟩
/-- behind a call with a new world -/
theorem go_W {A1 : Nat → Prop} {st0 : List Value} (hr : va_Run p l e R s m args below meth c H locs cells slots 0 0 (F0 m pc ls st0) rest (qW w' g A1 rv ok #[]) A1) (hS : va_S A s.heap H locs) (hA : ∀ q, A1 q → A q)
    (kk : ∀ (H1 : Heap) (locs1 : List Loc), ok → va_P g.1 vwCl w' H1 → va_S A s.heap H1 locs1 → H.size ≤ H1.size → (∀ q : Nat, q < H.size → ¬ A1 q → H1[q]? = H[q]?) → W p l e R s m args below meth c H1 locs1 cells slots Q (F0 m (pc + 3) ls (rv.toList ++ rest))) : W p l e R s m args below meth c H locs cells slots Q (F0 m pc ls st0) := by
  intro T hT X
  obtain ⟨v, st₀, t, T', L, h0, X', hL, e1, e2, ⟨hv, hp, hPw, hz, hk⟩, st⟩ := hr T hT X
  cases hv
  rw [h0] at hz hk
  rw [← e1] at hz hk hPw
  obtain ⟨t2, a1, b1⟩ := kk T'.heap (locs ++ L) hp hPw ⟨Nat.le_trans hS.1 hz, fun q h1 h2 => by
      rw [hk q (Nat.lt_of_lt_of_le h1 hS.1) (fun z => h2 (hA q z))]; exact hS.2.1 q h1 h2, fun q hq => by
      rcases List.mem_append.mp hq with h | h
      · exact hS.2.2 q h
      · exact hA _ (hL q h)⟩ hz hk T' rfl X'
  exact ⟨t2, st t2 a1, b1⟩
theorem run_V {Qc : State → Outcome → State → Prop} {free : Addr → Prop} (C0 : cxt E cc nL own ret p s m args meth c) (hE' : FrameBlind (pG w E' g (.ref b :: As))) (hP : va_P g.1 vwCl w H) (hU : ∀ U : State, U.heap = H → s.WarmedH U.vm → E' U) (hK : va_K g.1 vwCl (tyG g) s)
    (pk : pkV y bytes maxL ret' C n) (hM : Met l y (Cond.code y bytes maxL ret' :: gw) rm (pG w E' g (.ref b :: As)) (fun _ => Qc) 0 0 free) (hL : Cond.methodLink own index y ∈ gw)
    (hR : rm.cells = 0 ∧ rm.slots = 0 ∧ rm.frames + 1 ≤ R.frames ∧ 8 + (maxL + 11) + rm.locals ≤ R.locals ∧ cells ≤ R.cells ∧ slots ≤ R.slots)
    (q0 : Nat) {ci : Nat} {fs : List Value} {q : vw_C} (he : w[q0]? = some (b, .inr (ci, fs))) (hc : vwCl[ci]? = some q) (hq : q.1 = C) (hn : As.length = n) (hsz : ls.size = nL) (hst : st0 = As.reverse ++ .ref b :: rest) (hcat : (rest.map fun v => v.category).sum ≤ 8)
    (hdg : decode cc pc = .ok (.invokevirtual index, 3)) : va_Run p l e R s m args below meth c H locs cells slots 0 0 (F0 m pc ls st0) rest Qc free := by
  obtain ⟨hx, hb, hml, hown, hts, -⟩ := C0
  obtain ⟨p1, p2, p3, p4, p5⟩ := pk
  obtain ⟨r1, r2, r3, r4, r5, r6⟩ := hR
  subst hq
  exact va_runV (Ts := gw) (As := As) (rest := rest) ⟨hx, hb, hml, hown, hts⟩ hM ⟨callB_of n hts (gw_goodIn p4) rfl r1 r2 (hts _ p3) (hts _ hL) p5 ⟨r3, r4⟩, hts _ p1, hts _ p2⟩
    ⟨hE', va_recv hK hP hc he, fun U hU1 hW => ⟨rfl, by rw [hU1]; exact hP, hU U hU1 hW⟩⟩ rfl hn hsz hst (by show 2 * 0 + _ ≤ 8; omega) hdg ⟨by omega, by omega⟩
theorem run_S {Qc : State → Outcome → State → Prop} {free : Addr → Prop} (C0 : cxt E cc nL own ret p s m args meth c) (hE' : FrameBlind (pG w E' g As)) (hP : va_P g.1 vwCl w H) (hU : ∀ U : State, U.heap = H → s.WarmedH U.vm → E' U)
    (pk : pkS y bytes maxL ret' n) (hM : Met l y (Cond.code y bytes maxL ret' :: gw) rm (pG w E' g As) (fun _ => Qc) 0 0 free) (hL : Cond.methodLink own index y ∈ gw)
    (hR : rm.cells = 0 ∧ rm.slots = 0 ∧ rm.frames + 1 ≤ R.frames ∧ 8 + (maxL + 11) + rm.locals ≤ R.locals ∧ cells ≤ R.cells ∧ slots ≤ R.slots)
    (hn : As.length = n) (hsz : ls.size = nL) (hst : st0 = As.reverse ++ rest) (hcat : (rest.map fun v => v.category).sum ≤ 8)
    (hdg : decode cc pc = .ok (.invokestatic index, 3)) : va_Run p l e R s m args below meth c H locs cells slots 0 0 (F0 m pc ls st0) rest Qc free := by
  obtain ⟨hx, hb, hml, hown, hts, -⟩ := C0
  obtain ⟨p1, p3, p4, p5⟩ := pk
  obtain ⟨r1, r2, r3, r4, r5, r6⟩ := hR
  exact va_runS (Ts := gw) (As := As) (rest := rest) ⟨hx, hb, hml, hown, hts⟩ hM ⟨callB_of n hts (gw_goodIn p4) rfl r1 r2 (hts _ p3) (hts _ hL) p5 ⟨r3, r4⟩, hts _ p1⟩
    ⟨hE', fun U hU1 hW => ⟨rfl, by rw [hU1]; exact hP, hU U hU1 hW⟩⟩ rfl hn hsz hst (by show 2 * 0 + _ ≤ 8; omega) hdg ⟨by omega, by omega⟩
theorem run_N {Qc : State → Outcome → State → Prop} {free : Addr → Prop} (C0 : cxt E cc nL own ret p s m args meth c) (hE' : FrameBlind (pG w E' g As)) (hP : va_P g.1 vwCl w H) (hU : ∀ U : State, U.heap = H → s.WarmedH U.vm → E' U) (hN : ∀ w ∈ nw, va_Nw w s)
    (pk : pkS y bytes maxL ret' n) (hM : Met l y (Cond.code y bytes maxL ret' :: gw) rm (pG w E' g As) (fun _ => Qc) 0 0 free) (hL : Cond.methodLinkNest own index y host ∈ nw)
    (hR : rm.cells = 0 ∧ rm.slots = 0 ∧ rm.frames + 1 ≤ R.frames ∧ 8 + (maxL + 11) + rm.locals ≤ R.locals ∧ cells ≤ R.cells ∧ slots ≤ R.slots)
    (hn : As.length = n) (hsz : ls.size = nL) (hst : st0 = As.reverse ++ rest) (hcat : (rest.map fun v => v.category).sum ≤ 8)
    (hdg : decode cc pc = .ok (.invokestatic index, 3)) : va_Run p l e R s m args below meth c H locs cells slots 0 0 (F0 m pc ls st0) rest Qc free := by
  obtain ⟨hx, hb, hml, hown, hts, -⟩ := C0
  obtain ⟨p1, p3, p4, p5⟩ := pk
  obtain ⟨r1, r2, r3, r4, r5, r6⟩ := hR
  exact va_runSN (Ts := gw) (As := As) (rest := rest) ⟨hx, hb, hml, hown, hts⟩ hM ⟨va_cnB n hts (gw_goodIn p4) rfl r1 r2 (hN _ hL) (hts _ p3) p5 ⟨r3, r4⟩, hts _ p1, trivial⟩
    ⟨hE', fun U hU1 hW => ⟨rfl, by rw [hU1]; exact hP, hU U hU1 hW⟩⟩ rfl hn hsz hst (by show 2 * 0 + _ ≤ 8; omega) hdg ⟨by omega, by omega⟩
/-- invokevirtual of a method over the same world: it leaves the heap -/
theorem cV_R (C0 : cxt E cc nL own ret p s m args meth c) (hE : Est A E) (hP : va_P g.1 vwCl w H) (hS : va_S A s.heap H locs) (hK : va_K g.1 vwCl (tyG g) s)
    (pk : pkV y bytes maxL ret' C n) (hM : Met l y (Cond.code y bytes maxL ret' :: gw) rm (pG w E g (.ref b :: As)) (qR rv ok) 0 0 noA) (hL : Cond.methodLink own index y ∈ gw)
    (hR : rm.cells = 0 ∧ rm.slots = 0 ∧ rm.frames + 1 ≤ R.frames ∧ 8 + (maxL + 11) + rm.locals ≤ R.locals ∧ cells ≤ R.cells ∧ slots ≤ R.slots)
    (q0 : Nat) {ci : Nat} {fs : List Value} {q : vw_C} (he : w[q0]? = some (b, .inr (ci, fs))) (hc : vwCl[ci]? = some q) (hq : q.1 = C) (hn : As.length = n) (hsz : ls.size = nL) (hst : st0 = As.reverse ++ .ref b :: rest) (hcat : (rest.map fun v => v.category).sum ≤ 8)
    (hdg : decode cc pc = .ok (.invokevirtual index, 3)) (kk : ok → W p l e R s m args below meth c H locs cells slots Q (F0 m (pc + 3) ls (rv.toList ++ rest))) : W p l e R s m args below meth c H locs cells slots Q (F0 m pc ls st0) :=
  go_R (run_V (Qc := qR rv ok #[]) C0 (pG_blind hE) hP (fun U h1 h2 => e_at C0 hE hS h1 h2) hK pk hM hL hR q0 he hc hq hn hsz hst hcat hdg) kk
theorem cV_Ri {r : Int32} (C0 : cxt E cc nL own ret p s m args meth c) (hE : Est A E) (hP : va_P g.1 vwCl w H) (hS : va_S A s.heap H locs) (hK : va_K g.1 vwCl (tyG g) s)
    (pk : pkV y bytes maxL ret' C n) (hM : Met l y (Cond.code y bytes maxL ret' :: gw) rm (pG w E g (.ref b :: As)) (qR (some (.int r)) ok) 0 0 noA) (hL : Cond.methodLink own index y ∈ gw)
    (hR : rm.cells = 0 ∧ rm.slots = 0 ∧ rm.frames + 1 ≤ R.frames ∧ 8 + (maxL + 11) + rm.locals ≤ R.locals ∧ cells ≤ R.cells ∧ slots ≤ R.slots)
    (q0 : Nat) {ci : Nat} {fs : List Value} {q : vw_C} (he : w[q0]? = some (b, .inr (ci, fs))) (hc : vwCl[ci]? = some q) (hq : q.1 = C) (hn : As.length = n) (hsz : ls.size = nL) (hst : st0 = As.reverse ++ .ref b :: rest) (hcat : (rest.map fun v => v.category).sum ≤ 8)
    (hdg : decode cc pc = .ok (.invokevirtual index, 3)) (kk : ok → W p l e R s m args below meth c H locs cells slots Q (F0 m (pc + 3) ls (.int r :: rest))) : W p l e R s m args below meth c H locs cells slots Q (F0 m pc ls st0) :=
  go_R (run_V (Qc := qR (some (.int r)) ok #[]) C0 (pG_blind hE) hP (fun U h1 h2 => e_at C0 hE hS h1 h2) hK pk hM hL hR q0 he hc hq hn hsz hst hcat hdg) kk
theorem cV_W (C0 : cxt E cc nL own ret p s m args meth c) (hE : Est A E) (hP : va_P g.1 vwCl w H) (hS : va_S A s.heap H locs) (hK : va_K g.1 vwCl (tyG g) s)
    (pk : pkV y bytes maxL ret' C n) (hM : Met l y (Cond.code y bytes maxL ret' :: gw) rm (pG w E g (.ref b :: As)) (qW w' g A rv ok) 0 0 A) (hL : Cond.methodLink own index y ∈ gw)
    (hR : rm.cells = 0 ∧ rm.slots = 0 ∧ rm.frames + 1 ≤ R.frames ∧ 8 + (maxL + 11) + rm.locals ≤ R.locals ∧ cells ≤ R.cells ∧ slots ≤ R.slots)
    (q0 : Nat) {ci : Nat} {fs : List Value} {q : vw_C} (he : w[q0]? = some (b, .inr (ci, fs))) (hc : vwCl[ci]? = some q) (hq : q.1 = C) (hn : As.length = n) (hsz : ls.size = nL) (hst : st0 = As.reverse ++ .ref b :: rest) (hcat : (rest.map fun v => v.category).sum ≤ 8)
    (hdg : decode cc pc = .ok (.invokevirtual index, 3)) (kk : ∀ (H1 : Heap) (locs1 : List Loc), ok → va_P g.1 vwCl w' H1 → va_S A s.heap H1 locs1 → W p l e R s m args below meth c H1 locs1 cells slots Q (F0 m (pc + 3) ls (rv.toList ++ rest))) : W p l e R s m args below meth c H locs cells slots Q (F0 m pc ls st0) :=
  go_W (run_V (Qc := qW w' g A rv ok #[]) C0 (pG_blind hE) hP (fun U h1 h2 => e_at C0 hE hS h1 h2) hK pk hM hL hR q0 he hc hq hn hsz hst hcat hdg) hS (fun _ h => h) (fun H1 locs1 h1 h2 h3 _ _ => kk H1 locs1 h1 h2 h3)
theorem cV_Wi {r : Int32} (C0 : cxt E cc nL own ret p s m args meth c) (hE : Est A E) (hP : va_P g.1 vwCl w H) (hS : va_S A s.heap H locs) (hK : va_K g.1 vwCl (tyG g) s)
    (pk : pkV y bytes maxL ret' C n) (hM : Met l y (Cond.code y bytes maxL ret' :: gw) rm (pG w E g (.ref b :: As)) (qW w' g A (some (.int r)) ok) 0 0 A) (hL : Cond.methodLink own index y ∈ gw)
    (hR : rm.cells = 0 ∧ rm.slots = 0 ∧ rm.frames + 1 ≤ R.frames ∧ 8 + (maxL + 11) + rm.locals ≤ R.locals ∧ cells ≤ R.cells ∧ slots ≤ R.slots)
    (q0 : Nat) {ci : Nat} {fs : List Value} {q : vw_C} (he : w[q0]? = some (b, .inr (ci, fs))) (hc : vwCl[ci]? = some q) (hq : q.1 = C) (hn : As.length = n) (hsz : ls.size = nL) (hst : st0 = As.reverse ++ .ref b :: rest) (hcat : (rest.map fun v => v.category).sum ≤ 8)
    (hdg : decode cc pc = .ok (.invokevirtual index, 3)) (kk : ∀ (H1 : Heap) (locs1 : List Loc), ok → va_P g.1 vwCl w' H1 → va_S A s.heap H1 locs1 → W p l e R s m args below meth c H1 locs1 cells slots Q (F0 m (pc + 3) ls (.int r :: rest))) : W p l e R s m args below meth c H locs cells slots Q (F0 m pc ls st0) :=
  go_W (run_V (Qc := qW w' g A (some (.int r)) ok #[]) C0 (pG_blind hE) hP (fun U h1 h2 => e_at C0 hE hS h1 h2) hK pk hM hL hR q0 he hc hq hn hsz hst hcat hdg) hS (fun _ h => h) (fun H1 locs1 h1 h2 h3 _ _ => kk H1 locs1 h1 h2 h3)
theorem cV_Wv (C0 : cxt E cc nL own ret p s m args meth c) (hE : Est A E) (hP : va_P g.1 vwCl w H) (hS : va_S A s.heap H locs) (hK : va_K g.1 vwCl (tyG g) s)
    (pk : pkV y bytes maxL ret' C n) (hM : Met l y (Cond.code y bytes maxL ret' :: gw) rm (pG w E g (.ref b :: As)) (qW w' g A none ok) 0 0 A) (hL : Cond.methodLink own index y ∈ gw)
    (hR : rm.cells = 0 ∧ rm.slots = 0 ∧ rm.frames + 1 ≤ R.frames ∧ 8 + (maxL + 11) + rm.locals ≤ R.locals ∧ cells ≤ R.cells ∧ slots ≤ R.slots)
    (q0 : Nat) {ci : Nat} {fs : List Value} {q : vw_C} (he : w[q0]? = some (b, .inr (ci, fs))) (hc : vwCl[ci]? = some q) (hq : q.1 = C) (hn : As.length = n) (hsz : ls.size = nL) (hst : st0 = As.reverse ++ .ref b :: rest) (hcat : (rest.map fun v => v.category).sum ≤ 8)
    (hdg : decode cc pc = .ok (.invokevirtual index, 3)) (kk : ∀ (H1 : Heap) (locs1 : List Loc), ok → va_P g.1 vwCl w' H1 → va_S A s.heap H1 locs1 → W p l e R s m args below meth c H1 locs1 cells slots Q (F0 m (pc + 3) ls rest)) : W p l e R s m args below meth c H locs cells slots Q (F0 m pc ls st0) :=
  go_W (run_V (Qc := qW w' g A none ok #[]) C0 (pG_blind hE) hP (fun U h1 h2 => e_at C0 hE hS h1 h2) hK pk hM hL hR q0 he hc hq hn hsz hst hcat hdg) hS (fun _ h => h) (fun H1 locs1 h1 h2 h3 _ _ => kk H1 locs1 h1 h2 h3)
/-- invokestatic of a method of the same class over no world -/
theorem cS_R (C0 : cxt E cc nL own ret p s m args meth c)
    (pk : pkS y bytes maxL ret' n) (hM : Met l y (Cond.code y bytes maxL ret' :: gw) rm (pG [] (fun _ => True) g As) (qR rv ok) 0 0 noA) (hL : Cond.methodLink own index y ∈ gw)
    (hR : rm.cells = 0 ∧ rm.slots = 0 ∧ rm.frames + 1 ≤ R.frames ∧ 8 + (maxL + 11) + rm.locals ≤ R.locals ∧ cells ≤ R.cells ∧ slots ≤ R.slots)
    (hn : As.length = n) (hsz : ls.size = nL) (hst : st0 = As.reverse ++ rest) (hcat : (rest.map fun v => v.category).sum ≤ 8)
    (hdg : decode cc pc = .ok (.invokestatic index, 3)) (kk : ok → W p l e R s m args below meth c H locs cells slots Q (F0 m (pc + 3) ls (rv.toList ++ rest))) : W p l e R s m args below meth c H locs cells slots Q (F0 m pc ls st0) :=
  go_R (run_S (g := g) (Qc := qR rv ok #[]) C0 (pG_blind (A := fun _ => False) (fun _ _ _ _ _ _ => trivial)) (fun k q h => by simp at h) (fun _ _ _ => trivial) pk hM hL hR hn hsz hst hcat hdg) kk
theorem cS_Ri {r : Int32} (C0 : cxt E cc nL own ret p s m args meth c)
    (pk : pkS y bytes maxL ret' n) (hM : Met l y (Cond.code y bytes maxL ret' :: gw) rm (pG [] (fun _ => True) g As) (qR (some (.int r)) ok) 0 0 noA) (hL : Cond.methodLink own index y ∈ gw)
    (hR : rm.cells = 0 ∧ rm.slots = 0 ∧ rm.frames + 1 ≤ R.frames ∧ 8 + (maxL + 11) + rm.locals ≤ R.locals ∧ cells ≤ R.cells ∧ slots ≤ R.slots)
    (hn : As.length = n) (hsz : ls.size = nL) (hst : st0 = As.reverse ++ rest) (hcat : (rest.map fun v => v.category).sum ≤ 8)
    (hdg : decode cc pc = .ok (.invokestatic index, 3)) (kk : ok → W p l e R s m args below meth c H locs cells slots Q (F0 m (pc + 3) ls (.int r :: rest))) : W p l e R s m args below meth c H locs cells slots Q (F0 m pc ls st0) :=
  go_R (run_S (g := g) (Qc := qR (some (.int r)) ok #[]) C0 (pG_blind (A := fun _ => False) (fun _ _ _ _ _ _ => trivial)) (fun k q h => by simp at h) (fun _ _ _ => trivial) pk hM hL hR hn hsz hst hcat hdg) kk
/-- invokestatic over the same world -/
theorem cS_RW (C0 : cxt E cc nL own ret p s m args meth c) (hE : Est A E) (hP : va_P g.1 vwCl w H) (hS : va_S A s.heap H locs)
    (pk : pkS y bytes maxL ret' n) (hM : Met l y (Cond.code y bytes maxL ret' :: gw) rm (pG w E g As) (qR rv ok) 0 0 noA) (hL : Cond.methodLink own index y ∈ gw)
    (hR : rm.cells = 0 ∧ rm.slots = 0 ∧ rm.frames + 1 ≤ R.frames ∧ 8 + (maxL + 11) + rm.locals ≤ R.locals ∧ cells ≤ R.cells ∧ slots ≤ R.slots)
    (hn : As.length = n) (hsz : ls.size = nL) (hst : st0 = As.reverse ++ rest) (hcat : (rest.map fun v => v.category).sum ≤ 8)
    (hdg : decode cc pc = .ok (.invokestatic index, 3)) (kk : ok → W p l e R s m args below meth c H locs cells slots Q (F0 m (pc + 3) ls (rv.toList ++ rest))) : W p l e R s m args below meth c H locs cells slots Q (F0 m pc ls st0) :=
  go_R (run_S (Qc := qR rv ok #[]) C0 (pG_blind hE) hP (fun U h1 h2 => e_at C0 hE hS h1 h2) pk hM hL hR hn hsz hst hcat hdg) kk
theorem cS_RWi {r : Int32} (C0 : cxt E cc nL own ret p s m args meth c) (hE : Est A E) (hP : va_P g.1 vwCl w H) (hS : va_S A s.heap H locs)
    (pk : pkS y bytes maxL ret' n) (hM : Met l y (Cond.code y bytes maxL ret' :: gw) rm (pG w E g As) (qR (some (.int r)) ok) 0 0 noA) (hL : Cond.methodLink own index y ∈ gw)
    (hR : rm.cells = 0 ∧ rm.slots = 0 ∧ rm.frames + 1 ≤ R.frames ∧ 8 + (maxL + 11) + rm.locals ≤ R.locals ∧ cells ≤ R.cells ∧ slots ≤ R.slots)
    (hn : As.length = n) (hsz : ls.size = nL) (hst : st0 = As.reverse ++ rest) (hcat : (rest.map fun v => v.category).sum ≤ 8)
    (hdg : decode cc pc = .ok (.invokestatic index, 3)) (kk : ok → W p l e R s m args below meth c H locs cells slots Q (F0 m (pc + 3) ls (.int r :: rest))) : W p l e R s m args below meth c H locs cells slots Q (F0 m pc ls st0) :=
  go_R (run_S (Qc := qR (some (.int r)) ok #[]) C0 (pG_blind hE) hP (fun U h1 h2 => e_at C0 hE hS h1 h2) pk hM hL hR hn hsz hst hcat hdg) kk
/-- a field of a world's object becomes v -/
theorem put_W {ws ws' : va_W} {T : u_T} {N ci k a : Nat} {fs : List Value} {ref : String} {v : Value} {ty0 : Nat → FieldType} (C0 : cxt E cc nL own ret p s m args meth c) (hK : va_K g.1 vwCl (tyG g) s) (hP : va_P g.1 vwCl ws H) (hD : va_D A ws) (hS : va_S A s.heap H locs)
    (hin : ∀ w ∈ u_ws C T N, w ∈ gw) (hty : ∀ k, k < N → parseFieldDescriptor (T k).2.2.1 = some (ty0 k)) (hnm : ∀ a, a < N → ∀ b, b < N → a ≠ b → (T a).2.1 ≠ (T b).2.1) (q0 : Nat) (he : ws[q0]? = some (a, .inr (ci, fs))) (hc : vwCl[ci]? = some (C, T, N)) (hk : k < N) (hlink : Cond.fieldLink own index ref (T k).2.1 (T k).2.2.1 ∈ gw) (href : (T k).1 = ref) (hfin : (T k).2.2.2 = false)
    (hn : narrow (ty0 k) v = v) (hfit : fits (ty0 k) v = true) (hl : k < fs.length) (hset : ws.set q0 (a, .inr (ci, fs.set k v)) = ws')
    (hdg : decode cc pc = .ok (.putfield index, 3)) (kk : ∀ (H1 : Heap) (locs1 : List Loc), va_P g.1 vwCl ws' H1 → va_S A s.heap H1 locs1 → W p l e R s m args below meth c H1 locs1 cells slots Q (F0 m (pc + 3) ls rest)) : W p l e R s m args below meth c H locs cells slots Q (F0 m pc ls (v :: .ref a :: rest)) := by
  obtain ⟨hx, hb, hml, hown, hts, -⟩ := C0
  subst href
  exact va_put hx hb hts hin ty0 hty hnm hown hK hP hD hS q0 he hc k hk (hts _ hlink) (fun _ h => h) hfin (hty k hk) hn hfit hl hdg (fun H1 locs1 h1 _ h3 => kk H1 locs1 (by rw [← hset]; exact h1) h3)
theorem get_W {ws : va_W} {T : u_T} {N ci a : Nat} {fs : List Value} {ref : String} {v : Value} (C0 : cxt E cc nL own ret p s m args meth c) (hK : va_K g.1 vwCl (tyG g) s) (hP : va_P g.1 vwCl ws H)
    (hin : ∀ w ∈ u_ws C T N, w ∈ gw) (q0 : Nat) (he : ws[q0]? = some (a, .inr (ci, fs))) (hc : vwCl[ci]? = some (C, T, N)) (k : Nat) (hk : k < N) (hlink : Cond.fieldLink own index ref (T k).2.1 (T k).2.2.1 ∈ gw) (href : (T k).1 = ref) (hv : fs[k]? = some v)
    (hdg : decode cc pc = .ok (.getfield index, 3)) (kk : W p l e R s m args below meth c H locs cells slots Q (F0 m (pc + 3) ls (v :: rest))) : W p l e R s m args below meth c H locs cells slots Q (F0 m pc ls (.ref a :: rest)) := by
  obtain ⟨hx, hb, hml, hown, hts, -⟩ := C0
  subst href
  exact va_get hx hb hts hin hown hK hP q0 he hc k hk (hts _ hlink) (fun _ h => h) hv hdg kk
theorem iast_W {ws ws' : va_W} {a n : Nat} {f : Nat → Int32} {i x : Int32} (C0 : cxt E cc nL own ret p s m args meth c) (hK : va_K g.1 vwCl (tyG g) s) (hP : va_P g.1 vwCl ws H) (hD : va_D A ws) (hS : va_S A s.heap H locs)
    (q0 : Nat) (ha : ws[q0]? = some (a, .inl (g.2.1, n, .inl f))) (hin : vp_in i n) (hset : ws.set q0 (a, .inl (g.2.1, n, .inl (upd f i.toNatClampNeg x))) = ws') (hdg : decode cc pc = .ok (.iastore, 1))
    (kk : ∀ (H1 : Heap) (locs1 : List Loc), va_P g.1 vwCl ws' H1 → va_S A s.heap H1 locs1 → W p l e R s m args below meth c H1 locs1 cells slots Q (F0 m (pc + 1) ls rest)) : W p l e R s m args below meth c H locs cells slots Q (F0 m pc ls (.int x :: .int i :: .ref a :: rest)) := by
  obtain ⟨hx, hb, hml, hown, hts, -⟩ := C0
  exact va_iast hx hb hK hP hD hS q0 0 ha rfl hin hdg (fun H1 locs1 h1 _ h3 => kk H1 locs1 (by rw [← hset]; exact h1) h3)
theorem zast_W {ws ws' : va_W} {a n : Nat} {f : Nat → Int32} {i x : Int32} (C0 : cxt E cc nL own ret p s m args meth c) (hK : va_K g.1 vwCl (tyG g) s) (hP : va_P g.1 vwCl ws H) (hD : va_D A ws) (hS : va_S A s.heap H locs)
    (q0 : Nat) (ha : ws[q0]? = some (a, .inl (g.2.2.1, n, .inl f))) (hin : vp_in i n) (hset : ws.set q0 (a, .inl (g.2.2.1, n, .inl (upd f i.toNatClampNeg (vp_nar .boolean x)))) = ws') (hdg : decode cc pc = .ok (.bastore, 1))
    (kk : ∀ (H1 : Heap) (locs1 : List Loc), va_P g.1 vwCl ws' H1 → va_S A s.heap H1 locs1 → W p l e R s m args below meth c H1 locs1 cells slots Q (F0 m (pc + 1) ls rest)) : W p l e R s m args below meth c H locs cells slots Q (F0 m pc ls (.int x :: .int i :: .ref a :: rest)) := by
  obtain ⟨hx, hb, hml, hown, hts, -⟩ := C0
  exact va_zast hx hb hK hP hD hS q0 1 ha rfl hin hdg (fun H1 locs1 h1 _ h3 => kk H1 locs1 (by rw [← hset]; exact h1) h3)
/-- returns -/
theorem ret_Ri {v : Int32} {ok : Prop} (C0 : cxt E cc nL own (some .int) p s m args meth c) (hok : ok) (hdg : decode cc pc = .ok (.ireturn, 1)) : W p l e R s m args below meth c s.heap [] cells slots (MQ below (qR (some (.int v)) ok) args s cells slots noA) (F0 m pc ls [.int v]) := by
  obtain ⟨hx, hb, hml, hown, hts, hr, hlk, -⟩ := C0
  exact W.iret hx hb hr (fun t ht _ => ⟨rfl, hok, ht⟩) (fun q h => by cases h) hdg hlk
theorem ret_Rz {v : Int32} {ok : Prop} (C0 : cxt E cc nL own (some .boolean) p s m args meth c) (hv : isB v) (hok : ok) (hdg : decode cc pc = .ok (.ireturn, 1)) : W p l e R s m args below meth c s.heap [] cells slots (MQ below (qR (some (.int v)) ok) args s cells slots noA) (F0 m pc ls [.int v]) := by
  obtain ⟨hx, hb, hml, hown, hts, hr, hlk, -⟩ := C0
  exact W.zret hx hb hr (isB_nar hv) (fun t ht _ => ⟨rfl, hok, ht⟩) (fun q h => by cases h) hdg hlk
theorem ret_Wi {v : Int32} {ok : Prop} (C0 : cxt E cc nL own (some .int) p s m args meth c) (hP : va_P g.1 vwCl w H) (hS : va_S A s.heap H locs) (hok : ok) (hdg : decode cc pc = .ok (.ireturn, 1)) : W p l e R s m args below meth c H locs cells slots (MQ below (qW w g A (some (.int v)) ok) args s cells slots A) (F0 m pc ls [.int v]) := by
  obtain ⟨hx, hb, hml, hown, hts, hr, hlk, -⟩ := C0
  exact W.iret hx hb hr (fun t ht _ => ⟨rfl, hok, by rw [ht]; exact hP, hS.F ht⟩) hS.2.2 hdg hlk
theorem ret_Wv {ok : Prop} (C0 : cxt E cc nL own none p s m args meth c) (hP : va_P g.1 vwCl w H) (hS : va_S A s.heap H locs) (hok : ok) (hdg : decode cc pc = .ok (.return_, 1)) : W p l e R s m args below meth c H locs cells slots (MQ below (qW w g A none ok) args s cells slots A) (F0 m pc ls []) := by
  obtain ⟨hx, hb, hml, hown, hts, hr, hlk, -⟩ := C0
  exact W.vret hx hb hr (fun t ht _ => ⟨rfl, hok, by rw [ht]; exact hP, hS.F ht⟩) hS.2.2 hdg hlk
end CALLS
end
section
/-! SpeakHall.at, SpeakHall.set, Standing.refill: rows of ints by address -/
def atF (f : Nat → Int32) (n : Nat) (i : Int32) : Int32 := if i < 0 then 0 else if nI n ≤ i then 0 else f i.toNatClampNeg
def setF (f : Nat → Int32) (n : Nat) (i v : Int32) : Nat → Int32 := if i < 0 then f else if nI n ≤ i then f else upd f i.toNatClampNeg v
def rfF (f : Nat → Int32) (n : Nat) (f2 : Nat → Int32) (n2 k : Nat) : Nat → Int32 := fun j => if j < k then atF f2 n2 (nI j) else f j
theorem in_of {i : Int32} {n : Nat} (hn : n < 2 ^ 31) (h0 : ¬ i < 0) (h1 : ¬ nI n ≤ i) : vp_in i n := by
  rcases pk_ix i hn with h | h | ⟨j, hj, rfl⟩
  · exact absurd h h0
  · exact absurd h h1
  · exact vp_in_nI hj hn
theorem va_P_set' {D : va_G} {cl : List vw_C} {ws : va_W} {a q0 : Nat} {e0 e : va_E} {H H1 : Heap} {A : Nat → Prop} (hP : va_P D cl ws H) (hD : va_D A ws) (he : ws[q0]? = some (a, e0)) (h1 : va_at D cl (a, e) H1) (hk : ∀ q : Nat, q < H.size → ¬ q = a → H1[q]? = H[q]?) : va_P D cl (ws.set q0 (a, e)) H1 := by
  intro k q hq
  have hlt : q0 < ws.length := (List.getElem?_eq_some_iff.mp he).1
  by_cases hkq : k = q0
  · subst hkq
    rw [List.getElem?_set_self hlt] at hq
    cases hq
    exact h1
  · rw [List.getElem?_set_ne (fun z => hkq z.symm)] at hq
    have hc := hP k q hq
    exact hc.kept (hk q.1 hc.lt (fun z => hkq (hD.1 k q0 q (a, e0) hq he z)))
theorem va_X_of {g : gG} {U : State} {H : Heap} {w : va_W} {q0 a n : Nat} {f : Nat → Int32} (hK : va_K g.1 vwCl (tyG g) U) (hP : va_P g.1 vwCl w H) (he : w[q0]? = some (a, .inl (g.2.1, n, .inl f))) : va_X a n f U H := by
  refine ⟨_, hP q0 _ he, (hK.2 0 _ rfl).1 n (fun j => .int (f j)), (fun q => by cases q), arrV_size _ _ _, fun j hj => arrV_read _ _ hj⟩
theorem est_X {a n : Nat} {f : Nat → Int32} : Est (fun _ => False) (fun U => va_X a n f U U.heap) := by
  intro u U hW hz hq h
  exact va_X.moved hW.alike (h.kept (hq a (va_X_lt h) id))
theorem est_K {g : gG} {A : Nat → Prop} : Est A (fun U => va_K g.1 vwCl (tyG g) U) := fun _ _ hW _ _ h => va_K.moved hW.alike h
theorem pkX8_at : pkS yX8_at cX8_at 2 (some .int) 2 := ⟨mT_X8_at, mN_X8, mC_X8_at, by decide +kernel⟩
theorem pkX8_set : pkS yX8_set cX8_set 3 none 3 := ⟨mT_X8_set, mN_X8, mC_X8_set, by decide +kernel⟩
theorem pkX7_refill : pkS yX7_refill cX7_refill 3 none 2 := ⟨mT_X7_refill, mN_X7, mC_X7_refill, by decide +kernel⟩
set_option maxHeartbeats 1000000 in
theorem kX8_at (l : Launch) (g : gG) (a n : Nat) (f : Nat → Int32) (i : Int32) (hn : n < 2 ^ 31) : Met l yX8_at (Cond.code yX8_at cX8_at 2 (some .int) :: gw) { frames := 1, cells := 0, slots := 0, locals := 16 } (pG [] (fun U => va_X a n f U U.heap) g [.ref a, .int i]) (qR (some (.int (atF f n i))) True) 0 0 noA := by
  refine met_of (by decide) (Nat.le_of_ble_eq_true rfl) ?_
  intro p e s m args below meth c ls C0 hP hl
  obtain ⟨hx, hb, hml, hown, hts, hr, hlk, hX⟩ := id C0
  have hl : lv_has ls 2 [(0, .ref a), (1, .int i)] := hl
  have hS : va_S (fun _ => False) s.heap s.heap [] := va_S.rf
  have hbl := va_X_lt hX
  refine lv_iload_n hx hb dX8_at_0 rfl (lv_at hl 1 rfl) ?_
  refine lv_if_lt (tgt := 16) hx hb dX8_at_1 (by decide) (fun c1 => ?_) (fun c1 => ?_)
  · have hv : atF f n i = 0 := if_pos c1
    rw [hv]
    refine lv_iconst (v := 0) hx hb dX8_at_16 (by decide) ?_
    exact ret_Ri C0 trivial dX8_at_17
  refine lv_iload_n hx hb dX8_at_4 rfl (lv_at hl 1 rfl) ?_
  refine lv_aload_n hx hb dX8_at_5 rfl (lv_at hl 0 rfl) ?_
  refine va_slen hx hb hX hbl (fun h => h) hS dX8_at_6 ?_
  refine lv_icmp_ge (tgt := 16) hx hb dX8_at_7 (by decide) (fun c2 => ?_) (fun c2 => ?_)
  · have hv : atF f n i = 0 := (if_neg c1).trans (if_pos c2)
    rw [hv]
    refine lv_iconst (v := 0) hx hb dX8_at_16 (by decide) ?_
    exact ret_Ri C0 trivial dX8_at_17
  have hv : atF f n i = f i.toNatClampNeg := (if_neg c1).trans (if_neg c2)
  rw [hv]
  refine lv_aload_n hx hb dX8_at_10 rfl (lv_at hl 0 rfl) ?_
  refine lv_iload_n hx hb dX8_at_11 rfl (lv_at hl 1 rfl) ?_
  refine va_sld hx hb hX hbl (fun h => h) hS (in_of hn c1 c2) dX8_at_12 ?_
  refine lv_goto (tgt := 17) hx hb dX8_at_13 (by decide) ?_
  exact ret_Ri C0 trivial dX8_at_17
set_option maxHeartbeats 1000000 in
theorem kX8_set (l : Launch) (g : gG) (a n : Nat) (f : Nat → Int32) (i v : Int32) (hn : n < 2 ^ 31) : Met l yX8_set (Cond.code yX8_set cX8_set 3 none :: gw) { frames := 1, cells := 0, slots := 0, locals := 16 } (pG [(a, .inl (g.2.1, n, .inl f))] (fun U => va_K g.1 vwCl (tyG g) U) g [.ref a, .int i, .int v]) (qW [(a, .inl (g.2.1, n, .inl (setF f n i v)))] g (fun q => q = a) none True) 0 0 (fun q => q = a) := by
  refine met_of (by decide) (Nat.le_of_ble_eq_true rfl) ?_
  intro p e s m args below meth c ls C0 hP hl
  obtain ⟨hx, hb, hml, hown, hts, hr, hlk, hK⟩ := id C0
  have hl : lv_has ls 3 [(0, .ref a), (1, .int i), (2, .int v)] := hl
  have hS : va_S (fun q => q = a) s.heap s.heap [] := va_S.rf
  have hD : va_D (fun q => q = a) [(a, .inl (g.2.1, n, .inl f))] := by
    refine ⟨fun i j p q hi hj _ => ?_, fun k q hk => ?_⟩
    · have h1 := (List.getElem?_eq_some_iff.mp hi).1
      have h2 := (List.getElem?_eq_some_iff.mp hj).1
      simp at h1 h2; omega
    · have h1 := (List.getElem?_eq_some_iff.mp hk).1
      simp at h1; subst h1; cases hk; rfl
  refine lv_iload_n hx hb dX8_set_0 rfl (lv_at hl 1 rfl) ?_
  refine lv_if_lt (tgt := 14) hx hb dX8_set_1 (by decide) (fun c1 => ?_) (fun c1 => ?_)
  · have hv : setF f n i v = f := if_pos c1
    rw [hv]
    exact ret_Wv C0 hP hS trivial dX8_set_14
  refine lv_iload_n hx hb dX8_set_4 rfl (lv_at hl 1 rfl) ?_
  refine lv_aload_n hx hb dX8_set_5 rfl (lv_at hl 0 rfl) ?_
  refine va_alen hx hb hK hP 0 0 rfl rfl (v := nI n) rfl dX8_set_6 ?_
  refine lv_icmp_ge (tgt := 14) hx hb dX8_set_7 (by decide) (fun c2 => ?_) (fun c2 => ?_)
  · have hv : setF f n i v = f := (if_neg c1).trans (if_pos c2)
    rw [hv]
    exact ret_Wv C0 hP hS trivial dX8_set_14
  have hv : setF f n i v = upd f i.toNatClampNeg v := (if_neg c1).trans (if_neg c2)
  rw [hv]
  refine lv_aload_n hx hb dX8_set_10 rfl (lv_at hl 0 rfl) ?_
  refine lv_iload_n hx hb dX8_set_11 rfl (lv_at hl 1 rfl) ?_
  refine lv_iload_n hx hb dX8_set_12 rfl (lv_at hl 2 rfl) ?_
  refine iast_W C0 hK hP hD hS 0 rfl (in_of hn c1 c2) rfl dX8_set_13 (fun H locs hP hS => ?_)
  exact ret_Wv C0 hP hS trivial dX8_set_14
section ARR
variable {p : Program} {l : Launch} {e : Env} {R : Room} {s : State} {m : MethodId} {args : Array Value} {below : List Frame} {meth : Method} {c : Code} {H : Heap} {locs : List Loc} {cells slots : Nat} {Q : State → Prop}
variable {E : State → Prop} {A : Nat → Prop} {cc : ByteArray} {nL n index pc a : Nat} {own : String} {ret : Option FieldType} {g : gG} {w w' : va_W} {rest : List Value} {ls : Array Slot} {f : Nat → Int32} {i v : Int32}
/-- at(row, i) from a nest mate -/
theorem at_X (g : gG) (C0 : cxt E cc nL own ret p s m args meth c) (hN : ∀ w ∈ nw, va_Nw w s) (hX : va_X a n f s H) (hn : n < 2 ^ 31) (hL : Cond.methodLinkNest own index yX8_at "SpeakHall" ∈ nw)
    (hR : 2 ≤ R.frames ∧ 37 ≤ R.locals ∧ cells ≤ R.cells ∧ slots ≤ R.slots) (hsz : ls.size = nL) (hcat : (rest.map fun v => v.category).sum ≤ 8) (hdg : decode cc pc = .ok (.invokestatic index, 3))
    (kk : W p l e R s m args below meth c H locs cells slots Q (F0 m (pc + 3) ls (.int (atF f n i) :: rest))) : W p l e R s m args below meth c H locs cells slots Q (F0 m pc ls (.int i :: .ref a :: rest)) :=
  go_R (rest := rest) (run_N (g := g) (w := []) (As := [.ref a, .int i]) (Qc := qR (some (.int (atF f n i))) True #[]) C0 (pG_blind est_X) (fun k q h => by simp at h) (fun U h1 h2 => by have := va_X.moved h2.alike hX; rw [← h1] at this; exact this) hN pkX8_at (kX8_at l g a n f i hn) hL ⟨rfl, rfl, hR.1, hR.2.1, hR.2.2.1, hR.2.2.2⟩ rfl hsz rfl hcat hdg) (fun _ => kk)
theorem at_W (C0 : cxt E cc nL own ret p s m args meth c) (hN : ∀ w ∈ nw, va_Nw w s) (hK : va_K g.1 vwCl (tyG g) s) (hP : va_P g.1 vwCl w H) (q0 : Nat) (he : w[q0]? = some (a, .inl (g.2.1, n, .inl f))) (hn : n < 2 ^ 31) (hL : Cond.methodLinkNest own index yX8_at "SpeakHall" ∈ nw)
    (hR : 2 ≤ R.frames ∧ 37 ≤ R.locals ∧ cells ≤ R.cells ∧ slots ≤ R.slots) (hsz : ls.size = nL) (hcat : (rest.map fun v => v.category).sum ≤ 8) (hdg : decode cc pc = .ok (.invokestatic index, 3))
    (kk : W p l e R s m args below meth c H locs cells slots Q (F0 m (pc + 3) ls (.int (atF f n i) :: rest))) : W p l e R s m args below meth c H locs cells slots Q (F0 m pc ls (.int i :: .ref a :: rest)) :=
  at_X g C0 hN (va_X_of hK hP he) hn hL hR hsz hcat hdg kk
/-- set(row, i, v) from a nest mate -/
theorem set_W (C0 : cxt E cc nL own ret p s m args meth c) (hN : ∀ w ∈ nw, va_Nw w s) (hK : va_K g.1 vwCl (tyG g) s) (hP : va_P g.1 vwCl w H) (hD : va_D A w) (hS : va_S A s.heap H locs) (q0 : Nat) (he : w[q0]? = some (a, .inl (g.2.1, n, .inl f))) (hn : n < 2 ^ 31) (hset : w.set q0 (a, .inl (g.2.1, n, .inl (setF f n i v))) = w') (hL : Cond.methodLinkNest own index yX8_set "SpeakHall" ∈ nw)
    (hR : 2 ≤ R.frames ∧ 38 ≤ R.locals ∧ cells ≤ R.cells ∧ slots ≤ R.slots) (hsz : ls.size = nL) (hcat : (rest.map fun v => v.category).sum ≤ 8) (hdg : decode cc pc = .ok (.invokestatic index, 3))
    (kk : ∀ (H1 : Heap) (locs1 : List Loc), va_P g.1 vwCl w' H1 → va_S A s.heap H1 locs1 → W p l e R s m args below meth c H1 locs1 cells slots Q (F0 m (pc + 3) ls rest)) : W p l e R s m args below meth c H locs cells slots Q (F0 m pc ls (.int v :: .int i :: .ref a :: rest)) :=
  go_W (rest := rest) (run_N (w := [(a, .inl (g.2.1, n, .inl f))]) (As := [.ref a, .int i, .int v]) (Qc := qW [(a, .inl (g.2.1, n, .inl (setF f n i v)))] g (fun q => q = a) none True #[]) C0 (pG_blind (A := A) est_K) (hP.sub [q0] (by simp [he])) (fun U h1 h2 => va_K.moved h2.alike hK) hN pkX8_set (kX8_set l g a n f i v hn) hL ⟨rfl, rfl, hR.1, hR.2.1, hR.2.2.1, hR.2.2.2⟩ rfl hsz rfl hcat hdg) hS (fun q h => by rw [h]; exact hD.2 q0 _ he)
    (fun H1 locs1 _ hP1 hS1 hz hk => kk H1 locs1 (by rw [← hset]; exact va_P_set' hP hD he (hP1 0 _ rfl) hk) hS1)
end ARR
end
