section
-- ===== PART A: goes FIRST, ahead of the names: the tables' words, and 'selects' of the private methods out of them =====
/-- a private method of a class that the tables say can be made, by its rows of tables_1 -/
def lw_okq (q : MethodName × Nat) : Prop := (q.1.cls ≠ "java/lang/invoke/MethodHandle" ∧ q.1.cls ≠ "java/lang/invoke/VarHandle") ∧ Cond.instantiable q.1.cls q.2 ∈ tables_1 ∧ Cond.privateMethod q.1 ∈ tables_1 ∧ Cond.instanceMethod q.1 ∈ tables_1
theorem lw_p0 : lw_okq (⟨"SpeakHall", "finding", "(I)I"⟩, 10) := ⟨⟨by decide +kernel, by decide +kernel⟩, List.mem_of_getElem? (i := 13) (by decide +kernel), List.mem_of_getElem? (i := 236) (by decide +kernel), List.mem_of_getElem? (i := 237) (by decide +kernel)⟩
theorem lw_p1 : lw_okq (⟨"SpeakHall", "isAsking", "(II)Z"⟩, 10) := ⟨⟨by decide +kernel, by decide +kernel⟩, List.mem_of_getElem? (i := 13) (by decide +kernel), List.mem_of_getElem? (i := 316) (by decide +kernel), List.mem_of_getElem? (i := 317) (by decide +kernel)⟩
theorem lw_p2 : lw_okq (⟨"SpeakHall$Rule", "rankBy", "(ILSpeakHall$Standing;I)I"⟩, 3) := ⟨⟨by decide +kernel, by decide +kernel⟩, List.mem_of_getElem? (i := 73) (by decide +kernel), List.mem_of_getElem? (i := 400) (by decide +kernel), List.mem_of_getElem? (i := 401) (by decide +kernel)⟩
theorem lw_p3 : lw_okq (⟨"SpeakHall", "ticksFor", "(II)I"⟩, 10) := ⟨⟨by decide +kernel, by decide +kernel⟩, List.mem_of_getElem? (i := 13) (by decide +kernel), List.mem_of_getElem? (i := 456) (by decide +kernel), List.mem_of_getElem? (i := 457) (by decide +kernel)⟩
theorem lw_p4 : lw_okq (⟨"SpeakHall", "takeFloor", "(I)I"⟩, 10) := ⟨⟨by decide +kernel, by decide +kernel⟩, List.mem_of_getElem? (i := 13) (by decide +kernel), List.mem_of_getElem? (i := 485) (by decide +kernel), List.mem_of_getElem? (i := 486) (by decide +kernel)⟩
theorem lw_p5 : lw_okq (⟨"SpeakHall", "endHolding", "()V"⟩, 10) := ⟨⟨by decide +kernel, by decide +kernel⟩, List.mem_of_getElem? (i := 13) (by decide +kernel), List.mem_of_getElem? (i := 527) (by decide +kernel), List.mem_of_getElem? (i := 528) (by decide +kernel)⟩
theorem lw_p6 : lw_okq (⟨"SpeakHall", "gapsOfPairs", "()I"⟩, 10) := ⟨⟨by decide +kernel, by decide +kernel⟩, List.mem_of_getElem? (i := 13) (by decide +kernel), List.mem_of_getElem? (i := 639) (by decide +kernel), List.mem_of_getElem? (i := 640) (by decide +kernel)⟩
theorem lw_p7 : lw_okq (⟨"SpeakHall", "peopledDelegations", "()I"⟩, 10) := ⟨⟨by decide +kernel, by decide +kernel⟩, List.mem_of_getElem? (i := 13) (by decide +kernel), List.mem_of_getElem? (i := 646) (by decide +kernel), List.mem_of_getElem? (i := 647) (by decide +kernel)⟩
theorem lw_p8 : lw_okq (⟨"SpeakHall", "allTime", "()I"⟩, 10) := ⟨⟨by decide +kernel, by decide +kernel⟩, List.mem_of_getElem? (i := 13) (by decide +kernel), List.mem_of_getElem? (i := 650) (by decide +kernel), List.mem_of_getElem? (i := 651) (by decide +kernel)⟩
theorem lw_p9 : lw_okq (⟨"SpeakHall$Minutes", "slotOf", "(I)I"⟩, 7) := ⟨⟨by decide +kernel, by decide +kernel⟩, List.mem_of_getElem? (i := 152) (by decide +kernel), List.mem_of_getElem? (i := 674) (by decide +kernel), List.mem_of_getElem? (i := 675) (by decide +kernel)⟩
theorem lw_p10 : lw_okq (⟨"SpeakHall$Minutes", "rowWritten", "(I)I"⟩, 7) := ⟨⟨by decide +kernel, by decide +kernel⟩, List.mem_of_getElem? (i := 152) (by decide +kernel), List.mem_of_getElem? (i := 678) (by decide +kernel), List.mem_of_getElem? (i := 679) (by decide +kernel)⟩
theorem lw_p11 : lw_okq (⟨"SpeakHall", "sheetAt", "(I)LSpeakHall$Sheet;"⟩, 10) := ⟨⟨by decide +kernel, by decide +kernel⟩, List.mem_of_getElem? (i := 13) (by decide +kernel), List.mem_of_getElem? (i := 722) (by decide +kernel), List.mem_of_getElem? (i := 723) (by decide +kernel)⟩
theorem lw_p12 : lw_okq (⟨"SpeakHall$Sheet", "lowestBits", "(I)I"⟩, 3) := ⟨⟨by decide +kernel, by decide +kernel⟩, List.mem_of_getElem? (i := 181) (by decide +kernel), List.mem_of_getElem? (i := 750) (by decide +kernel), List.mem_of_getElem? (i := 751) (by decide +kernel)⟩
theorem lw_p13 : lw_okq (⟨"SpeakHallModel", "finding", "(I)I"⟩, 39) := ⟨⟨by decide +kernel, by decide +kernel⟩, List.mem_of_getElem? (i := 794) (by decide +kernel), List.mem_of_getElem? (i := 926) (by decide +kernel), List.mem_of_getElem? (i := 927) (by decide +kernel)⟩
theorem lw_p14 : lw_okq (⟨"SpeakHallModel", "isMember", "(I)Z"⟩, 39) := ⟨⟨by decide +kernel, by decide +kernel⟩, List.mem_of_getElem? (i := 794) (by decide +kernel), List.mem_of_getElem? (i := 935) (by decide +kernel), List.mem_of_getElem? (i := 936) (by decide +kernel)⟩
theorem lw_p15 : lw_okq (⟨"SpeakHallModel", "isGuest", "(I)Z"⟩, 39) := ⟨⟨by decide +kernel, by decide +kernel⟩, List.mem_of_getElem? (i := 794) (by decide +kernel), List.mem_of_getElem? (i := 939) (by decide +kernel), List.mem_of_getElem? (i := 940) (by decide +kernel)⟩
def lw_privs_1 : List (MethodName × Nat) := [(⟨"SpeakHall", "finding", "(I)I"⟩, 10), (⟨"SpeakHall", "isAsking", "(II)Z"⟩, 10), (⟨"SpeakHall$Rule", "rankBy", "(ILSpeakHall$Standing;I)I"⟩, 3), (⟨"SpeakHall", "ticksFor", "(II)I"⟩, 10), (⟨"SpeakHall", "takeFloor", "(I)I"⟩, 10), (⟨"SpeakHall", "endHolding", "()V"⟩, 10), (⟨"SpeakHall", "gapsOfPairs", "()I"⟩, 10), (⟨"SpeakHall", "peopledDelegations", "()I"⟩, 10), (⟨"SpeakHall", "allTime", "()I"⟩, 10), (⟨"SpeakHall$Minutes", "slotOf", "(I)I"⟩, 7), (⟨"SpeakHall$Minutes", "rowWritten", "(I)I"⟩, 7), (⟨"SpeakHall", "sheetAt", "(I)LSpeakHall$Sheet;"⟩, 10), (⟨"SpeakHall$Sheet", "lowestBits", "(I)I"⟩, 3), (⟨"SpeakHallModel", "finding", "(I)I"⟩, 39), (⟨"SpeakHallModel", "isMember", "(I)Z"⟩, 39), (⟨"SpeakHallModel", "isGuest", "(I)Z"⟩, 39)]
theorem lw_r1 : ∀ q ∈ lw_privs_1, lw_okq q := List.forall_mem_cons.mpr ⟨lw_p0, List.forall_mem_cons.mpr ⟨lw_p1, List.forall_mem_cons.mpr ⟨lw_p2, List.forall_mem_cons.mpr ⟨lw_p3, List.forall_mem_cons.mpr ⟨lw_p4, List.forall_mem_cons.mpr ⟨lw_p5, List.forall_mem_cons.mpr ⟨lw_p6, List.forall_mem_cons.mpr ⟨lw_p7, List.forall_mem_cons.mpr ⟨lw_p8, List.forall_mem_cons.mpr ⟨lw_p9, List.forall_mem_cons.mpr ⟨lw_p10, List.forall_mem_cons.mpr ⟨lw_p11, List.forall_mem_cons.mpr ⟨lw_p12, List.forall_mem_cons.mpr ⟨lw_p13, List.forall_mem_cons.mpr ⟨lw_p14, List.forall_mem_cons.mpr ⟨lw_p15, fun _ h => absurd h List.not_mem_nil⟩⟩⟩⟩⟩⟩⟩⟩⟩⟩⟩⟩⟩⟩⟩⟩
theorem lw_p16 : lw_okq (⟨"SpeakHallModel", "timeOf", "(I)I"⟩, 39) := ⟨⟨by decide +kernel, by decide +kernel⟩, List.mem_of_getElem? (i := 794) (by decide +kernel), List.mem_of_getElem? (i := 956) (by decide +kernel), List.mem_of_getElem? (i := 957) (by decide +kernel)⟩
theorem lw_p17 : lw_okq (⟨"SpeakHallModel", "askingOf", "(II)I"⟩, 39) := ⟨⟨by decide +kernel, by decide +kernel⟩, List.mem_of_getElem? (i := 794) (by decide +kernel), List.mem_of_getElem? (i := 967) (by decide +kernel), List.mem_of_getElem? (i := 968) (by decide +kernel)⟩
theorem lw_p18 : lw_okq (⟨"SpeakHallModel", "comes", "(II)V"⟩, 39) := ⟨⟨by decide +kernel, by decide +kernel⟩, List.mem_of_getElem? (i := 794) (by decide +kernel), List.mem_of_getElem? (i := 972) (by decide +kernel), List.mem_of_getElem? (i := 973) (by decide +kernel)⟩
theorem lw_p19 : lw_okq (⟨"SpeakHallModel", "goes", "(I)V"⟩, 39) := ⟨⟨by decide +kernel, by decide +kernel⟩, List.mem_of_getElem? (i := 794) (by decide +kernel), List.mem_of_getElem? (i := 981) (by decide +kernel), List.mem_of_getElem? (i := 982) (by decide +kernel)⟩
theorem lw_p20 : lw_okq (⟨"SpeakHallModel", "hasKey", "(I)Z"⟩, 39) := ⟨⟨by decide +kernel, by decide +kernel⟩, List.mem_of_getElem? (i := 794) (by decide +kernel), List.mem_of_getElem? (i := 989) (by decide +kernel), List.mem_of_getElem? (i := 990) (by decide +kernel)⟩
theorem lw_p21 : lw_okq (⟨"SpeakHallModel", "tellList", "()V"⟩, 39) := ⟨⟨by decide +kernel, by decide +kernel⟩, List.mem_of_getElem? (i := 794) (by decide +kernel), List.mem_of_getElem? (i := 1001) (by decide +kernel), List.mem_of_getElem? (i := 1002) (by decide +kernel)⟩
theorem lw_p22 : lw_okq (⟨"SpeakHallModel", "isAhead", "(II)Z"⟩, 39) := ⟨⟨by decide +kernel, by decide +kernel⟩, List.mem_of_getElem? (i := 794) (by decide +kernel), List.mem_of_getElem? (i := 1005) (by decide +kernel), List.mem_of_getElem? (i := 1006) (by decide +kernel)⟩
theorem lw_p23 : lw_okq (⟨"SpeakHallModel", "rank", "(II)I"⟩, 39) := ⟨⟨by decide +kernel, by decide +kernel⟩, List.mem_of_getElem? (i := 794) (by decide +kernel), List.mem_of_getElem? (i := 1009) (by decide +kernel), List.mem_of_getElem? (i := 1010) (by decide +kernel)⟩
theorem lw_p24 : lw_okq (⟨"SpeakHallModel", "firstOf", "(I)I"⟩, 39) := ⟨⟨by decide +kernel, by decide +kernel⟩, List.mem_of_getElem? (i := 794) (by decide +kernel), List.mem_of_getElem? (i := 1021) (by decide +kernel), List.mem_of_getElem? (i := 1022) (by decide +kernel)⟩
theorem lw_p25 : lw_okq (⟨"SpeakHallModel", "limitOf", "(II)I"⟩, 39) := ⟨⟨by decide +kernel, by decide +kernel⟩, List.mem_of_getElem? (i := 794) (by decide +kernel), List.mem_of_getElem? (i := 1025) (by decide +kernel), List.mem_of_getElem? (i := 1026) (by decide +kernel)⟩
theorem lw_p26 : lw_okq (⟨"SpeakHallModel", "take", "(I)I"⟩, 39) := ⟨⟨by decide +kernel, by decide +kernel⟩, List.mem_of_getElem? (i := 794) (by decide +kernel), List.mem_of_getElem? (i := 1039) (by decide +kernel), List.mem_of_getElem? (i := 1040) (by decide +kernel)⟩
theorem lw_p27 : lw_okq (⟨"SpeakHallModel", "end", "()V"⟩, 39) := ⟨⟨by decide +kernel, by decide +kernel⟩, List.mem_of_getElem? (i := 794) (by decide +kernel), List.mem_of_getElem? (i := 1051) (by decide +kernel), List.mem_of_getElem? (i := 1052) (by decide +kernel)⟩
theorem lw_p28 : lw_okq (⟨"SpeakHallModel", "mayVote", "(I)Z"⟩, 39) := ⟨⟨by decide +kernel, by decide +kernel⟩, List.mem_of_getElem? (i := 794) (by decide +kernel), List.mem_of_getElem? (i := 1075) (by decide +kernel), List.mem_of_getElem? (i := 1076) (by decide +kernel)⟩
theorem lw_p29 : lw_okq (⟨"SpeakHallModel", "votesOf", "(I)I"⟩, 39) := ⟨⟨by decide +kernel, by decide +kernel⟩, List.mem_of_getElem? (i := 794) (by decide +kernel), List.mem_of_getElem? (i := 1083) (by decide +kernel), List.mem_of_getElem? (i := 1084) (by decide +kernel)⟩
theorem lw_p30 : lw_okq (⟨"SpeakHallModel", "hasMember", "(I)Z"⟩, 39) := ⟨⟨by decide +kernel, by decide +kernel⟩, List.mem_of_getElem? (i := 794) (by decide +kernel), List.mem_of_getElem? (i := 1102) (by decide +kernel), List.mem_of_getElem? (i := 1103) (by decide +kernel)⟩
theorem lw_p31 : lw_okq (⟨"SpeakHallModel", "ticksOf", "(II)I"⟩, 39) := ⟨⟨by decide +kernel, by decide +kernel⟩, List.mem_of_getElem? (i := 794) (by decide +kernel), List.mem_of_getElem? (i := 1117) (by decide +kernel), List.mem_of_getElem? (i := 1118) (by decide +kernel)⟩
def lw_privs_2 : List (MethodName × Nat) := [(⟨"SpeakHallModel", "timeOf", "(I)I"⟩, 39), (⟨"SpeakHallModel", "askingOf", "(II)I"⟩, 39), (⟨"SpeakHallModel", "comes", "(II)V"⟩, 39), (⟨"SpeakHallModel", "goes", "(I)V"⟩, 39), (⟨"SpeakHallModel", "hasKey", "(I)Z"⟩, 39), (⟨"SpeakHallModel", "tellList", "()V"⟩, 39), (⟨"SpeakHallModel", "isAhead", "(II)Z"⟩, 39), (⟨"SpeakHallModel", "rank", "(II)I"⟩, 39), (⟨"SpeakHallModel", "firstOf", "(I)I"⟩, 39), (⟨"SpeakHallModel", "limitOf", "(II)I"⟩, 39), (⟨"SpeakHallModel", "take", "(I)I"⟩, 39), (⟨"SpeakHallModel", "end", "()V"⟩, 39), (⟨"SpeakHallModel", "mayVote", "(I)Z"⟩, 39), (⟨"SpeakHallModel", "votesOf", "(I)I"⟩, 39), (⟨"SpeakHallModel", "hasMember", "(I)Z"⟩, 39), (⟨"SpeakHallModel", "ticksOf", "(II)I"⟩, 39)]
theorem lw_r2 : ∀ q ∈ lw_privs_2, lw_okq q := List.forall_mem_cons.mpr ⟨lw_p16, List.forall_mem_cons.mpr ⟨lw_p17, List.forall_mem_cons.mpr ⟨lw_p18, List.forall_mem_cons.mpr ⟨lw_p19, List.forall_mem_cons.mpr ⟨lw_p20, List.forall_mem_cons.mpr ⟨lw_p21, List.forall_mem_cons.mpr ⟨lw_p22, List.forall_mem_cons.mpr ⟨lw_p23, List.forall_mem_cons.mpr ⟨lw_p24, List.forall_mem_cons.mpr ⟨lw_p25, List.forall_mem_cons.mpr ⟨lw_p26, List.forall_mem_cons.mpr ⟨lw_p27, List.forall_mem_cons.mpr ⟨lw_p28, List.forall_mem_cons.mpr ⟨lw_p29, List.forall_mem_cons.mpr ⟨lw_p30, List.forall_mem_cons.mpr ⟨lw_p31, fun _ h => absurd h List.not_mem_nil⟩⟩⟩⟩⟩⟩⟩⟩⟩⟩⟩⟩⟩⟩⟩⟩
theorem lw_p32 : lw_okq (⟨"SpeakHallModel", "hasPart", "(III)Z"⟩, 39) := ⟨⟨by decide +kernel, by decide +kernel⟩, List.mem_of_getElem? (i := 794) (by decide +kernel), List.mem_of_getElem? (i := 1145) (by decide +kernel), List.mem_of_getElem? (i := 1146) (by decide +kernel)⟩
def lw_privs_3 : List (MethodName × Nat) := [(⟨"SpeakHallModel", "hasPart", "(III)Z"⟩, 39)]
theorem lw_r3 : ∀ q ∈ lw_privs_3, lw_okq q := List.forall_mem_cons.mpr ⟨lw_p32, fun _ h => absurd h List.not_mem_nil⟩
def lw_privs : List (MethodName × Nat) := lw_privs_1 ++ (lw_privs_2 ++ (lw_privs_3))
def lw_tbl : List Cond := k2_sels lw_privs ++ tables_1
theorem lw_privs_ok : ∀ q ∈ lw_privs, lw_okq q := by
  show ∀ q ∈ lw_privs_1 ++ (lw_privs_2 ++ (lw_privs_3)), lw_okq q
  exact List.forall_mem_append.mpr ⟨lw_r1, List.forall_mem_append.mpr ⟨lw_r2, lw_r3⟩⟩
end
section
def RX0 : String := "SpeakHall$Ballot"
def TX0 : u_T := fun k => match k with
  | 0 => ("SpeakHall$Ballot", "roster", "LSpeakHall$Roster;", true)
  | 1 => ("SpeakHall$Ballot", "said", "[I", true)
  | _ => ("SpeakHall$Ballot", "open", "Z", false)
def tyX0 : Nat → FieldType := fun k => match k with
  | 0 => .object "SpeakHall$Roster"
  | 1 => .array .int
  | _ => .boolean
abbrev wsX00 : List Cond := u_ws RX0 TX0 3
theorem nmX0 : ∀ a, a < 3 → ∀ b, b < 3 → a ≠ b → (TX0 a).2.1 ≠ (TX0 b).2.1 := by decide +kernel
theorem tyX0_ok : ∀ k, k < 3 → parseFieldDescriptor (TX0 k).2.2.1 = some (tyX0 k) := by decide +kernel
abbrev cX0_init : ByteArray := prog_2_method_1_code
def yX0_init : MethodName := ⟨RX0, "<init>", "(LSpeakHall$Roster;)V"⟩
abbrev cX0_isOpen : ByteArray := prog_2_method_2_code
def yX0_isOpen : MethodName := ⟨RX0, "isOpen", "()Z"⟩
abbrev cX0_open : ByteArray := prog_2_method_3_code
def yX0_open : MethodName := ⟨RX0, "open", "()V"⟩
abbrev cX0_shut : ByteArray := prog_2_method_4_code
def yX0_shut : MethodName := ⟨RX0, "shut", "()V"⟩
abbrev cX0_saidBy : ByteArray := prog_2_method_5_code
def yX0_saidBy : MethodName := ⟨RX0, "saidBy", "(I)I"⟩
abbrev cX0_mark : ByteArray := prog_2_method_6_code
def yX0_mark : MethodName := ⟨RX0, "mark", "(II)V"⟩
abbrev cX0_count : ByteArray := prog_2_method_7_code
def yX0_count : MethodName := ⟨RX0, "count", "(I)I"⟩
def RX1 : String := "SpeakHall$Floor"
def TX1 : u_T := fun k => match k with
  | 0 => ("SpeakHall$Floor", "holders", "[I", true)
  | 1 => ("SpeakHall$Floor", "sorts", "[I", true)
  | 2 => ("SpeakHall$Floor", "left", "[I", true)
  | 3 => ("SpeakHall$Floor", "had", "[I", true)
  | 4 => ("SpeakHall$Floor", "limits", "[I", true)
  | _ => ("SpeakHall$Floor", "depth", "I", false)
def tyX1 : Nat → FieldType := fun k => match k with
  | 0 => .array .int
  | 1 => .array .int
  | 2 => .array .int
  | 3 => .array .int
  | 4 => .array .int
  | _ => .int
abbrev wsX10 : List Cond := u_ws RX1 TX1 6
theorem nmX1 : ∀ a, a < 6 → ∀ b, b < 6 → a ≠ b → (TX1 a).2.1 ≠ (TX1 b).2.1 := by decide +kernel
theorem tyX1_ok : ∀ k, k < 6 → parseFieldDescriptor (TX1 k).2.2.1 = some (tyX1 k) := by decide +kernel
abbrev cX1_init : ByteArray := prog_3_method_1_code
def yX1_init : MethodName := ⟨RX1, "<init>", "()V"⟩
abbrev cX1_isHeld : ByteArray := prog_3_method_2_code
def yX1_isHeld : MethodName := ⟨RX1, "isHeld", "()Z"⟩
abbrev cX1_behind : ByteArray := prog_3_method_3_code
def yX1_behind : MethodName := ⟨RX1, "behind", "()I"⟩
abbrev cX1_holder : ByteArray := prog_3_method_4_code
def yX1_holder : MethodName := ⟨RX1, "holder", "()I"⟩
abbrev cX1_sortHeld : ByteArray := prog_3_method_5_code
def yX1_sortHeld : MethodName := ⟨RX1, "sortHeld", "()I"⟩
abbrev cX1_ticksLeft : ByteArray := prog_3_method_6_code
def yX1_ticksLeft : MethodName := ⟨RX1, "ticksLeft", "()I"⟩
abbrev cX1_ticksHad : ByteArray := prog_3_method_7_code
def yX1_ticksHad : MethodName := ⟨RX1, "ticksHad", "()I"⟩
abbrev cX1_limitOf : ByteArray := prog_3_method_8_code
def yX1_limitOf : MethodName := ⟨RX1, "limitOf", "(I)I"⟩
abbrev cX1_setLimit : ByteArray := prog_3_method_9_code
def yX1_setLimit : MethodName := ⟨RX1, "setLimit", "(II)V"⟩
abbrev cX1_push : ByteArray := prog_3_method_10_code
def yX1_push : MethodName := ⟨RX1, "push", "(III)V"⟩
abbrev cX1_pop : ByteArray := prog_3_method_11_code
def yX1_pop : MethodName := ⟨RX1, "pop", "()V"⟩
abbrev cX1_spendTick : ByteArray := prog_3_method_12_code
def yX1_spendTick : MethodName := ⟨RX1, "spendTick", "()V"⟩
def RX2 : String := "SpeakHall$Listing"
def TX2 : u_T := fun k => match k with
  | 0 => ("SpeakHall$Listing", "roster", "LSpeakHall$Roster;", true)
  | 1 => ("SpeakHall$Listing", "rule", "LSpeakHall$Rule;", true)
  | 2 => ("SpeakHall$Listing", "standing", "LSpeakHall$Standing;", true)
  | 3 => ("SpeakHall$Listing", "order", "[I", true)
  | _ => ("SpeakHall$Listing", "size", "I", false)
def tyX2 : Nat → FieldType := fun k => match k with
  | 0 => .object "SpeakHall$Roster"
  | 1 => .object "SpeakHall$Rule"
  | 2 => .object "SpeakHall$Standing"
  | 3 => .array .int
  | _ => .int
abbrev wsX20 : List Cond := u_ws RX2 TX2 5
theorem nmX2 : ∀ a, a < 5 → ∀ b, b < 5 → a ≠ b → (TX2 a).2.1 ≠ (TX2 b).2.1 := by decide +kernel
theorem tyX2_ok : ∀ k, k < 5 → parseFieldDescriptor (TX2 k).2.2.1 = some (tyX2 k) := by decide +kernel
abbrev cX2_init : ByteArray := prog_4_method_1_code
def yX2_init : MethodName := ⟨RX2, "<init>", "(LSpeakHall$Roster;LSpeakHall$Rule;LSpeakHall$Standing;)V"⟩
abbrev cX2_size : ByteArray := prog_4_method_2_code
def yX2_size : MethodName := ⟨RX2, "size", "()I"⟩
abbrev cX2_askingAt : ByteArray := prog_4_method_3_code
def yX2_askingAt : MethodName := ⟨RX2, "askingAt", "(I)I"⟩
abbrev cX2_placeOf : ByteArray := prog_4_method_4_code
def yX2_placeOf : MethodName := ⟨RX2, "placeOf", "(I)I"⟩
abbrev cX2_lay : ByteArray := prog_4_method_5_code
def yX2_lay : MethodName := ⟨RX2, "lay", "()V"⟩
def RX3 : String := "SpeakHall$Minutes"
def TX3 : u_T := fun k => match k with
  | 0 => ("SpeakHall$Minutes", "members", "[I", true)
  | 1 => ("SpeakHall$Minutes", "sorts", "[I", true)
  | 2 => ("SpeakHall$Minutes", "firstTicks", "[I", true)
  | 3 => ("SpeakHall$Minutes", "rightRows", "[I", true)
  | 4 => ("SpeakHall$Minutes", "rightTicks", "[I", true)
  | 5 => ("SpeakHall$Minutes", "written", "I", false)
  | _ => ("SpeakHall$Minutes", "rights", "I", false)
def tyX3 : Nat → FieldType := fun k => match k with
  | 0 => .array .int
  | 1 => .array .int
  | 2 => .array .int
  | 3 => .array .int
  | 4 => .array .int
  | 5 => .int
  | _ => .int
abbrev wsX30 : List Cond := u_ws RX3 TX3 7
theorem nmX3 : ∀ a, a < 7 → ∀ b, b < 7 → a ≠ b → (TX3 a).2.1 ≠ (TX3 b).2.1 := by decide +kernel
theorem tyX3_ok : ∀ k, k < 7 → parseFieldDescriptor (TX3 k).2.2.1 = some (tyX3 k) := by decide +kernel
abbrev cX3_init : ByteArray := prog_5_method_1_code
def yX3_init : MethodName := ⟨RX3, "<init>", "()V"⟩
abbrev cX3_size : ByteArray := prog_5_method_2_code
def yX3_size : MethodName := ⟨RX3, "size", "()I"⟩
abbrev cX3_has : ByteArray := prog_5_method_3_code
def yX3_has : MethodName := ⟨RX3, "has", "(I)Z"⟩
abbrev cX3_latestCount : ByteArray := prog_5_method_4_code
def yX3_latestCount : MethodName := ⟨RX3, "latestCount", "()I"⟩
abbrev cX3_write : ByteArray := prog_5_method_5_code
def yX3_write : MethodName := ⟨RX3, "write", "(III)V"⟩
abbrev cX3_memberAt : ByteArray := prog_5_method_6_code
def yX3_memberAt : MethodName := ⟨RX3, "memberAt", "(I)I"⟩
abbrev cX3_sortAt : ByteArray := prog_5_method_7_code
def yX3_sortAt : MethodName := ⟨RX3, "sortAt", "(I)I"⟩
abbrev cX3_firstTicksAt : ByteArray := prog_5_method_8_code
def yX3_firstTicksAt : MethodName := ⟨RX3, "firstTicksAt", "(I)I"⟩
abbrev cX3_ticksAsOf : ByteArray := prog_5_method_9_code
def yX3_ticksAsOf : MethodName := ⟨RX3, "ticksAsOf", "(II)I"⟩
abbrev cX3_correct : ByteArray := prog_5_method_10_code
def yX3_correct : MethodName := ⟨RX3, "correct", "(II)V"⟩
abbrev cX3_ticksOfMember : ByteArray := prog_5_method_11_code
def yX3_ticksOfMember : MethodName := ⟨RX3, "ticksOfMember", "(II)I"⟩
abbrev cX3_rowWritten : ByteArray := prog_5_method_12_code
def yX3_rowWritten : MethodName := ⟨RX3, "rowWritten", "(I)I"⟩
abbrev cX3_slotOf : ByteArray := prog_5_method_13_code
def yX3_slotOf : MethodName := ⟨RX3, "slotOf", "(I)I"⟩
def RX4 : String := "SpeakHall$Roster"
def TX4 : u_T := fun k => match k with
  | 0 => ("SpeakHall$Roster", "kinds", "[I", true)
  | 1 => ("SpeakHall$Roster", "delegations", "[I", true)
  | 2 => ("SpeakHall$Roster", "here", "[Z", true)
  | _ => ("SpeakHall$Roster", "size", "I", false)
def tyX4 : Nat → FieldType := fun k => match k with
  | 0 => .array .int
  | 1 => .array .int
  | 2 => .array .boolean
  | _ => .int
abbrev wsX40 : List Cond := u_ws RX4 TX4 4
theorem nmX4 : ∀ a, a < 4 → ∀ b, b < 4 → a ≠ b → (TX4 a).2.1 ≠ (TX4 b).2.1 := by decide +kernel
theorem tyX4_ok : ∀ k, k < 4 → parseFieldDescriptor (TX4 k).2.2.1 = some (tyX4 k) := by decide +kernel
abbrev cX4_init : ByteArray := prog_6_method_1_code
def yX4_init : MethodName := ⟨RX4, "<init>", "()V"⟩
abbrev cX4_size : ByteArray := prog_6_method_2_code
def yX4_size : MethodName := ⟨RX4, "size", "()I"⟩
abbrev cX4_has : ByteArray := prog_6_method_3_code
def yX4_has : MethodName := ⟨RX4, "has", "(I)Z"⟩
abbrev cX4_enter : ByteArray := prog_6_method_4_code
def yX4_enter : MethodName := ⟨RX4, "enter", "(II)I"⟩
abbrev cX4_kindOf : ByteArray := prog_6_method_5_code
def yX4_kindOf : MethodName := ⟨RX4, "kindOf", "(I)I"⟩
abbrev cX4_delegationOf : ByteArray := prog_6_method_6_code
def yX4_delegationOf : MethodName := ⟨RX4, "delegationOf", "(I)I"⟩
abbrev cX4_isHere : ByteArray := prog_6_method_7_code
def yX4_isHere : MethodName := ⟨RX4, "isHere", "(I)Z"⟩
abbrev cX4_setHere : ByteArray := prog_6_method_8_code
def yX4_setHere : MethodName := ⟨RX4, "setHere", "(IZ)V"⟩
abbrev cX4_isOfKind : ByteArray := prog_6_method_9_code
def yX4_isOfKind : MethodName := ⟨RX4, "isOfKind", "(II)Z"⟩
abbrev cX4_mayVote : ByteArray := prog_6_method_10_code
def yX4_mayVote : MethodName := ⟨RX4, "mayVote", "(I)Z"⟩
abbrev cX4_isPeopled : ByteArray := prog_6_method_11_code
def yX4_isPeopled : MethodName := ⟨RX4, "isPeopled", "(I)Z"⟩
def RX5 : String := "SpeakHall$Rule"
def TX5 : u_T := fun k => match k with
  | 0 => ("SpeakHall$Rule", "roster", "LSpeakHall$Roster;", true)
  | 1 => ("SpeakHall$Rule", "keys", "[I", true)
  | _ => ("SpeakHall$Rule", "size", "I", false)
def tyX5 : Nat → FieldType := fun k => match k with
  | 0 => .object "SpeakHall$Roster"
  | 1 => .array .int
  | _ => .int
abbrev wsX50 : List Cond := u_ws RX5 TX5 3
theorem nmX5 : ∀ a, a < 3 → ∀ b, b < 3 → a ≠ b → (TX5 a).2.1 ≠ (TX5 b).2.1 := by decide +kernel
theorem tyX5_ok : ∀ k, k < 3 → parseFieldDescriptor (TX5 k).2.2.1 = some (tyX5 k) := by decide +kernel
abbrev cX5_init : ByteArray := prog_7_method_1_code
def yX5_init : MethodName := ⟨RX5, "<init>", "(LSpeakHall$Roster;)V"⟩
abbrev cX5_size : ByteArray := prog_7_method_2_code
def yX5_size : MethodName := ⟨RX5, "size", "()I"⟩
abbrev cX5_has : ByteArray := prog_7_method_3_code
def yX5_has : MethodName := ⟨RX5, "has", "(I)Z"⟩
abbrev cX5_append : ByteArray := prog_7_method_4_code
def yX5_append : MethodName := ⟨RX5, "append", "(I)V"⟩
abbrev cX5_clear : ByteArray := prog_7_method_5_code
def yX5_clear : MethodName := ⟨RX5, "clear", "()V"⟩
abbrev cX5_firstOf : ByteArray := prog_7_method_6_code
def yX5_firstOf : MethodName := ⟨RX5, "firstOf", "(LSpeakHall$Standing;I)I"⟩
abbrev cX5_isAhead : ByteArray := prog_7_method_7_code
def yX5_isAhead : MethodName := ⟨RX5, "isAhead", "(LSpeakHall$Standing;II)Z"⟩
abbrev cX5_rankBy : ByteArray := prog_7_method_8_code
def yX5_rankBy : MethodName := ⟨RX5, "rankBy", "(ILSpeakHall$Standing;I)I"⟩
def RX6 : String := "SpeakHall$Sheet"
def TX6 : u_T := fun k => match k with
  | 0 => ("SpeakHall$Sheet", "numbers", "[I", true)
  | 1 => ("SpeakHall$Sheet", "bits", "I", false)
  | _ => ("SpeakHall$Sheet", "size", "I", false)
def tyX6 : Nat → FieldType := fun k => match k with
  | 0 => .array .int
  | 1 => .int
  | _ => .int
abbrev wsX60 : List Cond := u_ws RX6 TX6 3
theorem nmX6 : ∀ a, a < 3 → ∀ b, b < 3 → a ≠ b → (TX6 a).2.1 ≠ (TX6 b).2.1 := by decide +kernel
theorem tyX6_ok : ∀ k, k < 3 → parseFieldDescriptor (TX6 k).2.2.1 = some (tyX6 k) := by decide +kernel
abbrev cX6_init : ByteArray := prog_8_method_1_code
def yX6_init : MethodName := ⟨RX6, "<init>", "()V"⟩
abbrev cX6_isMissing : ByteArray := prog_8_method_2_code
def yX6_isMissing : MethodName := ⟨RX6, "isMissing", "()Z"⟩
abbrev cX6_width : ByteArray := prog_8_method_3_code
def yX6_width : MethodName := ⟨RX6, "width", "()I"⟩
abbrev cX6_size : ByteArray := prog_8_method_4_code
def yX6_size : MethodName := ⟨RX6, "size", "()I"⟩
abbrev cX6_numberAt : ByteArray := prog_8_method_5_code
def yX6_numberAt : MethodName := ⟨RX6, "numberAt", "(I)I"⟩
abbrev cX6_lay : ByteArray := prog_8_method_6_code
def yX6_lay : MethodName := ⟨RX6, "lay", "(II)V"⟩
abbrev cX6_store : ByteArray := prog_8_method_7_code
def yX6_store : MethodName := ⟨RX6, "store", "(II)V"⟩
abbrev cX6_lowestBits : ByteArray := prog_8_method_8_code
def yX6_lowestBits : MethodName := ⟨RX6, "lowestBits", "(I)I"⟩
abbrev cX6_spans : ByteArray := prog_8_method_9_code
def yX6_spans : MethodName := ⟨RX6, "spans", "(II)Z"⟩
abbrev cX6_take : ByteArray := prog_8_method_10_code
def yX6_take : MethodName := ⟨RX6, "take", "(ILSpeakHall$Sheet;II)V"⟩
abbrev cX6_lengthToZero : ByteArray := prog_8_method_11_code
def yX6_lengthToZero : MethodName := ⟨RX6, "lengthToZero", "()I"⟩
def RX7 : String := "SpeakHall$Standing"
def TX7 : u_T := fun k => match k with
  | 0 => ("SpeakHall$Standing", "roster", "LSpeakHall$Roster;", true)
  | 1 => ("SpeakHall$Standing", "askers", "[I", true)
  | 2 => ("SpeakHall$Standing", "sorts", "[I", true)
  | 3 => ("SpeakHall$Standing", "times", "[I", true)
  | 4 => ("SpeakHall$Standing", "speeches", "[I", true)
  | 5 => ("SpeakHall$Standing", "delegationTimes", "[I", true)
  | 6 => ("SpeakHall$Standing", "size", "I", false)
  | _ => ("SpeakHall$Standing", "latestDelegation", "I", false)
def tyX7 : Nat → FieldType := fun k => match k with
  | 0 => .object "SpeakHall$Roster"
  | 1 => .array .int
  | 2 => .array .int
  | 3 => .array .int
  | 4 => .array .int
  | 5 => .array .int
  | 6 => .int
  | _ => .int
abbrev wsX70 : List Cond := u_ws RX7 TX7 8
theorem nmX7 : ∀ a, a < 8 → ∀ b, b < 8 → a ≠ b → (TX7 a).2.1 ≠ (TX7 b).2.1 := by decide +kernel
theorem tyX7_ok : ∀ k, k < 8 → parseFieldDescriptor (TX7 k).2.2.1 = some (tyX7 k) := by decide +kernel
abbrev cX7_init : ByteArray := prog_9_method_1_code
def yX7_init : MethodName := ⟨RX7, "<init>", "(LSpeakHall$Roster;)V"⟩
abbrev cX7_become : ByteArray := prog_9_method_2_code
def yX7_become : MethodName := ⟨RX7, "become", "(LSpeakHall$Standing;)V"⟩
abbrev cX7_refill : ByteArray := prog_9_method_3_code
def yX7_refill : MethodName := ⟨RX7, "refill", "([I[I)V"⟩
abbrev cX7_size : ByteArray := prog_9_method_4_code
def yX7_size : MethodName := ⟨RX7, "size", "()I"⟩
abbrev cX7_memberAt : ByteArray := prog_9_method_5_code
def yX7_memberAt : MethodName := ⟨RX7, "memberAt", "(I)I"⟩
abbrev cX7_sortAt : ByteArray := prog_9_method_6_code
def yX7_sortAt : MethodName := ⟨RX7, "sortAt", "(I)I"⟩
abbrev cX7_timeOf : ByteArray := prog_9_method_7_code
def yX7_timeOf : MethodName := ⟨RX7, "timeOf", "(I)I"⟩
abbrev cX7_speechesOf : ByteArray := prog_9_method_8_code
def yX7_speechesOf : MethodName := ⟨RX7, "speechesOf", "(I)I"⟩
abbrev cX7_delegationTime : ByteArray := prog_9_method_9_code
def yX7_delegationTime : MethodName := ⟨RX7, "delegationTime", "(I)I"⟩
abbrev cX7_latestDelegation : ByteArray := prog_9_method_10_code
def yX7_latestDelegation : MethodName := ⟨RX7, "latestDelegation", "()I"⟩
abbrev cX7_find : ByteArray := prog_9_method_11_code
def yX7_find : MethodName := ⟨RX7, "find", "(II)I"⟩
abbrev cX7_append : ByteArray := prog_9_method_12_code
def yX7_append : MethodName := ⟨RX7, "append", "(II)V"⟩
abbrev cX7_drop : ByteArray := prog_9_method_13_code
def yX7_drop : MethodName := ⟨RX7, "drop", "(I)V"⟩
abbrev cX7_take : ByteArray := prog_9_method_14_code
def yX7_take : MethodName := ⟨RX7, "take", "(I)V"⟩
abbrev cX7_addTime : ByteArray := prog_9_method_15_code
def yX7_addTime : MethodName := ⟨RX7, "addTime", "(II)V"⟩
def RX8 : String := "SpeakHall"
def TX8 : u_T := fun k => match k with
  | 0 => ("SpeakHall", "roster", "LSpeakHall$Roster;", true)
  | 1 => ("SpeakHall", "standing", "LSpeakHall$Standing;", true)
  | 2 => ("SpeakHall", "supposed", "LSpeakHall$Standing;", true)
  | 3 => ("SpeakHall", "rule", "LSpeakHall$Rule;", true)
  | 4 => ("SpeakHall", "list", "LSpeakHall$Listing;", true)
  | 5 => ("SpeakHall", "floor", "LSpeakHall$Floor;", true)
  | 6 => ("SpeakHall", "ballot", "LSpeakHall$Ballot;", true)
  | 7 => ("SpeakHall", "minutes", "LSpeakHall$Minutes;", true)
  | 8 => ("SpeakHall", "sheets", "[LSpeakHall$Sheet;", true)
  | _ => ("SpeakHall", "findings", "I", false)
def tyX8 : Nat → FieldType := fun k => match k with
  | 0 => .object "SpeakHall$Roster"
  | 1 => .object "SpeakHall$Standing"
  | 2 => .object "SpeakHall$Standing"
  | 3 => .object "SpeakHall$Rule"
  | 4 => .object "SpeakHall$Listing"
  | 5 => .object "SpeakHall$Floor"
  | 6 => .object "SpeakHall$Ballot"
  | 7 => .object "SpeakHall$Minutes"
  | 8 => .array (.object "SpeakHall$Sheet")
  | _ => .int
abbrev wsX80 : List Cond := u_ws RX8 TX8 10
theorem nmX8 : ∀ a, a < 10 → ∀ b, b < 10 → a ≠ b → (TX8 a).2.1 ≠ (TX8 b).2.1 := by decide +kernel
theorem tyX8_ok : ∀ k, k < 10 → parseFieldDescriptor (TX8 k).2.2.1 = some (tyX8 k) := by decide +kernel
abbrev cX8_init : ByteArray := prog_1_method_1_code
def yX8_init : MethodName := ⟨RX8, "<init>", "()V"⟩
abbrev cX8_member : ByteArray := prog_1_method_2_code
def yX8_member : MethodName := ⟨RX8, "member", "(II)I"⟩
abbrev cX8_as : ByteArray := prog_1_method_3_code
def yX8_as : MethodName := ⟨RX8, "as", "(II)I"⟩
abbrev cX8_present : ByteArray := prog_1_method_4_code
def yX8_present : MethodName := ⟨RX8, "present", "(IZ)I"⟩
abbrev cX8_of : ByteArray := prog_1_method_5_code
def yX8_of : MethodName := ⟨RX8, "of", "(II)I"⟩
abbrev cX8_time : ByteArray := prog_1_method_6_code
def yX8_time : MethodName := ⟨RX8, "time", "(I)I"⟩
abbrev cX8_ask : ByteArray := prog_1_method_7_code
def yX8_ask : MethodName := ⟨RX8, "ask", "(II)I"⟩
abbrev cX8_withdraw : ByteArray := prog_1_method_8_code
def yX8_withdraw : MethodName := ⟨RX8, "withdraw", "(II)I"⟩
abbrev cX8_key : ByteArray := prog_1_method_9_code
def yX8_key : MethodName := ⟨RX8, "key", "(I)I"⟩
abbrev cX8_noKeys : ByteArray := prog_1_method_10_code
def yX8_noKeys : MethodName := ⟨RX8, "noKeys", "()I"⟩
abbrev cX8_listed : ByteArray := prog_1_method_11_code
def yX8_listed : MethodName := ⟨RX8, "listed", "(IZ)I"⟩
abbrev cX8_place : ByteArray := prog_1_method_12_code
def yX8_place : MethodName := ⟨RX8, "place", "(II)I"⟩
abbrev cX8_wait : ByteArray := prog_1_method_13_code
def yX8_wait : MethodName := ⟨RX8, "wait", "(I)I"⟩
abbrev cX8_fits : ByteArray := prog_1_method_14_code
def yX8_fits : MethodName := ⟨RX8, "fits", "(IZ)I"⟩
abbrev cX8_begin : ByteArray := prog_1_method_15_code
def yX8_begin : MethodName := ⟨RX8, "begin", "()I"⟩
abbrev cX8_cut : ByteArray := prog_1_method_16_code
def yX8_cut : MethodName := ⟨RX8, "cut", "()I"⟩
abbrev cX8_tick : ByteArray := prog_1_method_17_code
def yX8_tick : MethodName := ⟨RX8, "tick", "(I)I"⟩
abbrev cX8_yield : ByteArray := prog_1_method_18_code
def yX8_yield : MethodName := ⟨RX8, "yield", "()I"⟩
abbrev cX8_floor : ByteArray := prog_1_method_19_code
def yX8_floor : MethodName := ⟨RX8, "floor", "(I)I"⟩
abbrev cX8_limit : ByteArray := prog_1_method_20_code
def yX8_limit : MethodName := ⟨RX8, "limit", "(II)I"⟩
abbrev cX8_vote : ByteArray := prog_1_method_21_code
def yX8_vote : MethodName := ⟨RX8, "vote", "()I"⟩
abbrev cX8_say : ByteArray := prog_1_method_22_code
def yX8_say : MethodName := ⟨RX8, "say", "(II)I"⟩
abbrev cX8_votes : ByteArray := prog_1_method_23_code
def yX8_votes : MethodName := ⟨RX8, "votes", "(I)I"⟩
abbrev cX8_close : ByteArray := prog_1_method_24_code
def yX8_close : MethodName := ⟨RX8, "close", "(I)I"⟩
abbrev cX8_hands : ByteArray := prog_1_method_25_code
def yX8_hands : MethodName := ⟨RX8, "hands", "(IIII)I"⟩
abbrev cX8_apart : ByteArray := prog_1_method_26_code
def yX8_apart : MethodName := ⟨RX8, "apart", "()I"⟩
abbrev cX8_uneven : ByteArray := prog_1_method_27_code
def yX8_uneven : MethodName := ⟨RX8, "uneven", "(Z)I"⟩
abbrev cX8_minutes : ByteArray := prog_1_method_28_code
def yX8_minutes : MethodName := ⟨RX8, "minutes", "(II)I"⟩
abbrev cX8_right : ByteArray := prog_1_method_29_code
def yX8_right : MethodName := ⟨RX8, "right", "(II)I"⟩
abbrev cX8_sum : ByteArray := prog_1_method_30_code
def yX8_sum : MethodName := ⟨RX8, "sum", "(II)I"⟩
abbrev cX8_sheet : ByteArray := prog_1_method_31_code
def yX8_sheet : MethodName := ⟨RX8, "sheet", "(III)I"⟩
abbrev cX8_put : ByteArray := prog_1_method_32_code
def yX8_put : MethodName := ⟨RX8, "put", "(III)I"⟩
abbrev cX8_copy : ByteArray := prog_1_method_33_code
def yX8_copy : MethodName := ⟨RX8, "copy", "(IIIII)I"⟩
abbrev cX8_read : ByteArray := prog_1_method_34_code
def yX8_read : MethodName := ⟨RX8, "read", "(I)I"⟩
abbrev cX8_told : ByteArray := prog_1_method_35_code
def yX8_told : MethodName := ⟨RX8, "told", "(I)I"⟩
abbrev cX8_finding : ByteArray := prog_1_method_36_code
def yX8_finding : MethodName := ⟨RX8, "finding", "(I)I"⟩
abbrev cX8_isAsking : ByteArray := prog_1_method_37_code
def yX8_isAsking : MethodName := ⟨RX8, "isAsking", "(II)Z"⟩
abbrev cX8_ticksFor : ByteArray := prog_1_method_38_code
def yX8_ticksFor : MethodName := ⟨RX8, "ticksFor", "(II)I"⟩
abbrev cX8_takeFloor : ByteArray := prog_1_method_39_code
def yX8_takeFloor : MethodName := ⟨RX8, "takeFloor", "(I)I"⟩
abbrev cX8_endHolding : ByteArray := prog_1_method_40_code
def yX8_endHolding : MethodName := ⟨RX8, "endHolding", "()V"⟩
abbrev cX8_gapsOfPairs : ByteArray := prog_1_method_41_code
def yX8_gapsOfPairs : MethodName := ⟨RX8, "gapsOfPairs", "()I"⟩
abbrev cX8_peopledDelegations : ByteArray := prog_1_method_42_code
def yX8_peopledDelegations : MethodName := ⟨RX8, "peopledDelegations", "()I"⟩
abbrev cX8_allTime : ByteArray := prog_1_method_43_code
def yX8_allTime : MethodName := ⟨RX8, "allTime", "()I"⟩
abbrev cX8_sheetAt : ByteArray := prog_1_method_44_code
def yX8_sheetAt : MethodName := ⟨RX8, "sheetAt", "(I)LSpeakHall$Sheet;"⟩
abbrev cX8_faultOfKeys : ByteArray := prog_1_method_45_code
def yX8_faultOfKeys : MethodName := ⟨RX8, "faultOfKeys", "(LSpeakHall$Sheet;I)I"⟩
abbrev cX8_isKey : ByteArray := prog_1_method_46_code
def yX8_isKey : MethodName := ⟨RX8, "isKey", "(I)Z"⟩
abbrev cX8_isNeed : ByteArray := prog_1_method_47_code
def yX8_isNeed : MethodName := ⟨RX8, "isNeed", "(I)Z"⟩
abbrev cX8_isWidth : ByteArray := prog_1_method_48_code
def yX8_isWidth : MethodName := ⟨RX8, "isWidth", "(I)Z"⟩
abbrev cX8_passes : ByteArray := prog_1_method_49_code
def yX8_passes : MethodName := ⟨RX8, "passes", "(III)Z"⟩
abbrev cX8_greatestDivisor : ByteArray := prog_1_method_50_code
def yX8_greatestDivisor : MethodName := ⟨RX8, "greatestDivisor", "(II)I"⟩
abbrev cX8_isWithin : ByteArray := prog_1_method_51_code
def yX8_isWithin : MethodName := ⟨RX8, "isWithin", "(III)Z"⟩
abbrev cX8_at : ByteArray := prog_1_method_52_code
def yX8_at : MethodName := ⟨RX8, "at", "([II)I"⟩
abbrev cX8_set : ByteArray := prog_1_method_53_code
def yX8_set : MethodName := ⟨RX8, "set", "([III)V"⟩
def RX9 : String := "SpeakHallModel"
def TX9 : u_T := fun k => match k with
  | 0 => ("SpeakHallModel", "members", "I", false)
  | 1 => ("SpeakHallModel", "kind", "[I", true)
  | 2 => ("SpeakHallModel", "delegation", "[I", true)
  | 3 => ("SpeakHallModel", "isPresent", "[Z", true)
  | 4 => ("SpeakHallModel", "time", "[I", true)
  | 5 => ("SpeakHallModel", "speeches", "[I", true)
  | 6 => ("SpeakHallModel", "askings", "I", false)
  | 7 => ("SpeakHallModel", "asker", "[I", true)
  | 8 => ("SpeakHallModel", "sort", "[I", true)
  | 9 => ("SpeakHallModel", "keys", "I", false)
  | 10 => ("SpeakHallModel", "key", "[I", true)
  | 11 => ("SpeakHallModel", "latest", "I", false)
  | 12 => ("SpeakHallModel", "floors", "I", false)
  | 13 => ("SpeakHallModel", "speaker", "[I", true)
  | 14 => ("SpeakHallModel", "floorSort", "[I", true)
  | 15 => ("SpeakHallModel", "left", "[I", true)
  | 16 => ("SpeakHallModel", "had", "[I", true)
  | 17 => ("SpeakHallModel", "limit", "[I", true)
  | 18 => ("SpeakHallModel", "isOpen", "Z", false)
  | 19 => ("SpeakHallModel", "said", "[I", true)
  | 20 => ("SpeakHallModel", "rows", "I", false)
  | 21 => ("SpeakHallModel", "rowsGone", "I", false)
  | 22 => ("SpeakHallModel", "rowMember", "[I", true)
  | 23 => ("SpeakHallModel", "rowSort", "[I", true)
  | 24 => ("SpeakHallModel", "rowTicks", "[I", true)
  | 25 => ("SpeakHallModel", "rights", "I", false)
  | 26 => ("SpeakHallModel", "rightRow", "[I", true)
  | 27 => ("SpeakHallModel", "rightTicks", "[I", true)
  | 28 => ("SpeakHallModel", "sheetBits", "[I", true)
  | 29 => ("SpeakHallModel", "sheetSize", "[I", true)
  | 30 => ("SpeakHallModel", "sheet", "[I", true)
  | 31 => ("SpeakHallModel", "found", "I", false)
  | 32 => ("SpeakHallModel", "list", "[I", true)
  | 33 => ("SpeakHallModel", "listMany", "I", false)
  | 34 => ("SpeakHallModel", "keptAsker", "[I", true)
  | 35 => ("SpeakHallModel", "keptSort", "[I", true)
  | 36 => ("SpeakHallModel", "keptTime", "[I", true)
  | 37 => ("SpeakHallModel", "keptSpeeches", "[I", true)
  | _ => ("SpeakHallModel", "carried", "[I", true)
def tyX9 : Nat → FieldType := fun k => match k with
  | 0 => .int
  | 1 => .array .int
  | 2 => .array .int
  | 3 => .array .boolean
  | 4 => .array .int
  | 5 => .array .int
  | 6 => .int
  | 7 => .array .int
  | 8 => .array .int
  | 9 => .int
  | 10 => .array .int
  | 11 => .int
  | 12 => .int
  | 13 => .array .int
  | 14 => .array .int
  | 15 => .array .int
  | 16 => .array .int
  | 17 => .array .int
  | 18 => .boolean
  | 19 => .array .int
  | 20 => .int
  | 21 => .int
  | 22 => .array .int
  | 23 => .array .int
  | 24 => .array .int
  | 25 => .int
  | 26 => .array .int
  | 27 => .array .int
  | 28 => .array .int
  | 29 => .array .int
  | 30 => .array .int
  | 31 => .int
  | 32 => .array .int
  | 33 => .int
  | 34 => .array .int
  | 35 => .array .int
  | 36 => .array .int
  | 37 => .array .int
  | _ => .array .int
abbrev wsX90 : List Cond := u_ws RX9 TX9 39
theorem nmX9 : ∀ a, a < 39 → ∀ b, b < 39 → a ≠ b → (TX9 a).2.1 ≠ (TX9 b).2.1 := by decide +kernel
theorem tyX9_ok : ∀ k, k < 39 → parseFieldDescriptor (TX9 k).2.2.1 = some (tyX9 k) := by decide +kernel
abbrev cX9_init : ByteArray := prog_11_method_1_code
def yX9_init : MethodName := ⟨RX9, "<init>", "()V"⟩
abbrev cX9_finding : ByteArray := prog_11_method_2_code
def yX9_finding : MethodName := ⟨RX9, "finding", "(I)I"⟩
abbrev cX9_isIn : ByteArray := prog_11_method_3_code
def yX9_isIn : MethodName := ⟨RX9, "isIn", "(III)Z"⟩
abbrev cX9_isMember : ByteArray := prog_11_method_4_code
def yX9_isMember : MethodName := ⟨RX9, "isMember", "(I)Z"⟩
abbrev cX9_isSort : ByteArray := prog_11_method_5_code
def yX9_isSort : MethodName := ⟨RX9, "isSort", "(I)Z"⟩
abbrev cX9_isGuest : ByteArray := prog_11_method_6_code
def yX9_isGuest : MethodName := ⟨RX9, "isGuest", "(I)Z"⟩
abbrev cX9_member : ByteArray := prog_11_method_7_code
def yX9_member : MethodName := ⟨RX9, "member", "(II)I"⟩
abbrev cX9_as : ByteArray := prog_11_method_8_code
def yX9_as : MethodName := ⟨RX9, "as", "(II)I"⟩
abbrev cX9_present : ByteArray := prog_11_method_9_code
def yX9_present : MethodName := ⟨RX9, "present", "(IZ)I"⟩
abbrev cX9_of : ByteArray := prog_11_method_10_code
def yX9_of : MethodName := ⟨RX9, "of", "(II)I"⟩
abbrev cX9_timeOf : ByteArray := prog_11_method_11_code
def yX9_timeOf : MethodName := ⟨RX9, "timeOf", "(I)I"⟩
abbrev cX9_time : ByteArray := prog_11_method_12_code
def yX9_time : MethodName := ⟨RX9, "time", "(I)I"⟩
abbrev cX9_askingOf : ByteArray := prog_11_method_13_code
def yX9_askingOf : MethodName := ⟨RX9, "askingOf", "(II)I"⟩
abbrev cX9_comes : ByteArray := prog_11_method_14_code
def yX9_comes : MethodName := ⟨RX9, "comes", "(II)V"⟩
abbrev cX9_goes : ByteArray := prog_11_method_15_code
def yX9_goes : MethodName := ⟨RX9, "goes", "(I)V"⟩
abbrev cX9_ask : ByteArray := prog_11_method_16_code
def yX9_ask : MethodName := ⟨RX9, "ask", "(II)I"⟩
abbrev cX9_withdraw : ByteArray := prog_11_method_17_code
def yX9_withdraw : MethodName := ⟨RX9, "withdraw", "(II)I"⟩
abbrev cX9_hasKey : ByteArray := prog_11_method_18_code
def yX9_hasKey : MethodName := ⟨RX9, "hasKey", "(I)Z"⟩
abbrev cX9_key : ByteArray := prog_11_method_19_code
def yX9_key : MethodName := ⟨RX9, "key", "(I)I"⟩
abbrev cX9_noKeys : ByteArray := prog_11_method_20_code
def yX9_noKeys : MethodName := ⟨RX9, "noKeys", "()I"⟩
abbrev cX9_rank : ByteArray := prog_11_method_21_code
def yX9_rank : MethodName := ⟨RX9, "rank", "(II)I"⟩
abbrev cX9_isAhead : ByteArray := prog_11_method_22_code
def yX9_isAhead : MethodName := ⟨RX9, "isAhead", "(II)Z"⟩
abbrev cX9_tellList : ByteArray := prog_11_method_23_code
def yX9_tellList : MethodName := ⟨RX9, "tellList", "()V"⟩
abbrev cX9_listed : ByteArray := prog_11_method_24_code
def yX9_listed : MethodName := ⟨RX9, "listed", "(IZ)I"⟩
abbrev cX9_place : ByteArray := prog_11_method_25_code
def yX9_place : MethodName := ⟨RX9, "place", "(II)I"⟩
abbrev cX9_firstOf : ByteArray := prog_11_method_26_code
def yX9_firstOf : MethodName := ⟨RX9, "firstOf", "(I)I"⟩
abbrev cX9_limitOf : ByteArray := prog_11_method_27_code
def yX9_limitOf : MethodName := ⟨RX9, "limitOf", "(II)I"⟩
abbrev cX9_wait : ByteArray := prog_11_method_28_code
def yX9_wait : MethodName := ⟨RX9, "wait", "(I)I"⟩
abbrev cX9_fits : ByteArray := prog_11_method_29_code
def yX9_fits : MethodName := ⟨RX9, "fits", "(IZ)I"⟩
abbrev cX9_take : ByteArray := prog_11_method_30_code
def yX9_take : MethodName := ⟨RX9, "take", "(I)I"⟩
abbrev cX9_end : ByteArray := prog_11_method_31_code
def yX9_end : MethodName := ⟨RX9, "end", "()V"⟩
abbrev cX9_begin : ByteArray := prog_11_method_32_code
def yX9_begin : MethodName := ⟨RX9, "begin", "()I"⟩
abbrev cX9_cut : ByteArray := prog_11_method_33_code
def yX9_cut : MethodName := ⟨RX9, "cut", "()I"⟩
abbrev cX9_tick : ByteArray := prog_11_method_34_code
def yX9_tick : MethodName := ⟨RX9, "tick", "(I)I"⟩
abbrev cX9_yield : ByteArray := prog_11_method_35_code
def yX9_yield : MethodName := ⟨RX9, "yield", "()I"⟩
abbrev cX9_floor : ByteArray := prog_11_method_36_code
def yX9_floor : MethodName := ⟨RX9, "floor", "(I)I"⟩
abbrev cX9_limit : ByteArray := prog_11_method_37_code
def yX9_limit : MethodName := ⟨RX9, "limit", "(II)I"⟩
abbrev cX9_vote : ByteArray := prog_11_method_38_code
def yX9_vote : MethodName := ⟨RX9, "vote", "()I"⟩
abbrev cX9_mayVote : ByteArray := prog_11_method_39_code
def yX9_mayVote : MethodName := ⟨RX9, "mayVote", "(I)Z"⟩
abbrev cX9_say : ByteArray := prog_11_method_40_code
def yX9_say : MethodName := ⟨RX9, "say", "(II)I"⟩
abbrev cX9_votesOf : ByteArray := prog_11_method_41_code
def yX9_votesOf : MethodName := ⟨RX9, "votesOf", "(I)I"⟩
abbrev cX9_votes : ByteArray := prog_11_method_42_code
def yX9_votes : MethodName := ⟨RX9, "votes", "(I)I"⟩
abbrev cX9_passes : ByteArray := prog_11_method_43_code
def yX9_passes : MethodName := ⟨RX9, "passes", "(III)Z"⟩
abbrev cX9_close : ByteArray := prog_11_method_44_code
def yX9_close : MethodName := ⟨RX9, "close", "(I)I"⟩
abbrev cX9_hands : ByteArray := prog_11_method_45_code
def yX9_hands : MethodName := ⟨RX9, "hands", "(IIII)I"⟩
abbrev cX9_hasMember : ByteArray := prog_11_method_46_code
def yX9_hasMember : MethodName := ⟨RX9, "hasMember", "(I)Z"⟩
abbrev cX9_apart : ByteArray := prog_11_method_47_code
def yX9_apart : MethodName := ⟨RX9, "apart", "()I"⟩
abbrev cX9_common : ByteArray := prog_11_method_48_code
def yX9_common : MethodName := ⟨RX9, "common", "(II)I"⟩
abbrev cX9_uneven : ByteArray := prog_11_method_49_code
def yX9_uneven : MethodName := ⟨RX9, "uneven", "(Z)I"⟩
abbrev cX9_ticksOf : ByteArray := prog_11_method_50_code
def yX9_ticksOf : MethodName := ⟨RX9, "ticksOf", "(II)I"⟩
abbrev cX9_minutes : ByteArray := prog_11_method_51_code
def yX9_minutes : MethodName := ⟨RX9, "minutes", "(II)I"⟩
abbrev cX9_right : ByteArray := prog_11_method_52_code
def yX9_right : MethodName := ⟨RX9, "right", "(II)I"⟩
abbrev cX9_sum : ByteArray := prog_11_method_53_code
def yX9_sum : MethodName := ⟨RX9, "sum", "(II)I"⟩
abbrev cX9_isSheet : ByteArray := prog_11_method_54_code
def yX9_isSheet : MethodName := ⟨RX9, "isSheet", "(I)Z"⟩
abbrev cX9_sheet : ByteArray := prog_11_method_55_code
def yX9_sheet : MethodName := ⟨RX9, "sheet", "(III)I"⟩
abbrev cX9_put : ByteArray := prog_11_method_56_code
def yX9_put : MethodName := ⟨RX9, "put", "(III)I"⟩
abbrev cX9_hasPart : ByteArray := prog_11_method_57_code
def yX9_hasPart : MethodName := ⟨RX9, "hasPart", "(III)Z"⟩
abbrev cX9_copy : ByteArray := prog_11_method_58_code
def yX9_copy : MethodName := ⟨RX9, "copy", "(IIIII)I"⟩
abbrev cX9_read : ByteArray := prog_11_method_59_code
def yX9_read : MethodName := ⟨RX9, "read", "(I)I"⟩
abbrev cX9_told : ByteArray := prog_11_method_60_code
def yX9_told : MethodName := ⟨RX9, "told", "(I)I"⟩
def RJ9 : String := "java/lang/Math"
def TJ9 : u_T := fun k => match k with
  | _ => ("", "", "", false)
def tyJ9 : Nat → FieldType := fun k => match k with
  | _ => .int
abbrev wsJ90 : List Cond := u_ws RJ9 TJ9 0
theorem nmJ9 : ∀ a, a < 0 → ∀ b, b < 0 → a ≠ b → (TJ9 a).2.1 ≠ (TJ9 b).2.1 := by decide +kernel
theorem tyJ9_ok : ∀ k, k < 0 → parseFieldDescriptor (TJ9 k).2.2.1 = some (tyJ9 k) := by decide +kernel
abbrev cJ9_abs_0f7a4 : ByteArray := prog_12_method_59_code
def yJ9_abs_0f7a4 : MethodName := ⟨RJ9, "abs", "(I)I"⟩
abbrev cJ9_max_7cf53 : ByteArray := prog_12_method_65_code
def yJ9_max_7cf53 : MethodName := ⟨RJ9, "max", "(II)I"⟩
abbrev cJ9_min_7cf53 : ByteArray := prog_12_method_69_code
def yJ9_min_7cf53 : MethodName := ⟨RJ9, "min", "(II)I"⟩
def RL : String := "SpeakHallLaw"
abbrev cL_law : ByteArray := code
def yL_law : MethodName := ⟨RL, "law", "([I)Z"⟩
abbrev vwCl : List vw_C := [(RX0, TX0, 3), (RX1, TX1, 6), (RX2, TX2, 5), (RX3, TX3, 7), (RX4, TX4, 4), (RX5, TX5, 3), (RX6, TX6, 3), (RX7, TX7, 8), (RX8, TX8, 10), (RX9, TX9, 39)]
end
section
def gw : List Cond := lw_tbl.filter goodWord
theorem gw_in {w : Cond} (i : Nat) (h : lw_tbl[i]? = some w) (hg : goodWord w = true) : w ∈ gw := List.mem_filter.mpr ⟨List.mem_of_getElem? h, hg⟩
theorem gw_good {w : Cond} (h : w ∈ gw) : goodWord w = true := (List.mem_filter.mp h).2
theorem gw_tbl {w : Cond} (h : w ∈ gw) : w ∈ lw_tbl := (List.mem_filter.mp h).1
theorem mS_X8_finding : Cond.selects RX8 yX8_finding yX8_finding ∈ gw := gw_in 0 (by decide +kernel) (by decide +kernel)
theorem mS_X8_isAsking : Cond.selects RX8 yX8_isAsking yX8_isAsking ∈ gw := gw_in 1 (by decide +kernel) (by decide +kernel)
theorem mS_X5_rankBy : Cond.selects RX5 yX5_rankBy yX5_rankBy ∈ gw := gw_in 2 (by decide +kernel) (by decide +kernel)
theorem mS_X8_ticksFor : Cond.selects RX8 yX8_ticksFor yX8_ticksFor ∈ gw := gw_in 3 (by decide +kernel) (by decide +kernel)
theorem mS_X8_takeFloor : Cond.selects RX8 yX8_takeFloor yX8_takeFloor ∈ gw := gw_in 4 (by decide +kernel) (by decide +kernel)
theorem mS_X8_endHolding : Cond.selects RX8 yX8_endHolding yX8_endHolding ∈ gw := gw_in 5 (by decide +kernel) (by decide +kernel)
theorem mS_X8_gapsOfPairs : Cond.selects RX8 yX8_gapsOfPairs yX8_gapsOfPairs ∈ gw := gw_in 6 (by decide +kernel) (by decide +kernel)
theorem mS_X8_peopledDelegations : Cond.selects RX8 yX8_peopledDelegations yX8_peopledDelegations ∈ gw := gw_in 7 (by decide +kernel) (by decide +kernel)
theorem mS_X8_allTime : Cond.selects RX8 yX8_allTime yX8_allTime ∈ gw := gw_in 8 (by decide +kernel) (by decide +kernel)
theorem mS_X3_slotOf : Cond.selects RX3 yX3_slotOf yX3_slotOf ∈ gw := gw_in 9 (by decide +kernel) (by decide +kernel)
theorem mS_X3_rowWritten : Cond.selects RX3 yX3_rowWritten yX3_rowWritten ∈ gw := gw_in 10 (by decide +kernel) (by decide +kernel)
theorem mS_X8_sheetAt : Cond.selects RX8 yX8_sheetAt yX8_sheetAt ∈ gw := gw_in 11 (by decide +kernel) (by decide +kernel)
theorem mS_X6_lowestBits : Cond.selects RX6 yX6_lowestBits yX6_lowestBits ∈ gw := gw_in 12 (by decide +kernel) (by decide +kernel)
theorem mS_X9_finding : Cond.selects RX9 yX9_finding yX9_finding ∈ gw := gw_in 13 (by decide +kernel) (by decide +kernel)
theorem mS_X9_isMember : Cond.selects RX9 yX9_isMember yX9_isMember ∈ gw := gw_in 14 (by decide +kernel) (by decide +kernel)
theorem mS_X9_isGuest : Cond.selects RX9 yX9_isGuest yX9_isGuest ∈ gw := gw_in 15 (by decide +kernel) (by decide +kernel)
theorem mS_X9_timeOf : Cond.selects RX9 yX9_timeOf yX9_timeOf ∈ gw := gw_in 16 (by decide +kernel) (by decide +kernel)
theorem mS_X9_askingOf : Cond.selects RX9 yX9_askingOf yX9_askingOf ∈ gw := gw_in 17 (by decide +kernel) (by decide +kernel)
theorem mS_X9_comes : Cond.selects RX9 yX9_comes yX9_comes ∈ gw := gw_in 18 (by decide +kernel) (by decide +kernel)
theorem mS_X9_goes : Cond.selects RX9 yX9_goes yX9_goes ∈ gw := gw_in 19 (by decide +kernel) (by decide +kernel)
theorem mS_X9_hasKey : Cond.selects RX9 yX9_hasKey yX9_hasKey ∈ gw := gw_in 20 (by decide +kernel) (by decide +kernel)
theorem mS_X9_tellList : Cond.selects RX9 yX9_tellList yX9_tellList ∈ gw := gw_in 21 (by decide +kernel) (by decide +kernel)
theorem mS_X9_isAhead : Cond.selects RX9 yX9_isAhead yX9_isAhead ∈ gw := gw_in 22 (by decide +kernel) (by decide +kernel)
theorem mS_X9_rank : Cond.selects RX9 yX9_rank yX9_rank ∈ gw := gw_in 23 (by decide +kernel) (by decide +kernel)
theorem mS_X9_firstOf : Cond.selects RX9 yX9_firstOf yX9_firstOf ∈ gw := gw_in 24 (by decide +kernel) (by decide +kernel)
theorem mS_X9_limitOf : Cond.selects RX9 yX9_limitOf yX9_limitOf ∈ gw := gw_in 25 (by decide +kernel) (by decide +kernel)
theorem mS_X9_take : Cond.selects RX9 yX9_take yX9_take ∈ gw := gw_in 26 (by decide +kernel) (by decide +kernel)
theorem mS_X9_end : Cond.selects RX9 yX9_end yX9_end ∈ gw := gw_in 27 (by decide +kernel) (by decide +kernel)
theorem mS_X9_mayVote : Cond.selects RX9 yX9_mayVote yX9_mayVote ∈ gw := gw_in 28 (by decide +kernel) (by decide +kernel)
theorem mS_X9_votesOf : Cond.selects RX9 yX9_votesOf yX9_votesOf ∈ gw := gw_in 29 (by decide +kernel) (by decide +kernel)
theorem mS_X9_hasMember : Cond.selects RX9 yX9_hasMember yX9_hasMember ∈ gw := gw_in 30 (by decide +kernel) (by decide +kernel)
theorem mS_X9_ticksOf : Cond.selects RX9 yX9_ticksOf yX9_ticksOf ∈ gw := gw_in 31 (by decide +kernel) (by decide +kernel)
theorem mS_X9_hasPart : Cond.selects RX9 yX9_hasPart yX9_hasPart ∈ gw := gw_in 32 (by decide +kernel) (by decide +kernel)
theorem mN_L : Cond.initialized RL ∈ gw := gw_in 33 (by decide +kernel) (by decide +kernel)
theorem mN_X8 : Cond.initialized RX8 ∈ gw := gw_in 34 (by decide +kernel) (by decide +kernel)
theorem mN_X4 : Cond.initialized RX4 ∈ gw := gw_in 35 (by decide +kernel) (by decide +kernel)
theorem mN_X7 : Cond.initialized RX7 ∈ gw := gw_in 36 (by decide +kernel) (by decide +kernel)
theorem mN_X5 : Cond.initialized RX5 ∈ gw := gw_in 37 (by decide +kernel) (by decide +kernel)
theorem mN_X2 : Cond.initialized RX2 ∈ gw := gw_in 38 (by decide +kernel) (by decide +kernel)
theorem mN_X1 : Cond.initialized RX1 ∈ gw := gw_in 39 (by decide +kernel) (by decide +kernel)
theorem mN_X0 : Cond.initialized RX0 ∈ gw := gw_in 40 (by decide +kernel) (by decide +kernel)
theorem mN_X3 : Cond.initialized RX3 ∈ gw := gw_in 41 (by decide +kernel) (by decide +kernel)
theorem mN_X6 : Cond.initialized RX6 ∈ gw := gw_in 42 (by decide +kernel) (by decide +kernel)
theorem mN_X9 : Cond.initialized RX9 ∈ gw := gw_in 43 (by decide +kernel) (by decide +kernel)
theorem mN_J9 : Cond.initialized RJ9 ∈ gw := gw_in 44 (by decide +kernel) (by decide +kernel)
theorem mA_L_7 : Cond.classLink RL 7 RX8 ∈ gw := gw_in 45 (by decide +kernel) (by decide +kernel)
theorem mB_X8 : Cond.instantiable RX8 10 ∈ gw := gw_in 46 (by decide +kernel) (by decide +kernel)
theorem mL_L_9 : Cond.methodLink RL 9 yX8_init ∈ gw := gw_in 47 (by decide +kernel) (by decide +kernel)
theorem mI_X8_init : Cond.instanceMethod yX8_init ∈ gw := gw_in 48 (by decide +kernel) (by decide +kernel)
theorem mC_X8_init : Cond.code yX8_init cX8_init 2 none ∈ gw := gw_in 49 (by decide +kernel) (by decide +kernel)
theorem mL_X8_1 : Cond.methodLink RX8 1 objectInit ∈ gw := gw_in 50 (by decide +kernel) (by decide +kernel)
theorem mI_objectInit : Cond.instanceMethod objectInit ∈ gw := gw_in 51 (by decide +kernel) (by decide +kernel)
theorem mC_objectInit : Cond.code objectInit ⟨#[0xb1]⟩ 1 none ∈ gw := gw_in 52 (by decide +kernel) (by decide +kernel)
theorem mA_X8_7 : Cond.classLink RX8 7 RX4 ∈ gw := gw_in 53 (by decide +kernel) (by decide +kernel)
theorem mB_X4 : Cond.instantiable RX4 4 ∈ gw := gw_in 54 (by decide +kernel) (by decide +kernel)
theorem mI_X4_init : Cond.instanceMethod yX4_init ∈ gw := gw_in 56 (by decide +kernel) (by decide +kernel)
theorem mC_X4_init : Cond.code yX4_init cX4_init 1 none ∈ gw := gw_in 57 (by decide +kernel) (by decide +kernel)
theorem mL_X4_3 : Cond.methodLink RX4 3 objectInit ∈ gw := gw_in 58 (by decide +kernel) (by decide +kernel)
theorem mF_X4_9 : Cond.fieldLink RX4 9 "SpeakHall$Roster" "kinds" "[I" ∈ gw := gw_in 59 (by decide +kernel) (by decide +kernel)
theorem mF_X4_15 : Cond.fieldLink RX4 15 "SpeakHall$Roster" "delegations" "[I" ∈ gw := gw_in 60 (by decide +kernel) (by decide +kernel)
theorem mF_X4_18 : Cond.fieldLink RX4 18 "SpeakHall$Roster" "here" "[Z" ∈ gw := gw_in 61 (by decide +kernel) (by decide +kernel)
theorem mF_X4_22 : Cond.fieldLink RX4 22 "SpeakHall$Roster" "size" "I" ∈ gw := gw_in 62 (by decide +kernel) (by decide +kernel)
theorem mY_int : Cond.arrayClass .int ∈ gw := gw_in 72 (by decide +kernel) (by decide +kernel)
theorem mY_boolean : Cond.arrayClass .boolean ∈ gw := gw_in 73 (by decide +kernel) (by decide +kernel)
theorem mA_X8_16 : Cond.classLink RX8 16 RX7 ∈ gw := gw_in 74 (by decide +kernel) (by decide +kernel)
theorem mB_X7 : Cond.instantiable RX7 8 ∈ gw := gw_in 75 (by decide +kernel) (by decide +kernel)
theorem mL_X8_18 : Cond.methodLink RX8 18 yX7_init ∈ gw := gw_in 76 (by decide +kernel) (by decide +kernel)
theorem mI_X7_init : Cond.instanceMethod yX7_init ∈ gw := gw_in 77 (by decide +kernel) (by decide +kernel)
theorem mC_X7_init : Cond.code yX7_init cX7_init 2 none ∈ gw := gw_in 78 (by decide +kernel) (by decide +kernel)
theorem mL_X7_3 : Cond.methodLink RX7 3 objectInit ∈ gw := gw_in 79 (by decide +kernel) (by decide +kernel)
theorem mF_X7_34 : Cond.fieldLink RX7 34 "SpeakHall$Standing" "roster" "LSpeakHall$Roster;" ∈ gw := gw_in 80 (by decide +kernel) (by decide +kernel)
theorem mF_X7_9 : Cond.fieldLink RX7 9 "SpeakHall$Standing" "askers" "[I" ∈ gw := gw_in 81 (by decide +kernel) (by decide +kernel)
theorem mF_X7_15 : Cond.fieldLink RX7 15 "SpeakHall$Standing" "sorts" "[I" ∈ gw := gw_in 82 (by decide +kernel) (by decide +kernel)
theorem mF_X7_18 : Cond.fieldLink RX7 18 "SpeakHall$Standing" "times" "[I" ∈ gw := gw_in 83 (by decide +kernel) (by decide +kernel)
theorem mF_X7_21 : Cond.fieldLink RX7 21 "SpeakHall$Standing" "speeches" "[I" ∈ gw := gw_in 84 (by decide +kernel) (by decide +kernel)
theorem mF_X7_24 : Cond.fieldLink RX7 24 "SpeakHall$Standing" "delegationTimes" "[I" ∈ gw := gw_in 85 (by decide +kernel) (by decide +kernel)
theorem mF_X7_27 : Cond.fieldLink RX7 27 "SpeakHall$Standing" "size" "I" ∈ gw := gw_in 86 (by decide +kernel) (by decide +kernel)
theorem mF_X7_31 : Cond.fieldLink RX7 31 "SpeakHall$Standing" "latestDelegation" "I" ∈ gw := gw_in 87 (by decide +kernel) (by decide +kernel)
theorem mA_X8_28 : Cond.classLink RX8 28 RX5 ∈ gw := gw_in 105 (by decide +kernel) (by decide +kernel)
theorem mB_X5 : Cond.instantiable RX5 3 ∈ gw := gw_in 106 (by decide +kernel) (by decide +kernel)
theorem mL_X8_30 : Cond.methodLink RX8 30 yX5_init ∈ gw := gw_in 107 (by decide +kernel) (by decide +kernel)
theorem mI_X5_init : Cond.instanceMethod yX5_init ∈ gw := gw_in 108 (by decide +kernel) (by decide +kernel)
theorem mC_X5_init : Cond.code yX5_init cX5_init 2 none ∈ gw := gw_in 109 (by decide +kernel) (by decide +kernel)
theorem mL_X5_3 : Cond.methodLink RX5 3 objectInit ∈ gw := gw_in 110 (by decide +kernel) (by decide +kernel)
theorem mF_X5_19 : Cond.fieldLink RX5 19 "SpeakHall$Rule" "roster" "LSpeakHall$Roster;" ∈ gw := gw_in 111 (by decide +kernel) (by decide +kernel)
theorem mF_X5_9 : Cond.fieldLink RX5 9 "SpeakHall$Rule" "keys" "[I" ∈ gw := gw_in 112 (by decide +kernel) (by decide +kernel)
theorem mF_X5_15 : Cond.fieldLink RX5 15 "SpeakHall$Rule" "size" "I" ∈ gw := gw_in 113 (by decide +kernel) (by decide +kernel)
theorem mA_X8_35 : Cond.classLink RX8 35 RX2 ∈ gw := gw_in 121 (by decide +kernel) (by decide +kernel)
theorem mB_X2 : Cond.instantiable RX2 5 ∈ gw := gw_in 122 (by decide +kernel) (by decide +kernel)
theorem mL_X8_37 : Cond.methodLink RX8 37 yX2_init ∈ gw := gw_in 123 (by decide +kernel) (by decide +kernel)
theorem mI_X2_init : Cond.instanceMethod yX2_init ∈ gw := gw_in 124 (by decide +kernel) (by decide +kernel)
theorem mC_X2_init : Cond.code yX2_init cX2_init 4 none ∈ gw := gw_in 125 (by decide +kernel) (by decide +kernel)
theorem mL_X2_3 : Cond.methodLink RX2 3 objectInit ∈ gw := gw_in 126 (by decide +kernel) (by decide +kernel)
theorem mF_X2_19 : Cond.fieldLink RX2 19 "SpeakHall$Listing" "roster" "LSpeakHall$Roster;" ∈ gw := gw_in 127 (by decide +kernel) (by decide +kernel)
theorem mF_X2_23 : Cond.fieldLink RX2 23 "SpeakHall$Listing" "rule" "LSpeakHall$Rule;" ∈ gw := gw_in 128 (by decide +kernel) (by decide +kernel)
theorem mF_X2_27 : Cond.fieldLink RX2 27 "SpeakHall$Listing" "standing" "LSpeakHall$Standing;" ∈ gw := gw_in 129 (by decide +kernel) (by decide +kernel)
theorem mF_X2_9 : Cond.fieldLink RX2 9 "SpeakHall$Listing" "order" "[I" ∈ gw := gw_in 130 (by decide +kernel) (by decide +kernel)
theorem mF_X2_15 : Cond.fieldLink RX2 15 "SpeakHall$Listing" "size" "I" ∈ gw := gw_in 131 (by decide +kernel) (by decide +kernel)
theorem mA_X8_44 : Cond.classLink RX8 44 RX1 ∈ gw := gw_in 143 (by decide +kernel) (by decide +kernel)
theorem mB_X1 : Cond.instantiable RX1 6 ∈ gw := gw_in 144 (by decide +kernel) (by decide +kernel)
theorem mI_X1_init : Cond.instanceMethod yX1_init ∈ gw := gw_in 146 (by decide +kernel) (by decide +kernel)
theorem mC_X1_init : Cond.code yX1_init cX1_init 1 none ∈ gw := gw_in 147 (by decide +kernel) (by decide +kernel)
theorem mL_X1_3 : Cond.methodLink RX1 3 objectInit ∈ gw := gw_in 148 (by decide +kernel) (by decide +kernel)
theorem mF_X1_9 : Cond.fieldLink RX1 9 "SpeakHall$Floor" "holders" "[I" ∈ gw := gw_in 149 (by decide +kernel) (by decide +kernel)
theorem mF_X1_15 : Cond.fieldLink RX1 15 "SpeakHall$Floor" "sorts" "[I" ∈ gw := gw_in 150 (by decide +kernel) (by decide +kernel)
theorem mF_X1_18 : Cond.fieldLink RX1 18 "SpeakHall$Floor" "left" "[I" ∈ gw := gw_in 151 (by decide +kernel) (by decide +kernel)
theorem mF_X1_21 : Cond.fieldLink RX1 21 "SpeakHall$Floor" "had" "[I" ∈ gw := gw_in 152 (by decide +kernel) (by decide +kernel)
theorem mF_X1_24 : Cond.fieldLink RX1 24 "SpeakHall$Floor" "limits" "[I" ∈ gw := gw_in 153 (by decide +kernel) (by decide +kernel)
theorem mF_X1_27 : Cond.fieldLink RX1 27 "SpeakHall$Floor" "depth" "I" ∈ gw := gw_in 154 (by decide +kernel) (by decide +kernel)
theorem mA_X8_51 : Cond.classLink RX8 51 RX0 ∈ gw := gw_in 168 (by decide +kernel) (by decide +kernel)
theorem mB_X0 : Cond.instantiable RX0 3 ∈ gw := gw_in 169 (by decide +kernel) (by decide +kernel)
theorem mL_X8_53 : Cond.methodLink RX8 53 yX0_init ∈ gw := gw_in 170 (by decide +kernel) (by decide +kernel)
theorem mI_X0_init : Cond.instanceMethod yX0_init ∈ gw := gw_in 171 (by decide +kernel) (by decide +kernel)
theorem mC_X0_init : Cond.code yX0_init cX0_init 2 none ∈ gw := gw_in 172 (by decide +kernel) (by decide +kernel)
theorem mL_X0_3 : Cond.methodLink RX0 3 objectInit ∈ gw := gw_in 173 (by decide +kernel) (by decide +kernel)
theorem mF_X0_19 : Cond.fieldLink RX0 19 "SpeakHall$Ballot" "roster" "LSpeakHall$Roster;" ∈ gw := gw_in 174 (by decide +kernel) (by decide +kernel)
theorem mF_X0_9 : Cond.fieldLink RX0 9 "SpeakHall$Ballot" "said" "[I" ∈ gw := gw_in 175 (by decide +kernel) (by decide +kernel)
theorem mF_X0_15 : Cond.fieldLink RX0 15 "SpeakHall$Ballot" "open" "Z" ∈ gw := gw_in 176 (by decide +kernel) (by decide +kernel)
theorem mA_X8_58 : Cond.classLink RX8 58 RX3 ∈ gw := gw_in 184 (by decide +kernel) (by decide +kernel)
theorem mB_X3 : Cond.instantiable RX3 7 ∈ gw := gw_in 185 (by decide +kernel) (by decide +kernel)
theorem mI_X3_init : Cond.instanceMethod yX3_init ∈ gw := gw_in 187 (by decide +kernel) (by decide +kernel)
theorem mC_X3_init : Cond.code yX3_init cX3_init 1 none ∈ gw := gw_in 188 (by decide +kernel) (by decide +kernel)
theorem mL_X3_3 : Cond.methodLink RX3 3 objectInit ∈ gw := gw_in 189 (by decide +kernel) (by decide +kernel)
theorem mF_X3_9 : Cond.fieldLink RX3 9 "SpeakHall$Minutes" "members" "[I" ∈ gw := gw_in 190 (by decide +kernel) (by decide +kernel)
theorem mF_X3_15 : Cond.fieldLink RX3 15 "SpeakHall$Minutes" "sorts" "[I" ∈ gw := gw_in 191 (by decide +kernel) (by decide +kernel)
theorem mF_X3_18 : Cond.fieldLink RX3 18 "SpeakHall$Minutes" "firstTicks" "[I" ∈ gw := gw_in 192 (by decide +kernel) (by decide +kernel)
theorem mF_X3_21 : Cond.fieldLink RX3 21 "SpeakHall$Minutes" "rightRows" "[I" ∈ gw := gw_in 193 (by decide +kernel) (by decide +kernel)
theorem mF_X3_24 : Cond.fieldLink RX3 24 "SpeakHall$Minutes" "rightTicks" "[I" ∈ gw := gw_in 194 (by decide +kernel) (by decide +kernel)
theorem mF_X3_27 : Cond.fieldLink RX3 27 "SpeakHall$Minutes" "written" "I" ∈ gw := gw_in 195 (by decide +kernel) (by decide +kernel)
theorem mF_X3_31 : Cond.fieldLink RX3 31 "SpeakHall$Minutes" "rights" "I" ∈ gw := gw_in 196 (by decide +kernel) (by decide +kernel)
theorem mA_X8_65 : Cond.classLink RX8 65 RX6 ∈ gw := gw_in 212 (by decide +kernel) (by decide +kernel)
theorem mB_X6 : Cond.instantiable RX6 3 ∈ gw := gw_in 214 (by decide +kernel) (by decide +kernel)
theorem mI_X6_init : Cond.instanceMethod yX6_init ∈ gw := gw_in 216 (by decide +kernel) (by decide +kernel)
theorem mC_X6_init : Cond.code yX6_init cX6_init 1 none ∈ gw := gw_in 217 (by decide +kernel) (by decide +kernel)
theorem mL_X6_3 : Cond.methodLink RX6 3 objectInit ∈ gw := gw_in 218 (by decide +kernel) (by decide +kernel)
theorem mF_X6_9 : Cond.fieldLink RX6 9 "SpeakHall$Sheet" "numbers" "[I" ∈ gw := gw_in 219 (by decide +kernel) (by decide +kernel)
theorem mF_X6_15 : Cond.fieldLink RX6 15 "SpeakHall$Sheet" "bits" "I" ∈ gw := gw_in 220 (by decide +kernel) (by decide +kernel)
theorem mF_X6_19 : Cond.fieldLink RX6 19 "SpeakHall$Sheet" "size" "I" ∈ gw := gw_in 221 (by decide +kernel) (by decide +kernel)
theorem mF_X8_10 : Cond.fieldLink RX8 10 "SpeakHall" "roster" "LSpeakHall$Roster;" ∈ gw := gw_in 229 (by decide +kernel) (by decide +kernel)
theorem mF_X8_21 : Cond.fieldLink RX8 21 "SpeakHall" "standing" "LSpeakHall$Standing;" ∈ gw := gw_in 230 (by decide +kernel) (by decide +kernel)
theorem mF_X8_25 : Cond.fieldLink RX8 25 "SpeakHall" "supposed" "LSpeakHall$Standing;" ∈ gw := gw_in 231 (by decide +kernel) (by decide +kernel)
theorem mF_X8_31 : Cond.fieldLink RX8 31 "SpeakHall" "rule" "LSpeakHall$Rule;" ∈ gw := gw_in 232 (by decide +kernel) (by decide +kernel)
theorem mF_X8_40 : Cond.fieldLink RX8 40 "SpeakHall" "list" "LSpeakHall$Listing;" ∈ gw := gw_in 233 (by decide +kernel) (by decide +kernel)
theorem mF_X8_47 : Cond.fieldLink RX8 47 "SpeakHall" "floor" "LSpeakHall$Floor;" ∈ gw := gw_in 234 (by decide +kernel) (by decide +kernel)
theorem mF_X8_54 : Cond.fieldLink RX8 54 "SpeakHall" "ballot" "LSpeakHall$Ballot;" ∈ gw := gw_in 235 (by decide +kernel) (by decide +kernel)
theorem mF_X8_61 : Cond.fieldLink RX8 61 "SpeakHall" "minutes" "LSpeakHall$Minutes;" ∈ gw := gw_in 236 (by decide +kernel) (by decide +kernel)
theorem mF_X8_67 : Cond.fieldLink RX8 67 "SpeakHall" "sheets" "[LSpeakHall$Sheet;" ∈ gw := gw_in 237 (by decide +kernel) (by decide +kernel)
theorem mF_X8_72 : Cond.fieldLink RX8 72 "SpeakHall" "findings" "I" ∈ gw := gw_in 238 (by decide +kernel) (by decide +kernel)
theorem mL_L_13 : Cond.methodLink RL 13 yX8_member ∈ gw := gw_in 260 (by decide +kernel) (by decide +kernel)
theorem mI_X8_member : Cond.instanceMethod yX8_member ∈ gw := gw_in 261 (by decide +kernel) (by decide +kernel)
theorem mS_X8_member : Cond.selects RX8 yX8_member yX8_member ∈ gw := gw_in 262 (by decide +kernel) (by decide +kernel)
theorem mC_X8_member : Cond.code yX8_member cX8_member 3 (some .int) ∈ gw := gw_in 263 (by decide +kernel) (by decide +kernel)
theorem mL_X8_76 : Cond.methodLink RX8 76 yX8_isWithin ∈ gw := gw_in 264 (by decide +kernel) (by decide +kernel)
theorem mT_X8_isWithin : Cond.static yX8_isWithin ∈ gw := gw_in 265 (by decide +kernel) (by decide +kernel)
theorem mC_X8_isWithin : Cond.code yX8_isWithin cX8_isWithin 3 (some .boolean) ∈ gw := gw_in 266 (by decide +kernel) (by decide +kernel)
theorem mK_X8_80 : Cond.constant RX8 80 (-100001) ∈ gw := gw_in 267 (by decide +kernel) (by decide +kernel)
theorem mL_X8_81 : Cond.methodLink RX8 81 yX8_finding ∈ gw := gw_in 268 (by decide +kernel) (by decide +kernel)
theorem mI_X8_finding : Cond.instanceMethod yX8_finding ∈ gw := gw_in 270 (by decide +kernel) (by decide +kernel)
theorem mC_X8_finding : Cond.code yX8_finding cX8_finding 2 (some .int) ∈ gw := gw_in 271 (by decide +kernel) (by decide +kernel)
theorem mL_X8_85 : Cond.methodLink RX8 85 yX4_size ∈ gw := gw_in 272 (by decide +kernel) (by decide +kernel)
theorem mI_X4_size : Cond.instanceMethod yX4_size ∈ gw := gw_in 273 (by decide +kernel) (by decide +kernel)
theorem mS_X4_size : Cond.selects RX4 yX4_size yX4_size ∈ gw := gw_in 274 (by decide +kernel) (by decide +kernel)
theorem mC_X4_size : Cond.code yX4_size cX4_size 1 (some .int) ∈ gw := gw_in 275 (by decide +kernel) (by decide +kernel)
theorem mK_X8_89 : Cond.constant RX8 89 (-100005) ∈ gw := gw_in 276 (by decide +kernel) (by decide +kernel)
theorem mL_X8_90 : Cond.methodLink RX8 90 yX4_enter ∈ gw := gw_in 277 (by decide +kernel) (by decide +kernel)
theorem mI_X4_enter : Cond.instanceMethod yX4_enter ∈ gw := gw_in 278 (by decide +kernel) (by decide +kernel)
theorem mS_X4_enter : Cond.selects RX4 yX4_enter yX4_enter ∈ gw := gw_in 279 (by decide +kernel) (by decide +kernel)
theorem mC_X4_enter : Cond.code yX4_enter cX4_enter 4 (some .int) ∈ gw := gw_in 280 (by decide +kernel) (by decide +kernel)
theorem mT_X8_set : Cond.static yX8_set ∈ gw := gw_in 282 (by decide +kernel) (by decide +kernel)
theorem mC_X8_set : Cond.code yX8_set cX8_set 3 none ∈ gw := gw_in 283 (by decide +kernel) (by decide +kernel)
theorem mL_X4_30 : Cond.methodLink RX4 30 yX4_setHere ∈ gw := gw_in 284 (by decide +kernel) (by decide +kernel)
theorem mI_X4_setHere : Cond.instanceMethod yX4_setHere ∈ gw := gw_in 285 (by decide +kernel) (by decide +kernel)
theorem mS_X4_setHere : Cond.selects RX4 yX4_setHere yX4_setHere ∈ gw := gw_in 286 (by decide +kernel) (by decide +kernel)
theorem mC_X4_setHere : Cond.code yX4_setHere cX4_setHere 3 none ∈ gw := gw_in 287 (by decide +kernel) (by decide +kernel)
theorem mL_L_18 : Cond.methodLink RL 18 yX8_as ∈ gw := gw_in 288 (by decide +kernel) (by decide +kernel)
theorem mI_X8_as : Cond.instanceMethod yX8_as ∈ gw := gw_in 289 (by decide +kernel) (by decide +kernel)
theorem mS_X8_as : Cond.selects RX8 yX8_as yX8_as ∈ gw := gw_in 290 (by decide +kernel) (by decide +kernel)
theorem mC_X8_as : Cond.code yX8_as cX8_as 3 (some .int) ∈ gw := gw_in 291 (by decide +kernel) (by decide +kernel)
theorem mL_X8_94 : Cond.methodLink RX8 94 yX4_has ∈ gw := gw_in 292 (by decide +kernel) (by decide +kernel)
theorem mI_X4_has : Cond.instanceMethod yX4_has ∈ gw := gw_in 293 (by decide +kernel) (by decide +kernel)
theorem mS_X4_has : Cond.selects RX4 yX4_has yX4_has ∈ gw := gw_in 294 (by decide +kernel) (by decide +kernel)
theorem mC_X4_has : Cond.code yX4_has cX4_has 2 (some .boolean) ∈ gw := gw_in 295 (by decide +kernel) (by decide +kernel)
theorem mL_X8_98 : Cond.methodLink RX8 98 yX4_isOfKind ∈ gw := gw_in 296 (by decide +kernel) (by decide +kernel)
theorem mI_X4_isOfKind : Cond.instanceMethod yX4_isOfKind ∈ gw := gw_in 297 (by decide +kernel) (by decide +kernel)
theorem mS_X4_isOfKind : Cond.selects RX4 yX4_isOfKind yX4_isOfKind ∈ gw := gw_in 298 (by decide +kernel) (by decide +kernel)
theorem mC_X4_isOfKind : Cond.code yX4_isOfKind cX4_isOfKind 5 (some .boolean) ∈ gw := gw_in 299 (by decide +kernel) (by decide +kernel)
theorem mT_X8_at : Cond.static yX8_at ∈ gw := gw_in 301 (by decide +kernel) (by decide +kernel)
theorem mC_X8_at : Cond.code yX8_at cX8_at 2 (some .int) ∈ gw := gw_in 302 (by decide +kernel) (by decide +kernel)
theorem mF_X4_38 : Cond.fieldLink RX4 38 "SpeakHall$Roster" "KIND_ABOVE" "[I" ∈ gw := gw_in 303 (by decide +kernel) (by decide +kernel)
theorem mK_X8_102 : Cond.constant RX8 102 (-100004) ∈ gw := gw_in 305 (by decide +kernel) (by decide +kernel)
theorem mL_L_22 : Cond.methodLink RL 22 yX8_present ∈ gw := gw_in 306 (by decide +kernel) (by decide +kernel)
theorem mI_X8_present : Cond.instanceMethod yX8_present ∈ gw := gw_in 307 (by decide +kernel) (by decide +kernel)
theorem mS_X8_present : Cond.selects RX8 yX8_present yX8_present ∈ gw := gw_in 308 (by decide +kernel) (by decide +kernel)
theorem mC_X8_present : Cond.code yX8_present cX8_present 3 (some .int) ∈ gw := gw_in 309 (by decide +kernel) (by decide +kernel)
theorem mL_X8_103 : Cond.methodLink RX8 103 yX4_isHere ∈ gw := gw_in 310 (by decide +kernel) (by decide +kernel)
theorem mI_X4_isHere : Cond.instanceMethod yX4_isHere ∈ gw := gw_in 311 (by decide +kernel) (by decide +kernel)
theorem mS_X4_isHere : Cond.selects RX4 yX4_isHere yX4_isHere ∈ gw := gw_in 312 (by decide +kernel) (by decide +kernel)
theorem mC_X4_isHere : Cond.code yX4_isHere cX4_isHere 2 (some .boolean) ∈ gw := gw_in 313 (by decide +kernel) (by decide +kernel)
theorem mL_X8_106 : Cond.methodLink RX8 106 yX4_setHere ∈ gw := gw_in 314 (by decide +kernel) (by decide +kernel)
theorem mL_L_27 : Cond.methodLink RL 27 yX8_of ∈ gw := gw_in 315 (by decide +kernel) (by decide +kernel)
theorem mI_X8_of : Cond.instanceMethod yX8_of ∈ gw := gw_in 316 (by decide +kernel) (by decide +kernel)
theorem mS_X8_of : Cond.selects RX8 yX8_of yX8_of ∈ gw := gw_in 317 (by decide +kernel) (by decide +kernel)
theorem mC_X8_of : Cond.code yX8_of cX8_of 3 (some .int) ∈ gw := gw_in 318 (by decide +kernel) (by decide +kernel)
theorem mL_X8_110 : Cond.methodLink RX8 110 yX4_kindOf ∈ gw := gw_in 319 (by decide +kernel) (by decide +kernel)
theorem mI_X4_kindOf : Cond.instanceMethod yX4_kindOf ∈ gw := gw_in 320 (by decide +kernel) (by decide +kernel)
theorem mS_X4_kindOf : Cond.selects RX4 yX4_kindOf yX4_kindOf ∈ gw := gw_in 321 (by decide +kernel) (by decide +kernel)
theorem mC_X4_kindOf : Cond.code yX4_kindOf cX4_kindOf 2 (some .int) ∈ gw := gw_in 322 (by decide +kernel) (by decide +kernel)
theorem mL_X8_113 : Cond.methodLink RX8 113 yX4_delegationOf ∈ gw := gw_in 323 (by decide +kernel) (by decide +kernel)
theorem mI_X4_delegationOf : Cond.instanceMethod yX4_delegationOf ∈ gw := gw_in 324 (by decide +kernel) (by decide +kernel)
theorem mS_X4_delegationOf : Cond.selects RX4 yX4_delegationOf yX4_delegationOf ∈ gw := gw_in 325 (by decide +kernel) (by decide +kernel)
theorem mC_X4_delegationOf : Cond.code yX4_delegationOf cX4_delegationOf 2 (some .int) ∈ gw := gw_in 326 (by decide +kernel) (by decide +kernel)
theorem mL_X8_116 : Cond.methodLink RX8 116 yX7_timeOf ∈ gw := gw_in 327 (by decide +kernel) (by decide +kernel)
theorem mI_X7_timeOf : Cond.instanceMethod yX7_timeOf ∈ gw := gw_in 328 (by decide +kernel) (by decide +kernel)
theorem mS_X7_timeOf : Cond.selects RX7 yX7_timeOf yX7_timeOf ∈ gw := gw_in 329 (by decide +kernel) (by decide +kernel)
theorem mC_X7_timeOf : Cond.code yX7_timeOf cX7_timeOf 2 (some .int) ∈ gw := gw_in 330 (by decide +kernel) (by decide +kernel)
theorem mL_X8_119 : Cond.methodLink RX8 119 yX7_speechesOf ∈ gw := gw_in 332 (by decide +kernel) (by decide +kernel)
theorem mI_X7_speechesOf : Cond.instanceMethod yX7_speechesOf ∈ gw := gw_in 333 (by decide +kernel) (by decide +kernel)
theorem mS_X7_speechesOf : Cond.selects RX7 yX7_speechesOf yX7_speechesOf ∈ gw := gw_in 334 (by decide +kernel) (by decide +kernel)
theorem mC_X7_speechesOf : Cond.code yX7_speechesOf cX7_speechesOf 2 (some .int) ∈ gw := gw_in 335 (by decide +kernel) (by decide +kernel)
theorem mL_L_31 : Cond.methodLink RL 31 yX8_time ∈ gw := gw_in 336 (by decide +kernel) (by decide +kernel)
theorem mI_X8_time : Cond.instanceMethod yX8_time ∈ gw := gw_in 337 (by decide +kernel) (by decide +kernel)
theorem mS_X8_time : Cond.selects RX8 yX8_time yX8_time ∈ gw := gw_in 338 (by decide +kernel) (by decide +kernel)
theorem mC_X8_time : Cond.code yX8_time cX8_time 2 (some .int) ∈ gw := gw_in 339 (by decide +kernel) (by decide +kernel)
theorem mL_X8_122 : Cond.methodLink RX8 122 yX7_delegationTime ∈ gw := gw_in 340 (by decide +kernel) (by decide +kernel)
theorem mI_X7_delegationTime : Cond.instanceMethod yX7_delegationTime ∈ gw := gw_in 341 (by decide +kernel) (by decide +kernel)
theorem mS_X7_delegationTime : Cond.selects RX7 yX7_delegationTime yX7_delegationTime ∈ gw := gw_in 342 (by decide +kernel) (by decide +kernel)
theorem mC_X7_delegationTime : Cond.code yX7_delegationTime cX7_delegationTime 2 (some .int) ∈ gw := gw_in 343 (by decide +kernel) (by decide +kernel)
theorem mL_L_36 : Cond.methodLink RL 36 yX8_ask ∈ gw := gw_in 344 (by decide +kernel) (by decide +kernel)
theorem mI_X8_ask : Cond.instanceMethod yX8_ask ∈ gw := gw_in 345 (by decide +kernel) (by decide +kernel)
theorem mS_X8_ask : Cond.selects RX8 yX8_ask yX8_ask ∈ gw := gw_in 346 (by decide +kernel) (by decide +kernel)
theorem mC_X8_ask : Cond.code yX8_ask cX8_ask 3 (some .int) ∈ gw := gw_in 347 (by decide +kernel) (by decide +kernel)
theorem mL_X8_125 : Cond.methodLink RX8 125 yX8_isAsking ∈ gw := gw_in 348 (by decide +kernel) (by decide +kernel)
theorem mI_X8_isAsking : Cond.instanceMethod yX8_isAsking ∈ gw := gw_in 350 (by decide +kernel) (by decide +kernel)
theorem mC_X8_isAsking : Cond.code yX8_isAsking cX8_isAsking 3 (some .boolean) ∈ gw := gw_in 351 (by decide +kernel) (by decide +kernel)
theorem mL_X8_128 : Cond.methodLink RX8 128 yX7_find ∈ gw := gw_in 352 (by decide +kernel) (by decide +kernel)
theorem mI_X7_find : Cond.instanceMethod yX7_find ∈ gw := gw_in 353 (by decide +kernel) (by decide +kernel)
theorem mS_X7_find : Cond.selects RX7 yX7_find yX7_find ∈ gw := gw_in 354 (by decide +kernel) (by decide +kernel)
theorem mC_X7_find : Cond.code yX7_find cX7_find 4 (some .int) ∈ gw := gw_in 355 (by decide +kernel) (by decide +kernel)
theorem mL_X7_46 : Cond.methodLink RX7 46 yX7_memberAt ∈ gw := gw_in 356 (by decide +kernel) (by decide +kernel)
theorem mI_X7_memberAt : Cond.instanceMethod yX7_memberAt ∈ gw := gw_in 357 (by decide +kernel) (by decide +kernel)
theorem mS_X7_memberAt : Cond.selects RX7 yX7_memberAt yX7_memberAt ∈ gw := gw_in 358 (by decide +kernel) (by decide +kernel)
theorem mC_X7_memberAt : Cond.code yX7_memberAt cX7_memberAt 2 (some .int) ∈ gw := gw_in 359 (by decide +kernel) (by decide +kernel)
theorem mL_X7_50 : Cond.methodLink RX7 50 yX7_sortAt ∈ gw := gw_in 360 (by decide +kernel) (by decide +kernel)
theorem mI_X7_sortAt : Cond.instanceMethod yX7_sortAt ∈ gw := gw_in 361 (by decide +kernel) (by decide +kernel)
theorem mS_X7_sortAt : Cond.selects RX7 yX7_sortAt yX7_sortAt ∈ gw := gw_in 362 (by decide +kernel) (by decide +kernel)
theorem mC_X7_sortAt : Cond.code yX7_sortAt cX7_sortAt 2 (some .int) ∈ gw := gw_in 363 (by decide +kernel) (by decide +kernel)
theorem mK_X8_131 : Cond.constant RX8 131 (-100003) ∈ gw := gw_in 364 (by decide +kernel) (by decide +kernel)
theorem mL_X8_132 : Cond.methodLink RX8 132 yX7_size ∈ gw := gw_in 365 (by decide +kernel) (by decide +kernel)
theorem mI_X7_size : Cond.instanceMethod yX7_size ∈ gw := gw_in 366 (by decide +kernel) (by decide +kernel)
theorem mS_X7_size : Cond.selects RX7 yX7_size yX7_size ∈ gw := gw_in 367 (by decide +kernel) (by decide +kernel)
theorem mC_X7_size : Cond.code yX7_size cX7_size 1 (some .int) ∈ gw := gw_in 368 (by decide +kernel) (by decide +kernel)
theorem mL_X8_133 : Cond.methodLink RX8 133 yX7_append ∈ gw := gw_in 369 (by decide +kernel) (by decide +kernel)
theorem mI_X7_append : Cond.instanceMethod yX7_append ∈ gw := gw_in 370 (by decide +kernel) (by decide +kernel)
theorem mS_X7_append : Cond.selects RX7 yX7_append yX7_append ∈ gw := gw_in 371 (by decide +kernel) (by decide +kernel)
theorem mC_X7_append : Cond.code yX7_append cX7_append 3 none ∈ gw := gw_in 372 (by decide +kernel) (by decide +kernel)
theorem mL_L_40 : Cond.methodLink RL 40 yX8_withdraw ∈ gw := gw_in 374 (by decide +kernel) (by decide +kernel)
theorem mI_X8_withdraw : Cond.instanceMethod yX8_withdraw ∈ gw := gw_in 375 (by decide +kernel) (by decide +kernel)
theorem mS_X8_withdraw : Cond.selects RX8 yX8_withdraw yX8_withdraw ∈ gw := gw_in 376 (by decide +kernel) (by decide +kernel)
theorem mC_X8_withdraw : Cond.code yX8_withdraw cX8_withdraw 4 (some .int) ∈ gw := gw_in 377 (by decide +kernel) (by decide +kernel)
theorem mK_X8_137 : Cond.constant RX8 137 (-100006) ∈ gw := gw_in 378 (by decide +kernel) (by decide +kernel)
theorem mL_X8_138 : Cond.methodLink RX8 138 yX7_drop ∈ gw := gw_in 379 (by decide +kernel) (by decide +kernel)
theorem mI_X7_drop : Cond.instanceMethod yX7_drop ∈ gw := gw_in 380 (by decide +kernel) (by decide +kernel)
theorem mS_X7_drop : Cond.selects RX7 yX7_drop yX7_drop ∈ gw := gw_in 381 (by decide +kernel) (by decide +kernel)
theorem mC_X7_drop : Cond.code yX7_drop cX7_drop 3 none ∈ gw := gw_in 382 (by decide +kernel) (by decide +kernel)
theorem mL_L_44 : Cond.methodLink RL 44 yX8_key ∈ gw := gw_in 383 (by decide +kernel) (by decide +kernel)
theorem mI_X8_key : Cond.instanceMethod yX8_key ∈ gw := gw_in 384 (by decide +kernel) (by decide +kernel)
theorem mS_X8_key : Cond.selects RX8 yX8_key yX8_key ∈ gw := gw_in 385 (by decide +kernel) (by decide +kernel)
theorem mC_X8_key : Cond.code yX8_key cX8_key 2 (some .int) ∈ gw := gw_in 386 (by decide +kernel) (by decide +kernel)
theorem mL_X8_142 : Cond.methodLink RX8 142 yX8_isKey ∈ gw := gw_in 387 (by decide +kernel) (by decide +kernel)
theorem mT_X8_isKey : Cond.static yX8_isKey ∈ gw := gw_in 388 (by decide +kernel) (by decide +kernel)
theorem mC_X8_isKey : Cond.code yX8_isKey cX8_isKey 1 (some .boolean) ∈ gw := gw_in 389 (by decide +kernel) (by decide +kernel)
theorem mL_X8_145 : Cond.methodLink RX8 145 yX5_has ∈ gw := gw_in 390 (by decide +kernel) (by decide +kernel)
theorem mI_X5_has : Cond.instanceMethod yX5_has ∈ gw := gw_in 391 (by decide +kernel) (by decide +kernel)
theorem mS_X5_has : Cond.selects RX5 yX5_has yX5_has ∈ gw := gw_in 392 (by decide +kernel) (by decide +kernel)
theorem mC_X5_has : Cond.code yX5_has cX5_has 3 (some .boolean) ∈ gw := gw_in 393 (by decide +kernel) (by decide +kernel)
theorem mL_X8_146 : Cond.methodLink RX8 146 yX5_size ∈ gw := gw_in 395 (by decide +kernel) (by decide +kernel)
theorem mI_X5_size : Cond.instanceMethod yX5_size ∈ gw := gw_in 396 (by decide +kernel) (by decide +kernel)
theorem mS_X5_size : Cond.selects RX5 yX5_size yX5_size ∈ gw := gw_in 397 (by decide +kernel) (by decide +kernel)
theorem mC_X5_size : Cond.code yX5_size cX5_size 1 (some .int) ∈ gw := gw_in 398 (by decide +kernel) (by decide +kernel)
theorem mL_X8_147 : Cond.methodLink RX8 147 yX5_append ∈ gw := gw_in 399 (by decide +kernel) (by decide +kernel)
theorem mI_X5_append : Cond.instanceMethod yX5_append ∈ gw := gw_in 400 (by decide +kernel) (by decide +kernel)
theorem mS_X5_append : Cond.selects RX5 yX5_append yX5_append ∈ gw := gw_in 401 (by decide +kernel) (by decide +kernel)
theorem mC_X5_append : Cond.code yX5_append cX5_append 2 none ∈ gw := gw_in 402 (by decide +kernel) (by decide +kernel)
theorem mL_L_48 : Cond.methodLink RL 48 yX8_noKeys ∈ gw := gw_in 404 (by decide +kernel) (by decide +kernel)
theorem mI_X8_noKeys : Cond.instanceMethod yX8_noKeys ∈ gw := gw_in 405 (by decide +kernel) (by decide +kernel)
theorem mS_X8_noKeys : Cond.selects RX8 yX8_noKeys yX8_noKeys ∈ gw := gw_in 406 (by decide +kernel) (by decide +kernel)
theorem mC_X8_noKeys : Cond.code yX8_noKeys cX8_noKeys 2 (some .int) ∈ gw := gw_in 407 (by decide +kernel) (by decide +kernel)
theorem mL_X8_149 : Cond.methodLink RX8 149 yX5_clear ∈ gw := gw_in 408 (by decide +kernel) (by decide +kernel)
theorem mI_X5_clear : Cond.instanceMethod yX5_clear ∈ gw := gw_in 409 (by decide +kernel) (by decide +kernel)
theorem mS_X5_clear : Cond.selects RX5 yX5_clear yX5_clear ∈ gw := gw_in 410 (by decide +kernel) (by decide +kernel)
theorem mC_X5_clear : Cond.code yX5_clear cX5_clear 1 none ∈ gw := gw_in 411 (by decide +kernel) (by decide +kernel)
theorem mL_L_53 : Cond.methodLink RL 53 yX8_listed ∈ gw := gw_in 412 (by decide +kernel) (by decide +kernel)
theorem mI_X8_listed : Cond.instanceMethod yX8_listed ∈ gw := gw_in 413 (by decide +kernel) (by decide +kernel)
theorem mS_X8_listed : Cond.selects RX8 yX8_listed yX8_listed ∈ gw := gw_in 414 (by decide +kernel) (by decide +kernel)
theorem mC_X8_listed : Cond.code yX8_listed cX8_listed 4 (some .int) ∈ gw := gw_in 415 (by decide +kernel) (by decide +kernel)
theorem mL_X8_152 : Cond.methodLink RX8 152 yX2_lay ∈ gw := gw_in 416 (by decide +kernel) (by decide +kernel)
theorem mI_X2_lay : Cond.instanceMethod yX2_lay ∈ gw := gw_in 417 (by decide +kernel) (by decide +kernel)
theorem mS_X2_lay : Cond.selects RX2 yX2_lay yX2_lay ∈ gw := gw_in 418 (by decide +kernel) (by decide +kernel)
theorem mC_X2_lay : Cond.code yX2_lay cX2_lay 3 none ∈ gw := gw_in 419 (by decide +kernel) (by decide +kernel)
theorem mL_X2_39 : Cond.methodLink RX2 39 yX7_size ∈ gw := gw_in 420 (by decide +kernel) (by decide +kernel)
theorem mL_X2_44 : Cond.methodLink RX2 44 yX7_memberAt ∈ gw := gw_in 421 (by decide +kernel) (by decide +kernel)
theorem mL_X2_47 : Cond.methodLink RX2 47 yX4_isHere ∈ gw := gw_in 422 (by decide +kernel) (by decide +kernel)
theorem mL_X2_35 : Cond.methodLink RX2 35 yX2_askingAt ∈ gw := gw_in 423 (by decide +kernel) (by decide +kernel)
theorem mI_X2_askingAt : Cond.instanceMethod yX2_askingAt ∈ gw := gw_in 424 (by decide +kernel) (by decide +kernel)
theorem mS_X2_askingAt : Cond.selects RX2 yX2_askingAt yX2_askingAt ∈ gw := gw_in 425 (by decide +kernel) (by decide +kernel)
theorem mC_X2_askingAt : Cond.code yX2_askingAt cX2_askingAt 2 (some .int) ∈ gw := gw_in 426 (by decide +kernel) (by decide +kernel)
theorem mL_X2_53 : Cond.methodLink RX2 53 yX5_isAhead ∈ gw := gw_in 428 (by decide +kernel) (by decide +kernel)
theorem mI_X5_isAhead : Cond.instanceMethod yX5_isAhead ∈ gw := gw_in 429 (by decide +kernel) (by decide +kernel)
theorem mS_X5_isAhead : Cond.selects RX5 yX5_isAhead yX5_isAhead ∈ gw := gw_in 430 (by decide +kernel) (by decide +kernel)
theorem mC_X5_isAhead : Cond.code yX5_isAhead cX5_isAhead 8 (some .boolean) ∈ gw := gw_in 431 (by decide +kernel) (by decide +kernel)
theorem mL_X5_53 : Cond.methodLink RX5 53 yX5_rankBy ∈ gw := gw_in 432 (by decide +kernel) (by decide +kernel)
theorem mI_X5_rankBy : Cond.instanceMethod yX5_rankBy ∈ gw := gw_in 434 (by decide +kernel) (by decide +kernel)
theorem mC_X5_rankBy : Cond.code yX5_rankBy cX5_rankBy 5 (some .int) ∈ gw := gw_in 435 (by decide +kernel) (by decide +kernel)
theorem mL_X5_40 : Cond.methodLink RX5 40 yX7_memberAt ∈ gw := gw_in 436 (by decide +kernel) (by decide +kernel)
theorem mL_X5_36 : Cond.methodLink RX5 36 yX7_sortAt ∈ gw := gw_in 437 (by decide +kernel) (by decide +kernel)
theorem mL_X5_57 : Cond.methodLink RX5 57 yX7_speechesOf ∈ gw := gw_in 438 (by decide +kernel) (by decide +kernel)
theorem mL_X5_60 : Cond.methodLink RX5 60 yX7_timeOf ∈ gw := gw_in 439 (by decide +kernel) (by decide +kernel)
theorem mL_X5_63 : Cond.methodLink RX5 63 yX4_delegationOf ∈ gw := gw_in 440 (by decide +kernel) (by decide +kernel)
theorem mL_X5_66 : Cond.methodLink RX5 66 yX7_delegationTime ∈ gw := gw_in 441 (by decide +kernel) (by decide +kernel)
theorem mL_X5_69 : Cond.methodLink RX5 69 yX7_latestDelegation ∈ gw := gw_in 442 (by decide +kernel) (by decide +kernel)
theorem mI_X7_latestDelegation : Cond.instanceMethod yX7_latestDelegation ∈ gw := gw_in 443 (by decide +kernel) (by decide +kernel)
theorem mS_X7_latestDelegation : Cond.selects RX7 yX7_latestDelegation yX7_latestDelegation ∈ gw := gw_in 444 (by decide +kernel) (by decide +kernel)
theorem mC_X7_latestDelegation : Cond.code yX7_latestDelegation cX7_latestDelegation 1 (some .int) ∈ gw := gw_in 445 (by decide +kernel) (by decide +kernel)
theorem mL_X5_72 : Cond.methodLink RX5 72 yX4_isOfKind ∈ gw := gw_in 446 (by decide +kernel) (by decide +kernel)
theorem mL_X8_155 : Cond.methodLink RX8 155 yX2_size ∈ gw := gw_in 448 (by decide +kernel) (by decide +kernel)
theorem mI_X2_size : Cond.instanceMethod yX2_size ∈ gw := gw_in 449 (by decide +kernel) (by decide +kernel)
theorem mS_X2_size : Cond.selects RX2 yX2_size yX2_size ∈ gw := gw_in 450 (by decide +kernel) (by decide +kernel)
theorem mC_X2_size : Cond.code yX2_size cX2_size 1 (some .int) ∈ gw := gw_in 451 (by decide +kernel) (by decide +kernel)
theorem mL_X8_156 : Cond.methodLink RX8 156 yX2_askingAt ∈ gw := gw_in 452 (by decide +kernel) (by decide +kernel)
theorem mL_X8_159 : Cond.methodLink RX8 159 yX7_sortAt ∈ gw := gw_in 453 (by decide +kernel) (by decide +kernel)
theorem mL_X8_162 : Cond.methodLink RX8 162 yX7_memberAt ∈ gw := gw_in 454 (by decide +kernel) (by decide +kernel)
theorem mL_L_57 : Cond.methodLink RL 57 yX8_place ∈ gw := gw_in 455 (by decide +kernel) (by decide +kernel)
theorem mI_X8_place : Cond.instanceMethod yX8_place ∈ gw := gw_in 456 (by decide +kernel) (by decide +kernel)
theorem mS_X8_place : Cond.selects RX8 yX8_place yX8_place ∈ gw := gw_in 457 (by decide +kernel) (by decide +kernel)
theorem mC_X8_place : Cond.code yX8_place cX8_place 4 (some .int) ∈ gw := gw_in 458 (by decide +kernel) (by decide +kernel)
theorem mL_X8_165 : Cond.methodLink RX8 165 yX2_placeOf ∈ gw := gw_in 459 (by decide +kernel) (by decide +kernel)
theorem mI_X2_placeOf : Cond.instanceMethod yX2_placeOf ∈ gw := gw_in 460 (by decide +kernel) (by decide +kernel)
theorem mS_X2_placeOf : Cond.selects RX2 yX2_placeOf yX2_placeOf ∈ gw := gw_in 461 (by decide +kernel) (by decide +kernel)
theorem mC_X2_placeOf : Cond.code yX2_placeOf cX2_placeOf 3 (some .int) ∈ gw := gw_in 462 (by decide +kernel) (by decide +kernel)
theorem mL_L_61 : Cond.methodLink RL 61 yX8_wait ∈ gw := gw_in 463 (by decide +kernel) (by decide +kernel)
theorem mI_X8_wait : Cond.instanceMethod yX8_wait ∈ gw := gw_in 464 (by decide +kernel) (by decide +kernel)
theorem mS_X8_wait : Cond.selects RX8 yX8_wait yX8_wait ∈ gw := gw_in 465 (by decide +kernel) (by decide +kernel)
theorem mC_X8_wait : Cond.code yX8_wait cX8_wait 5 (some .int) ∈ gw := gw_in 466 (by decide +kernel) (by decide +kernel)
theorem mL_X8_168 : Cond.methodLink RX8 168 yX7_become ∈ gw := gw_in 467 (by decide +kernel) (by decide +kernel)
theorem mI_X7_become : Cond.instanceMethod yX7_become ∈ gw := gw_in 468 (by decide +kernel) (by decide +kernel)
theorem mS_X7_become : Cond.selects RX7 yX7_become yX7_become ∈ gw := gw_in 469 (by decide +kernel) (by decide +kernel)
theorem mC_X7_become : Cond.code yX7_become cX7_become 2 none ∈ gw := gw_in 470 (by decide +kernel) (by decide +kernel)
theorem mL_X7_38 : Cond.methodLink RX7 38 yX7_refill ∈ gw := gw_in 471 (by decide +kernel) (by decide +kernel)
theorem mT_X7_refill : Cond.static yX7_refill ∈ gw := gw_in 472 (by decide +kernel) (by decide +kernel)
theorem mC_X7_refill : Cond.code yX7_refill cX7_refill 3 none ∈ gw := gw_in 473 (by decide +kernel) (by decide +kernel)
theorem mL_X8_172 : Cond.methodLink RX8 172 yX5_firstOf ∈ gw := gw_in 474 (by decide +kernel) (by decide +kernel)
theorem mI_X5_firstOf : Cond.instanceMethod yX5_firstOf ∈ gw := gw_in 475 (by decide +kernel) (by decide +kernel)
theorem mS_X5_firstOf : Cond.selects RX5 yX5_firstOf yX5_firstOf ∈ gw := gw_in 476 (by decide +kernel) (by decide +kernel)
theorem mC_X5_firstOf : Cond.code yX5_firstOf cX5_firstOf 6 (some .int) ∈ gw := gw_in 477 (by decide +kernel) (by decide +kernel)
theorem mL_X5_31 : Cond.methodLink RX5 31 yX7_size ∈ gw := gw_in 478 (by decide +kernel) (by decide +kernel)
theorem mL_X5_43 : Cond.methodLink RX5 43 yX4_isHere ∈ gw := gw_in 479 (by decide +kernel) (by decide +kernel)
theorem mL_X5_49 : Cond.methodLink RX5 49 yX5_isAhead ∈ gw := gw_in 480 (by decide +kernel) (by decide +kernel)
theorem mL_X8_176 : Cond.methodLink RX8 176 yX7_take ∈ gw := gw_in 481 (by decide +kernel) (by decide +kernel)
theorem mI_X7_take : Cond.instanceMethod yX7_take ∈ gw := gw_in 482 (by decide +kernel) (by decide +kernel)
theorem mS_X7_take : Cond.selects RX7 yX7_take yX7_take ∈ gw := gw_in 483 (by decide +kernel) (by decide +kernel)
theorem mC_X7_take : Cond.code yX7_take cX7_take 3 none ∈ gw := gw_in 484 (by decide +kernel) (by decide +kernel)
theorem mL_X7_57 : Cond.methodLink RX7 57 yX7_speechesOf ∈ gw := gw_in 485 (by decide +kernel) (by decide +kernel)
theorem mL_X7_60 : Cond.methodLink RX7 60 yX4_delegationOf ∈ gw := gw_in 486 (by decide +kernel) (by decide +kernel)
theorem mL_X7_65 : Cond.methodLink RX7 65 yX7_drop ∈ gw := gw_in 487 (by decide +kernel) (by decide +kernel)
theorem mL_X8_179 : Cond.methodLink RX8 179 yX8_ticksFor ∈ gw := gw_in 488 (by decide +kernel) (by decide +kernel)
theorem mI_X8_ticksFor : Cond.instanceMethod yX8_ticksFor ∈ gw := gw_in 490 (by decide +kernel) (by decide +kernel)
theorem mC_X8_ticksFor : Cond.code yX8_ticksFor cX8_ticksFor 4 (some .int) ∈ gw := gw_in 491 (by decide +kernel) (by decide +kernel)
theorem mL_X8_212 : Cond.methodLink RX8 212 yX1_limitOf ∈ gw := gw_in 492 (by decide +kernel) (by decide +kernel)
theorem mI_X1_limitOf : Cond.instanceMethod yX1_limitOf ∈ gw := gw_in 493 (by decide +kernel) (by decide +kernel)
theorem mS_X1_limitOf : Cond.selects RX1 yX1_limitOf yX1_limitOf ∈ gw := gw_in 494 (by decide +kernel) (by decide +kernel)
theorem mC_X1_limitOf : Cond.code yX1_limitOf cX1_limitOf 2 (some .int) ∈ gw := gw_in 495 (by decide +kernel) (by decide +kernel)
theorem mL_X8_182 : Cond.methodLink RX8 182 yX7_addTime ∈ gw := gw_in 497 (by decide +kernel) (by decide +kernel)
theorem mI_X7_addTime : Cond.instanceMethod yX7_addTime ∈ gw := gw_in 498 (by decide +kernel) (by decide +kernel)
theorem mS_X7_addTime : Cond.selects RX7 yX7_addTime yX7_addTime ∈ gw := gw_in 499 (by decide +kernel) (by decide +kernel)
theorem mC_X7_addTime : Cond.code yX7_addTime cX7_addTime 4 none ∈ gw := gw_in 500 (by decide +kernel) (by decide +kernel)
theorem mL_X7_69 : Cond.methodLink RX7 69 yX7_timeOf ∈ gw := gw_in 501 (by decide +kernel) (by decide +kernel)
theorem mL_X7_72 : Cond.methodLink RX7 72 yX7_delegationTime ∈ gw := gw_in 502 (by decide +kernel) (by decide +kernel)
theorem mK_X8_185 : Cond.constant RX8 185 (-100008) ∈ gw := gw_in 503 (by decide +kernel) (by decide +kernel)
theorem mL_L_65 : Cond.methodLink RL 65 yX8_fits ∈ gw := gw_in 504 (by decide +kernel) (by decide +kernel)
theorem mI_X8_fits : Cond.instanceMethod yX8_fits ∈ gw := gw_in 505 (by decide +kernel) (by decide +kernel)
theorem mS_X8_fits : Cond.selects RX8 yX8_fits yX8_fits ∈ gw := gw_in 506 (by decide +kernel) (by decide +kernel)
theorem mC_X8_fits : Cond.code yX8_fits cX8_fits 8 (some .int) ∈ gw := gw_in 507 (by decide +kernel) (by decide +kernel)
theorem mL_L_69 : Cond.methodLink RL 69 yX8_begin ∈ gw := gw_in 508 (by decide +kernel) (by decide +kernel)
theorem mI_X8_begin : Cond.instanceMethod yX8_begin ∈ gw := gw_in 509 (by decide +kernel) (by decide +kernel)
theorem mS_X8_begin : Cond.selects RX8 yX8_begin yX8_begin ∈ gw := gw_in 510 (by decide +kernel) (by decide +kernel)
theorem mC_X8_begin : Cond.code yX8_begin cX8_begin 2 (some .int) ∈ gw := gw_in 511 (by decide +kernel) (by decide +kernel)
theorem mL_X8_186 : Cond.methodLink RX8 186 yX1_isHeld ∈ gw := gw_in 512 (by decide +kernel) (by decide +kernel)
theorem mI_X1_isHeld : Cond.instanceMethod yX1_isHeld ∈ gw := gw_in 513 (by decide +kernel) (by decide +kernel)
theorem mS_X1_isHeld : Cond.selects RX1 yX1_isHeld yX1_isHeld ∈ gw := gw_in 514 (by decide +kernel) (by decide +kernel)
theorem mC_X1_isHeld : Cond.code yX1_isHeld cX1_isHeld 1 (some .boolean) ∈ gw := gw_in 515 (by decide +kernel) (by decide +kernel)
theorem mK_X8_190 : Cond.constant RX8 190 (-100007) ∈ gw := gw_in 516 (by decide +kernel) (by decide +kernel)
theorem mL_X8_191 : Cond.methodLink RX8 191 yX8_takeFloor ∈ gw := gw_in 517 (by decide +kernel) (by decide +kernel)
theorem mI_X8_takeFloor : Cond.instanceMethod yX8_takeFloor ∈ gw := gw_in 519 (by decide +kernel) (by decide +kernel)
theorem mC_X8_takeFloor : Cond.code yX8_takeFloor cX8_takeFloor 4 (some .int) ∈ gw := gw_in 520 (by decide +kernel) (by decide +kernel)
theorem mL_X8_323 : Cond.methodLink RX8 323 yX1_push ∈ gw := gw_in 521 (by decide +kernel) (by decide +kernel)
theorem mI_X1_push : Cond.instanceMethod yX1_push ∈ gw := gw_in 522 (by decide +kernel) (by decide +kernel)
theorem mS_X1_push : Cond.selects RX1 yX1_push yX1_push ∈ gw := gw_in 523 (by decide +kernel) (by decide +kernel)
theorem mC_X1_push : Cond.code yX1_push cX1_push 4 none ∈ gw := gw_in 524 (by decide +kernel) (by decide +kernel)
theorem mL_L_73 : Cond.methodLink RL 73 yX8_cut ∈ gw := gw_in 526 (by decide +kernel) (by decide +kernel)
theorem mI_X8_cut : Cond.instanceMethod yX8_cut ∈ gw := gw_in 527 (by decide +kernel) (by decide +kernel)
theorem mS_X8_cut : Cond.selects RX8 yX8_cut yX8_cut ∈ gw := gw_in 528 (by decide +kernel) (by decide +kernel)
theorem mC_X8_cut : Cond.code yX8_cut cX8_cut 2 (some .int) ∈ gw := gw_in 529 (by decide +kernel) (by decide +kernel)
theorem mL_X8_194 : Cond.methodLink RX8 194 yX1_behind ∈ gw := gw_in 530 (by decide +kernel) (by decide +kernel)
theorem mI_X1_behind : Cond.instanceMethod yX1_behind ∈ gw := gw_in 531 (by decide +kernel) (by decide +kernel)
theorem mS_X1_behind : Cond.selects RX1 yX1_behind yX1_behind ∈ gw := gw_in 532 (by decide +kernel) (by decide +kernel)
theorem mC_X1_behind : Cond.code yX1_behind cX1_behind 1 (some .int) ∈ gw := gw_in 533 (by decide +kernel) (by decide +kernel)
theorem mL_X1_31 : Cond.methodLink RX1 31 yJ9_max_7cf53 ∈ gw := gw_in 534 (by decide +kernel) (by decide +kernel)
theorem mT_J9_max_7cf53 : Cond.static yJ9_max_7cf53 ∈ gw := gw_in 535 (by decide +kernel) (by decide +kernel)
theorem mC_J9_max_7cf53 : Cond.code yJ9_max_7cf53 cJ9_max_7cf53 2 (some .int) ∈ gw := gw_in 536 (by decide +kernel) (by decide +kernel)
theorem mL_L_77 : Cond.methodLink RL 77 yX8_tick ∈ gw := gw_in 537 (by decide +kernel) (by decide +kernel)
theorem mI_X8_tick : Cond.instanceMethod yX8_tick ∈ gw := gw_in 538 (by decide +kernel) (by decide +kernel)
theorem mS_X8_tick : Cond.selects RX8 yX8_tick yX8_tick ∈ gw := gw_in 539 (by decide +kernel) (by decide +kernel)
theorem mC_X8_tick : Cond.code yX8_tick cX8_tick 4 (some .int) ∈ gw := gw_in 540 (by decide +kernel) (by decide +kernel)
theorem mL_X8_197 : Cond.methodLink RX8 197 yX1_holder ∈ gw := gw_in 541 (by decide +kernel) (by decide +kernel)
theorem mI_X1_holder : Cond.instanceMethod yX1_holder ∈ gw := gw_in 542 (by decide +kernel) (by decide +kernel)
theorem mS_X1_holder : Cond.selects RX1 yX1_holder yX1_holder ∈ gw := gw_in 543 (by decide +kernel) (by decide +kernel)
theorem mC_X1_holder : Cond.code yX1_holder cX1_holder 1 (some .int) ∈ gw := gw_in 544 (by decide +kernel) (by decide +kernel)
theorem mL_X1_37 : Cond.methodLink RX1 37 yX1_isHeld ∈ gw := gw_in 545 (by decide +kernel) (by decide +kernel)
theorem mL_X8_200 : Cond.methodLink RX8 200 yX1_spendTick ∈ gw := gw_in 546 (by decide +kernel) (by decide +kernel)
theorem mI_X1_spendTick : Cond.instanceMethod yX1_spendTick ∈ gw := gw_in 547 (by decide +kernel) (by decide +kernel)
theorem mS_X1_spendTick : Cond.selects RX1 yX1_spendTick yX1_spendTick ∈ gw := gw_in 548 (by decide +kernel) (by decide +kernel)
theorem mC_X1_spendTick : Cond.code yX1_spendTick cX1_spendTick 1 none ∈ gw := gw_in 549 (by decide +kernel) (by decide +kernel)
theorem mL_X1_49 : Cond.methodLink RX1 49 yX1_ticksLeft ∈ gw := gw_in 550 (by decide +kernel) (by decide +kernel)
theorem mI_X1_ticksLeft : Cond.instanceMethod yX1_ticksLeft ∈ gw := gw_in 551 (by decide +kernel) (by decide +kernel)
theorem mS_X1_ticksLeft : Cond.selects RX1 yX1_ticksLeft yX1_ticksLeft ∈ gw := gw_in 552 (by decide +kernel) (by decide +kernel)
theorem mC_X1_ticksLeft : Cond.code yX1_ticksLeft cX1_ticksLeft 1 (some .int) ∈ gw := gw_in 553 (by decide +kernel) (by decide +kernel)
theorem mL_X1_53 : Cond.methodLink RX1 53 yX1_ticksHad ∈ gw := gw_in 554 (by decide +kernel) (by decide +kernel)
theorem mI_X1_ticksHad : Cond.instanceMethod yX1_ticksHad ∈ gw := gw_in 555 (by decide +kernel) (by decide +kernel)
theorem mS_X1_ticksHad : Cond.selects RX1 yX1_ticksHad yX1_ticksHad ∈ gw := gw_in 556 (by decide +kernel) (by decide +kernel)
theorem mC_X1_ticksHad : Cond.code yX1_ticksHad cX1_ticksHad 1 (some .int) ∈ gw := gw_in 557 (by decide +kernel) (by decide +kernel)
theorem mL_X8_203 : Cond.methodLink RX8 203 yX1_ticksLeft ∈ gw := gw_in 558 (by decide +kernel) (by decide +kernel)
theorem mL_X8_206 : Cond.methodLink RX8 206 yX8_endHolding ∈ gw := gw_in 559 (by decide +kernel) (by decide +kernel)
theorem mI_X8_endHolding : Cond.instanceMethod yX8_endHolding ∈ gw := gw_in 561 (by decide +kernel) (by decide +kernel)
theorem mC_X8_endHolding : Cond.code yX8_endHolding cX8_endHolding 1 none ∈ gw := gw_in 562 (by decide +kernel) (by decide +kernel)
theorem mL_X8_209 : Cond.methodLink RX8 209 yX1_sortHeld ∈ gw := gw_in 563 (by decide +kernel) (by decide +kernel)
theorem mI_X1_sortHeld : Cond.instanceMethod yX1_sortHeld ∈ gw := gw_in 564 (by decide +kernel) (by decide +kernel)
theorem mS_X1_sortHeld : Cond.selects RX1 yX1_sortHeld yX1_sortHeld ∈ gw := gw_in 565 (by decide +kernel) (by decide +kernel)
theorem mC_X1_sortHeld : Cond.code yX1_sortHeld cX1_sortHeld 1 (some .int) ∈ gw := gw_in 566 (by decide +kernel) (by decide +kernel)
theorem mL_X8_327 : Cond.methodLink RX8 327 yX1_ticksHad ∈ gw := gw_in 567 (by decide +kernel) (by decide +kernel)
theorem mL_X8_330 : Cond.methodLink RX8 330 yX3_write ∈ gw := gw_in 568 (by decide +kernel) (by decide +kernel)
theorem mI_X3_write : Cond.instanceMethod yX3_write ∈ gw := gw_in 569 (by decide +kernel) (by decide +kernel)
theorem mS_X3_write : Cond.selects RX3 yX3_write yX3_write ∈ gw := gw_in 570 (by decide +kernel) (by decide +kernel)
theorem mC_X3_write : Cond.code yX3_write cX3_write 5 none ∈ gw := gw_in 571 (by decide +kernel) (by decide +kernel)
theorem mL_X8_333 : Cond.methodLink RX8 333 yX1_pop ∈ gw := gw_in 573 (by decide +kernel) (by decide +kernel)
theorem mI_X1_pop : Cond.instanceMethod yX1_pop ∈ gw := gw_in 574 (by decide +kernel) (by decide +kernel)
theorem mS_X1_pop : Cond.selects RX1 yX1_pop yX1_pop ∈ gw := gw_in 575 (by decide +kernel) (by decide +kernel)
theorem mC_X1_pop : Cond.code yX1_pop cX1_pop 1 none ∈ gw := gw_in 576 (by decide +kernel) (by decide +kernel)
theorem mL_L_81 : Cond.methodLink RL 81 yX8_yield ∈ gw := gw_in 577 (by decide +kernel) (by decide +kernel)
theorem mI_X8_yield : Cond.instanceMethod yX8_yield ∈ gw := gw_in 578 (by decide +kernel) (by decide +kernel)
theorem mS_X8_yield : Cond.selects RX8 yX8_yield yX8_yield ∈ gw := gw_in 579 (by decide +kernel) (by decide +kernel)
theorem mC_X8_yield : Cond.code yX8_yield cX8_yield 1 (some .int) ∈ gw := gw_in 580 (by decide +kernel) (by decide +kernel)
theorem mL_L_85 : Cond.methodLink RL 85 yX8_floor ∈ gw := gw_in 581 (by decide +kernel) (by decide +kernel)
theorem mI_X8_floor : Cond.instanceMethod yX8_floor ∈ gw := gw_in 582 (by decide +kernel) (by decide +kernel)
theorem mS_X8_floor : Cond.selects RX8 yX8_floor yX8_floor ∈ gw := gw_in 583 (by decide +kernel) (by decide +kernel)
theorem mC_X8_floor : Cond.code yX8_floor cX8_floor 2 (some .int) ∈ gw := gw_in 584 (by decide +kernel) (by decide +kernel)
theorem mL_L_89 : Cond.methodLink RL 89 yX8_limit ∈ gw := gw_in 585 (by decide +kernel) (by decide +kernel)
theorem mI_X8_limit : Cond.instanceMethod yX8_limit ∈ gw := gw_in 586 (by decide +kernel) (by decide +kernel)
theorem mS_X8_limit : Cond.selects RX8 yX8_limit yX8_limit ∈ gw := gw_in 587 (by decide +kernel) (by decide +kernel)
theorem mC_X8_limit : Cond.code yX8_limit cX8_limit 4 (some .int) ∈ gw := gw_in 588 (by decide +kernel) (by decide +kernel)
theorem mL_X8_215 : Cond.methodLink RX8 215 yX1_setLimit ∈ gw := gw_in 589 (by decide +kernel) (by decide +kernel)
theorem mI_X1_setLimit : Cond.instanceMethod yX1_setLimit ∈ gw := gw_in 590 (by decide +kernel) (by decide +kernel)
theorem mS_X1_setLimit : Cond.selects RX1 yX1_setLimit yX1_setLimit ∈ gw := gw_in 591 (by decide +kernel) (by decide +kernel)
theorem mC_X1_setLimit : Cond.code yX1_setLimit cX1_setLimit 3 none ∈ gw := gw_in 592 (by decide +kernel) (by decide +kernel)
theorem mL_L_93 : Cond.methodLink RL 93 yX8_vote ∈ gw := gw_in 593 (by decide +kernel) (by decide +kernel)
theorem mI_X8_vote : Cond.instanceMethod yX8_vote ∈ gw := gw_in 594 (by decide +kernel) (by decide +kernel)
theorem mS_X8_vote : Cond.selects RX8 yX8_vote yX8_vote ∈ gw := gw_in 595 (by decide +kernel) (by decide +kernel)
theorem mC_X8_vote : Cond.code yX8_vote cX8_vote 1 (some .int) ∈ gw := gw_in 596 (by decide +kernel) (by decide +kernel)
theorem mL_X8_218 : Cond.methodLink RX8 218 yX0_isOpen ∈ gw := gw_in 597 (by decide +kernel) (by decide +kernel)
theorem mI_X0_isOpen : Cond.instanceMethod yX0_isOpen ∈ gw := gw_in 598 (by decide +kernel) (by decide +kernel)
theorem mS_X0_isOpen : Cond.selects RX0 yX0_isOpen yX0_isOpen ∈ gw := gw_in 599 (by decide +kernel) (by decide +kernel)
theorem mC_X0_isOpen : Cond.code yX0_isOpen cX0_isOpen 1 (some .boolean) ∈ gw := gw_in 600 (by decide +kernel) (by decide +kernel)
theorem mL_X8_221 : Cond.methodLink RX8 221 yX0_open ∈ gw := gw_in 601 (by decide +kernel) (by decide +kernel)
theorem mI_X0_open : Cond.instanceMethod yX0_open ∈ gw := gw_in 602 (by decide +kernel) (by decide +kernel)
theorem mS_X0_open : Cond.selects RX0 yX0_open yX0_open ∈ gw := gw_in 603 (by decide +kernel) (by decide +kernel)
theorem mC_X0_open : Cond.code yX0_open cX0_open 2 none ∈ gw := gw_in 604 (by decide +kernel) (by decide +kernel)
theorem mL_L_97 : Cond.methodLink RL 97 yX8_say ∈ gw := gw_in 605 (by decide +kernel) (by decide +kernel)
theorem mI_X8_say : Cond.instanceMethod yX8_say ∈ gw := gw_in 606 (by decide +kernel) (by decide +kernel)
theorem mS_X8_say : Cond.selects RX8 yX8_say yX8_say ∈ gw := gw_in 607 (by decide +kernel) (by decide +kernel)
theorem mC_X8_say : Cond.code yX8_say cX8_say 4 (some .int) ∈ gw := gw_in 608 (by decide +kernel) (by decide +kernel)
theorem mL_X8_224 : Cond.methodLink RX8 224 yX4_mayVote ∈ gw := gw_in 609 (by decide +kernel) (by decide +kernel)
theorem mI_X4_mayVote : Cond.instanceMethod yX4_mayVote ∈ gw := gw_in 610 (by decide +kernel) (by decide +kernel)
theorem mS_X4_mayVote : Cond.selects RX4 yX4_mayVote yX4_mayVote ∈ gw := gw_in 611 (by decide +kernel) (by decide +kernel)
theorem mC_X4_mayVote : Cond.code yX4_mayVote cX4_mayVote 2 (some .boolean) ∈ gw := gw_in 612 (by decide +kernel) (by decide +kernel)
theorem mL_X4_41 : Cond.methodLink RX4 41 yX4_isHere ∈ gw := gw_in 613 (by decide +kernel) (by decide +kernel)
theorem mL_X4_45 : Cond.methodLink RX4 45 yX4_isOfKind ∈ gw := gw_in 614 (by decide +kernel) (by decide +kernel)
theorem mL_X8_227 : Cond.methodLink RX8 227 yX0_saidBy ∈ gw := gw_in 615 (by decide +kernel) (by decide +kernel)
theorem mI_X0_saidBy : Cond.instanceMethod yX0_saidBy ∈ gw := gw_in 616 (by decide +kernel) (by decide +kernel)
theorem mS_X0_saidBy : Cond.selects RX0 yX0_saidBy yX0_saidBy ∈ gw := gw_in 617 (by decide +kernel) (by decide +kernel)
theorem mC_X0_saidBy : Cond.code yX0_saidBy cX0_saidBy 2 (some .int) ∈ gw := gw_in 618 (by decide +kernel) (by decide +kernel)
theorem mL_X8_230 : Cond.methodLink RX8 230 yX0_mark ∈ gw := gw_in 620 (by decide +kernel) (by decide +kernel)
theorem mI_X0_mark : Cond.instanceMethod yX0_mark ∈ gw := gw_in 621 (by decide +kernel) (by decide +kernel)
theorem mS_X0_mark : Cond.selects RX0 yX0_mark yX0_mark ∈ gw := gw_in 622 (by decide +kernel) (by decide +kernel)
theorem mC_X0_mark : Cond.code yX0_mark cX0_mark 3 none ∈ gw := gw_in 623 (by decide +kernel) (by decide +kernel)
theorem mL_L_101 : Cond.methodLink RL 101 yX8_votes ∈ gw := gw_in 625 (by decide +kernel) (by decide +kernel)
theorem mI_X8_votes : Cond.instanceMethod yX8_votes ∈ gw := gw_in 626 (by decide +kernel) (by decide +kernel)
theorem mS_X8_votes : Cond.selects RX8 yX8_votes yX8_votes ∈ gw := gw_in 627 (by decide +kernel) (by decide +kernel)
theorem mC_X8_votes : Cond.code yX8_votes cX8_votes 2 (some .int) ∈ gw := gw_in 628 (by decide +kernel) (by decide +kernel)
theorem mL_X8_233 : Cond.methodLink RX8 233 yX0_count ∈ gw := gw_in 629 (by decide +kernel) (by decide +kernel)
theorem mI_X0_count : Cond.instanceMethod yX0_count ∈ gw := gw_in 630 (by decide +kernel) (by decide +kernel)
theorem mS_X0_count : Cond.selects RX0 yX0_count yX0_count ∈ gw := gw_in 631 (by decide +kernel) (by decide +kernel)
theorem mC_X0_count : Cond.code yX0_count cX0_count 4 (some .int) ∈ gw := gw_in 632 (by decide +kernel) (by decide +kernel)
theorem mL_X0_31 : Cond.methodLink RX0 31 yX4_size ∈ gw := gw_in 633 (by decide +kernel) (by decide +kernel)
theorem mL_X0_37 : Cond.methodLink RX0 37 yX4_mayVote ∈ gw := gw_in 634 (by decide +kernel) (by decide +kernel)
theorem mL_X0_41 : Cond.methodLink RX0 41 yX0_saidBy ∈ gw := gw_in 635 (by decide +kernel) (by decide +kernel)
theorem mL_L_105 : Cond.methodLink RL 105 yX8_close ∈ gw := gw_in 636 (by decide +kernel) (by decide +kernel)
theorem mI_X8_close : Cond.instanceMethod yX8_close ∈ gw := gw_in 637 (by decide +kernel) (by decide +kernel)
theorem mS_X8_close : Cond.selects RX8 yX8_close yX8_close ∈ gw := gw_in 638 (by decide +kernel) (by decide +kernel)
theorem mC_X8_close : Cond.code yX8_close cX8_close 3 (some .int) ∈ gw := gw_in 639 (by decide +kernel) (by decide +kernel)
theorem mL_X8_236 : Cond.methodLink RX8 236 yX8_isNeed ∈ gw := gw_in 640 (by decide +kernel) (by decide +kernel)
theorem mT_X8_isNeed : Cond.static yX8_isNeed ∈ gw := gw_in 641 (by decide +kernel) (by decide +kernel)
theorem mC_X8_isNeed : Cond.code yX8_isNeed cX8_isNeed 1 (some .boolean) ∈ gw := gw_in 642 (by decide +kernel) (by decide +kernel)
theorem mL_X8_239 : Cond.methodLink RX8 239 yX8_passes ∈ gw := gw_in 643 (by decide +kernel) (by decide +kernel)
theorem mT_X8_passes : Cond.static yX8_passes ∈ gw := gw_in 644 (by decide +kernel) (by decide +kernel)
theorem mC_X8_passes : Cond.code yX8_passes cX8_passes 3 (some .boolean) ∈ gw := gw_in 645 (by decide +kernel) (by decide +kernel)
theorem mL_X8_242 : Cond.methodLink RX8 242 yX0_shut ∈ gw := gw_in 646 (by decide +kernel) (by decide +kernel)
theorem mI_X0_shut : Cond.instanceMethod yX0_shut ∈ gw := gw_in 647 (by decide +kernel) (by decide +kernel)
theorem mS_X0_shut : Cond.selects RX0 yX0_shut yX0_shut ∈ gw := gw_in 648 (by decide +kernel) (by decide +kernel)
theorem mC_X0_shut : Cond.code yX0_shut cX0_shut 1 none ∈ gw := gw_in 649 (by decide +kernel) (by decide +kernel)
theorem mL_L_109 : Cond.methodLink RL 109 yX8_hands ∈ gw := gw_in 650 (by decide +kernel) (by decide +kernel)
theorem mI_X8_hands : Cond.instanceMethod yX8_hands ∈ gw := gw_in 651 (by decide +kernel) (by decide +kernel)
theorem mS_X8_hands : Cond.selects RX8 yX8_hands yX8_hands ∈ gw := gw_in 652 (by decide +kernel) (by decide +kernel)
theorem mC_X8_hands : Cond.code yX8_hands cX8_hands 5 (some .int) ∈ gw := gw_in 653 (by decide +kernel) (by decide +kernel)
theorem mL_X8_245 : Cond.methodLink RX8 245 yJ9_max_7cf53 ∈ gw := gw_in 654 (by decide +kernel) (by decide +kernel)
theorem mL_L_114 : Cond.methodLink RL 114 yX8_apart ∈ gw := gw_in 655 (by decide +kernel) (by decide +kernel)
theorem mI_X8_apart : Cond.instanceMethod yX8_apart ∈ gw := gw_in 656 (by decide +kernel) (by decide +kernel)
theorem mS_X8_apart : Cond.selects RX8 yX8_apart yX8_apart ∈ gw := gw_in 657 (by decide +kernel) (by decide +kernel)
theorem mC_X8_apart : Cond.code yX8_apart cX8_apart 6 (some .int) ∈ gw := gw_in 658 (by decide +kernel) (by decide +kernel)
theorem mL_X8_250 : Cond.methodLink RX8 250 yX4_isPeopled ∈ gw := gw_in 659 (by decide +kernel) (by decide +kernel)
theorem mI_X4_isPeopled : Cond.instanceMethod yX4_isPeopled ∈ gw := gw_in 660 (by decide +kernel) (by decide +kernel)
theorem mS_X4_isPeopled : Cond.selects RX4 yX4_isPeopled yX4_isPeopled ∈ gw := gw_in 661 (by decide +kernel) (by decide +kernel)
theorem mC_X4_isPeopled : Cond.code yX4_isPeopled cX4_isPeopled 3 (some .boolean) ∈ gw := gw_in 662 (by decide +kernel) (by decide +kernel)
theorem mL_X4_49 : Cond.methodLink RX4 49 yX4_delegationOf ∈ gw := gw_in 663 (by decide +kernel) (by decide +kernel)
theorem mL_X8_253 : Cond.methodLink RX8 253 yJ9_min_7cf53 ∈ gw := gw_in 664 (by decide +kernel) (by decide +kernel)
theorem mT_J9_min_7cf53 : Cond.static yJ9_min_7cf53 ∈ gw := gw_in 665 (by decide +kernel) (by decide +kernel)
theorem mC_J9_min_7cf53 : Cond.code yJ9_min_7cf53 cJ9_min_7cf53 2 (some .int) ∈ gw := gw_in 666 (by decide +kernel) (by decide +kernel)
theorem mL_L_118 : Cond.methodLink RL 118 yX8_uneven ∈ gw := gw_in 667 (by decide +kernel) (by decide +kernel)
theorem mI_X8_uneven : Cond.instanceMethod yX8_uneven ∈ gw := gw_in 668 (by decide +kernel) (by decide +kernel)
theorem mS_X8_uneven : Cond.selects RX8 yX8_uneven yX8_uneven ∈ gw := gw_in 669 (by decide +kernel) (by decide +kernel)
theorem mC_X8_uneven : Cond.code yX8_uneven cX8_uneven 5 (some .int) ∈ gw := gw_in 670 (by decide +kernel) (by decide +kernel)
theorem mL_X8_256 : Cond.methodLink RX8 256 yX8_gapsOfPairs ∈ gw := gw_in 671 (by decide +kernel) (by decide +kernel)
theorem mI_X8_gapsOfPairs : Cond.instanceMethod yX8_gapsOfPairs ∈ gw := gw_in 673 (by decide +kernel) (by decide +kernel)
theorem mC_X8_gapsOfPairs : Cond.code yX8_gapsOfPairs cX8_gapsOfPairs 4 (some .int) ∈ gw := gw_in 674 (by decide +kernel) (by decide +kernel)
theorem mL_X8_336 : Cond.methodLink RX8 336 yJ9_abs_0f7a4 ∈ gw := gw_in 675 (by decide +kernel) (by decide +kernel)
theorem mT_J9_abs_0f7a4 : Cond.static yJ9_abs_0f7a4 ∈ gw := gw_in 676 (by decide +kernel) (by decide +kernel)
theorem mC_J9_abs_0f7a4 : Cond.code yJ9_abs_0f7a4 cJ9_abs_0f7a4 1 (some .int) ∈ gw := gw_in 677 (by decide +kernel) (by decide +kernel)
theorem mL_X8_259 : Cond.methodLink RX8 259 yX8_peopledDelegations ∈ gw := gw_in 678 (by decide +kernel) (by decide +kernel)
theorem mI_X8_peopledDelegations : Cond.instanceMethod yX8_peopledDelegations ∈ gw := gw_in 680 (by decide +kernel) (by decide +kernel)
theorem mC_X8_peopledDelegations : Cond.code yX8_peopledDelegations cX8_peopledDelegations 3 (some .int) ∈ gw := gw_in 681 (by decide +kernel) (by decide +kernel)
theorem mL_X8_262 : Cond.methodLink RX8 262 yX8_allTime ∈ gw := gw_in 682 (by decide +kernel) (by decide +kernel)
theorem mI_X8_allTime : Cond.instanceMethod yX8_allTime ∈ gw := gw_in 684 (by decide +kernel) (by decide +kernel)
theorem mC_X8_allTime : Cond.code yX8_allTime cX8_allTime 3 (some .int) ∈ gw := gw_in 685 (by decide +kernel) (by decide +kernel)
theorem mL_X8_265 : Cond.methodLink RX8 265 yX8_greatestDivisor ∈ gw := gw_in 686 (by decide +kernel) (by decide +kernel)
theorem mT_X8_greatestDivisor : Cond.static yX8_greatestDivisor ∈ gw := gw_in 687 (by decide +kernel) (by decide +kernel)
theorem mC_X8_greatestDivisor : Cond.code yX8_greatestDivisor cX8_greatestDivisor 6 (some .int) ∈ gw := gw_in 688 (by decide +kernel) (by decide +kernel)
theorem mL_L_123 : Cond.methodLink RL 123 yX8_minutes ∈ gw := gw_in 689 (by decide +kernel) (by decide +kernel)
theorem mI_X8_minutes : Cond.instanceMethod yX8_minutes ∈ gw := gw_in 690 (by decide +kernel) (by decide +kernel)
theorem mS_X8_minutes : Cond.selects RX8 yX8_minutes yX8_minutes ∈ gw := gw_in 691 (by decide +kernel) (by decide +kernel)
theorem mC_X8_minutes : Cond.code yX8_minutes cX8_minutes 3 (some .int) ∈ gw := gw_in 692 (by decide +kernel) (by decide +kernel)
theorem mL_X8_268 : Cond.methodLink RX8 268 yX3_has ∈ gw := gw_in 693 (by decide +kernel) (by decide +kernel)
theorem mI_X3_has : Cond.instanceMethod yX3_has ∈ gw := gw_in 694 (by decide +kernel) (by decide +kernel)
theorem mS_X3_has : Cond.selects RX3 yX3_has yX3_has ∈ gw := gw_in 695 (by decide +kernel) (by decide +kernel)
theorem mC_X3_has : Cond.code yX3_has cX3_has 2 (some .boolean) ∈ gw := gw_in 696 (by decide +kernel) (by decide +kernel)
theorem mL_X3_40 : Cond.methodLink RX3 40 yX3_size ∈ gw := gw_in 697 (by decide +kernel) (by decide +kernel)
theorem mI_X3_size : Cond.instanceMethod yX3_size ∈ gw := gw_in 698 (by decide +kernel) (by decide +kernel)
theorem mS_X3_size : Cond.selects RX3 yX3_size yX3_size ∈ gw := gw_in 699 (by decide +kernel) (by decide +kernel)
theorem mC_X3_size : Cond.code yX3_size cX3_size 1 (some .int) ∈ gw := gw_in 700 (by decide +kernel) (by decide +kernel)
theorem mL_X3_34 : Cond.methodLink RX3 34 yJ9_min_7cf53 ∈ gw := gw_in 701 (by decide +kernel) (by decide +kernel)
theorem mL_X8_269 : Cond.methodLink RX8 269 yX3_memberAt ∈ gw := gw_in 702 (by decide +kernel) (by decide +kernel)
theorem mI_X3_memberAt : Cond.instanceMethod yX3_memberAt ∈ gw := gw_in 703 (by decide +kernel) (by decide +kernel)
theorem mS_X3_memberAt : Cond.selects RX3 yX3_memberAt yX3_memberAt ∈ gw := gw_in 704 (by decide +kernel) (by decide +kernel)
theorem mC_X3_memberAt : Cond.code yX3_memberAt cX3_memberAt 2 (some .int) ∈ gw := gw_in 705 (by decide +kernel) (by decide +kernel)
theorem mL_X3_48 : Cond.methodLink RX3 48 yX3_slotOf ∈ gw := gw_in 706 (by decide +kernel) (by decide +kernel)
theorem mI_X3_slotOf : Cond.instanceMethod yX3_slotOf ∈ gw := gw_in 708 (by decide +kernel) (by decide +kernel)
theorem mC_X3_slotOf : Cond.code yX3_slotOf cX3_slotOf 2 (some .int) ∈ gw := gw_in 709 (by decide +kernel) (by decide +kernel)
theorem mL_X3_56 : Cond.methodLink RX3 56 yX3_rowWritten ∈ gw := gw_in 710 (by decide +kernel) (by decide +kernel)
theorem mI_X3_rowWritten : Cond.instanceMethod yX3_rowWritten ∈ gw := gw_in 712 (by decide +kernel) (by decide +kernel)
theorem mC_X3_rowWritten : Cond.code yX3_rowWritten cX3_rowWritten 2 (some .int) ∈ gw := gw_in 713 (by decide +kernel) (by decide +kernel)
theorem mL_X8_270 : Cond.methodLink RX8 270 yX3_sortAt ∈ gw := gw_in 715 (by decide +kernel) (by decide +kernel)
theorem mI_X3_sortAt : Cond.instanceMethod yX3_sortAt ∈ gw := gw_in 716 (by decide +kernel) (by decide +kernel)
theorem mS_X3_sortAt : Cond.selects RX3 yX3_sortAt yX3_sortAt ∈ gw := gw_in 717 (by decide +kernel) (by decide +kernel)
theorem mC_X3_sortAt : Cond.code yX3_sortAt cX3_sortAt 2 (some .int) ∈ gw := gw_in 718 (by decide +kernel) (by decide +kernel)
theorem mL_X8_271 : Cond.methodLink RX8 271 yX3_latestCount ∈ gw := gw_in 719 (by decide +kernel) (by decide +kernel)
theorem mI_X3_latestCount : Cond.instanceMethod yX3_latestCount ∈ gw := gw_in 720 (by decide +kernel) (by decide +kernel)
theorem mS_X3_latestCount : Cond.selects RX3 yX3_latestCount yX3_latestCount ∈ gw := gw_in 721 (by decide +kernel) (by decide +kernel)
theorem mC_X3_latestCount : Cond.code yX3_latestCount cX3_latestCount 1 (some .int) ∈ gw := gw_in 722 (by decide +kernel) (by decide +kernel)
theorem mL_X8_274 : Cond.methodLink RX8 274 yX3_ticksAsOf ∈ gw := gw_in 723 (by decide +kernel) (by decide +kernel)
theorem mI_X3_ticksAsOf : Cond.instanceMethod yX3_ticksAsOf ∈ gw := gw_in 724 (by decide +kernel) (by decide +kernel)
theorem mS_X3_ticksAsOf : Cond.selects RX3 yX3_ticksAsOf yX3_ticksAsOf ∈ gw := gw_in 725 (by decide +kernel) (by decide +kernel)
theorem mC_X3_ticksAsOf : Cond.code yX3_ticksAsOf cX3_ticksAsOf 5 (some .int) ∈ gw := gw_in 726 (by decide +kernel) (by decide +kernel)
theorem mL_X3_59 : Cond.methodLink RX3 59 yX3_firstTicksAt ∈ gw := gw_in 727 (by decide +kernel) (by decide +kernel)
theorem mI_X3_firstTicksAt : Cond.instanceMethod yX3_firstTicksAt ∈ gw := gw_in 728 (by decide +kernel) (by decide +kernel)
theorem mS_X3_firstTicksAt : Cond.selects RX3 yX3_firstTicksAt yX3_firstTicksAt ∈ gw := gw_in 729 (by decide +kernel) (by decide +kernel)
theorem mC_X3_firstTicksAt : Cond.code yX3_firstTicksAt cX3_firstTicksAt 2 (some .int) ∈ gw := gw_in 730 (by decide +kernel) (by decide +kernel)
theorem mL_X8_277 : Cond.methodLink RX8 277 yX3_firstTicksAt ∈ gw := gw_in 731 (by decide +kernel) (by decide +kernel)
theorem mL_L_127 : Cond.methodLink RL 127 yX8_right ∈ gw := gw_in 732 (by decide +kernel) (by decide +kernel)
theorem mI_X8_right : Cond.instanceMethod yX8_right ∈ gw := gw_in 733 (by decide +kernel) (by decide +kernel)
theorem mS_X8_right : Cond.selects RX8 yX8_right yX8_right ∈ gw := gw_in 734 (by decide +kernel) (by decide +kernel)
theorem mC_X8_right : Cond.code yX8_right cX8_right 3 (some .int) ∈ gw := gw_in 735 (by decide +kernel) (by decide +kernel)
theorem mL_X8_280 : Cond.methodLink RX8 280 yX3_correct ∈ gw := gw_in 736 (by decide +kernel) (by decide +kernel)
theorem mI_X3_correct : Cond.instanceMethod yX3_correct ∈ gw := gw_in 737 (by decide +kernel) (by decide +kernel)
theorem mS_X3_correct : Cond.selects RX3 yX3_correct yX3_correct ∈ gw := gw_in 738 (by decide +kernel) (by decide +kernel)
theorem mC_X3_correct : Cond.code yX3_correct cX3_correct 3 none ∈ gw := gw_in 739 (by decide +kernel) (by decide +kernel)
theorem mL_L_131 : Cond.methodLink RL 131 yX8_sum ∈ gw := gw_in 740 (by decide +kernel) (by decide +kernel)
theorem mI_X8_sum : Cond.instanceMethod yX8_sum ∈ gw := gw_in 741 (by decide +kernel) (by decide +kernel)
theorem mS_X8_sum : Cond.selects RX8 yX8_sum yX8_sum ∈ gw := gw_in 742 (by decide +kernel) (by decide +kernel)
theorem mC_X8_sum : Cond.code yX8_sum cX8_sum 3 (some .int) ∈ gw := gw_in 743 (by decide +kernel) (by decide +kernel)
theorem mL_X8_283 : Cond.methodLink RX8 283 yX3_ticksOfMember ∈ gw := gw_in 744 (by decide +kernel) (by decide +kernel)
theorem mI_X3_ticksOfMember : Cond.instanceMethod yX3_ticksOfMember ∈ gw := gw_in 745 (by decide +kernel) (by decide +kernel)
theorem mS_X3_ticksOfMember : Cond.selects RX3 yX3_ticksOfMember yX3_ticksOfMember ∈ gw := gw_in 746 (by decide +kernel) (by decide +kernel)
theorem mC_X3_ticksOfMember : Cond.code yX3_ticksOfMember cX3_ticksOfMember 5 (some .int) ∈ gw := gw_in 747 (by decide +kernel) (by decide +kernel)
theorem mL_X3_62 : Cond.methodLink RX3 62 yX3_memberAt ∈ gw := gw_in 748 (by decide +kernel) (by decide +kernel)
theorem mL_X3_65 : Cond.methodLink RX3 65 yX3_ticksAsOf ∈ gw := gw_in 749 (by decide +kernel) (by decide +kernel)
theorem mL_L_135 : Cond.methodLink RL 135 yX8_sheet ∈ gw := gw_in 750 (by decide +kernel) (by decide +kernel)
theorem mI_X8_sheet : Cond.instanceMethod yX8_sheet ∈ gw := gw_in 751 (by decide +kernel) (by decide +kernel)
theorem mS_X8_sheet : Cond.selects RX8 yX8_sheet yX8_sheet ∈ gw := gw_in 752 (by decide +kernel) (by decide +kernel)
theorem mC_X8_sheet : Cond.code yX8_sheet cX8_sheet 5 (some .int) ∈ gw := gw_in 753 (by decide +kernel) (by decide +kernel)
theorem mL_X8_286 : Cond.methodLink RX8 286 yX8_sheetAt ∈ gw := gw_in 754 (by decide +kernel) (by decide +kernel)
theorem mI_X8_sheetAt : Cond.instanceMethod yX8_sheetAt ∈ gw := gw_in 756 (by decide +kernel) (by decide +kernel)
theorem mC_X8_sheetAt : Cond.code yX8_sheetAt cX8_sheetAt 2 (some (.object "SpeakHall$Sheet")) ∈ gw := gw_in 757 (by decide +kernel) (by decide +kernel)
theorem mL_X8_290 : Cond.methodLink RX8 290 yX8_isWidth ∈ gw := gw_in 758 (by decide +kernel) (by decide +kernel)
theorem mT_X8_isWidth : Cond.static yX8_isWidth ∈ gw := gw_in 759 (by decide +kernel) (by decide +kernel)
theorem mC_X8_isWidth : Cond.code yX8_isWidth cX8_isWidth 1 (some .boolean) ∈ gw := gw_in 760 (by decide +kernel) (by decide +kernel)
theorem mL_X8_293 : Cond.methodLink RX8 293 yX6_lay ∈ gw := gw_in 761 (by decide +kernel) (by decide +kernel)
theorem mI_X6_lay : Cond.instanceMethod yX6_lay ∈ gw := gw_in 762 (by decide +kernel) (by decide +kernel)
theorem mS_X6_lay : Cond.selects RX6 yX6_lay yX6_lay ∈ gw := gw_in 763 (by decide +kernel) (by decide +kernel)
theorem mC_X6_lay : Cond.code yX6_lay cX6_lay 4 none ∈ gw := gw_in 764 (by decide +kernel) (by decide +kernel)
theorem mL_X8_295 : Cond.methodLink RX8 295 yX6_size ∈ gw := gw_in 765 (by decide +kernel) (by decide +kernel)
theorem mI_X6_size : Cond.instanceMethod yX6_size ∈ gw := gw_in 766 (by decide +kernel) (by decide +kernel)
theorem mS_X6_size : Cond.selects RX6 yX6_size yX6_size ∈ gw := gw_in 767 (by decide +kernel) (by decide +kernel)
theorem mC_X6_size : Cond.code yX6_size cX6_size 1 (some .int) ∈ gw := gw_in 768 (by decide +kernel) (by decide +kernel)
theorem mL_L_140 : Cond.methodLink RL 140 yX8_put ∈ gw := gw_in 769 (by decide +kernel) (by decide +kernel)
theorem mI_X8_put : Cond.instanceMethod yX8_put ∈ gw := gw_in 770 (by decide +kernel) (by decide +kernel)
theorem mS_X8_put : Cond.selects RX8 yX8_put yX8_put ∈ gw := gw_in 771 (by decide +kernel) (by decide +kernel)
theorem mC_X8_put : Cond.code yX8_put cX8_put 5 (some .int) ∈ gw := gw_in 772 (by decide +kernel) (by decide +kernel)
theorem mL_X8_296 : Cond.methodLink RX8 296 yX6_isMissing ∈ gw := gw_in 773 (by decide +kernel) (by decide +kernel)
theorem mI_X6_isMissing : Cond.instanceMethod yX6_isMissing ∈ gw := gw_in 774 (by decide +kernel) (by decide +kernel)
theorem mS_X6_isMissing : Cond.selects RX6 yX6_isMissing yX6_isMissing ∈ gw := gw_in 775 (by decide +kernel) (by decide +kernel)
theorem mC_X6_isMissing : Cond.code yX6_isMissing cX6_isMissing 1 (some .boolean) ∈ gw := gw_in 776 (by decide +kernel) (by decide +kernel)
theorem mK_X8_299 : Cond.constant RX8 299 (-100002) ∈ gw := gw_in 777 (by decide +kernel) (by decide +kernel)
theorem mL_X8_300 : Cond.methodLink RX8 300 yX6_store ∈ gw := gw_in 778 (by decide +kernel) (by decide +kernel)
theorem mI_X6_store : Cond.instanceMethod yX6_store ∈ gw := gw_in 779 (by decide +kernel) (by decide +kernel)
theorem mS_X6_store : Cond.selects RX6 yX6_store yX6_store ∈ gw := gw_in 780 (by decide +kernel) (by decide +kernel)
theorem mC_X6_store : Cond.code yX6_store cX6_store 3 none ∈ gw := gw_in 781 (by decide +kernel) (by decide +kernel)
theorem mL_X6_26 : Cond.methodLink RX6 26 yX6_lowestBits ∈ gw := gw_in 782 (by decide +kernel) (by decide +kernel)
theorem mI_X6_lowestBits : Cond.instanceMethod yX6_lowestBits ∈ gw := gw_in 784 (by decide +kernel) (by decide +kernel)
theorem mC_X6_lowestBits : Cond.code yX6_lowestBits cX6_lowestBits 2 (some .int) ∈ gw := gw_in 785 (by decide +kernel) (by decide +kernel)
theorem mK_X6_34 : Cond.constant RX6 34 (65535) ∈ gw := gw_in 786 (by decide +kernel) (by decide +kernel)
theorem mL_L_144 : Cond.methodLink RL 144 yX8_copy ∈ gw := gw_in 788 (by decide +kernel) (by decide +kernel)
theorem mI_X8_copy : Cond.instanceMethod yX8_copy ∈ gw := gw_in 789 (by decide +kernel) (by decide +kernel)
theorem mS_X8_copy : Cond.selects RX8 yX8_copy yX8_copy ∈ gw := gw_in 790 (by decide +kernel) (by decide +kernel)
theorem mC_X8_copy : Cond.code yX8_copy cX8_copy 8 (some .int) ∈ gw := gw_in 791 (by decide +kernel) (by decide +kernel)
theorem mL_X8_303 : Cond.methodLink RX8 303 yX6_width ∈ gw := gw_in 792 (by decide +kernel) (by decide +kernel)
theorem mI_X6_width : Cond.instanceMethod yX6_width ∈ gw := gw_in 793 (by decide +kernel) (by decide +kernel)
theorem mS_X6_width : Cond.selects RX6 yX6_width yX6_width ∈ gw := gw_in 794 (by decide +kernel) (by decide +kernel)
theorem mC_X6_width : Cond.code yX6_width cX6_width 1 (some .int) ∈ gw := gw_in 795 (by decide +kernel) (by decide +kernel)
theorem mL_X8_306 : Cond.methodLink RX8 306 yX6_spans ∈ gw := gw_in 796 (by decide +kernel) (by decide +kernel)
theorem mI_X6_spans : Cond.instanceMethod yX6_spans ∈ gw := gw_in 797 (by decide +kernel) (by decide +kernel)
theorem mS_X6_spans : Cond.selects RX6 yX6_spans yX6_spans ∈ gw := gw_in 798 (by decide +kernel) (by decide +kernel)
theorem mC_X6_spans : Cond.code yX6_spans cX6_spans 3 (some .boolean) ∈ gw := gw_in 799 (by decide +kernel) (by decide +kernel)
theorem mL_X8_309 : Cond.methodLink RX8 309 yX6_take ∈ gw := gw_in 800 (by decide +kernel) (by decide +kernel)
theorem mI_X6_take : Cond.instanceMethod yX6_take ∈ gw := gw_in 801 (by decide +kernel) (by decide +kernel)
theorem mS_X6_take : Cond.selects RX6 yX6_take yX6_take ∈ gw := gw_in 802 (by decide +kernel) (by decide +kernel)
theorem mC_X6_take : Cond.code yX6_take cX6_take 6 none ∈ gw := gw_in 803 (by decide +kernel) (by decide +kernel)
theorem mL_X6_35 : Cond.methodLink RX6 35 yX6_numberAt ∈ gw := gw_in 804 (by decide +kernel) (by decide +kernel)
theorem mI_X6_numberAt : Cond.instanceMethod yX6_numberAt ∈ gw := gw_in 805 (by decide +kernel) (by decide +kernel)
theorem mS_X6_numberAt : Cond.selects RX6 yX6_numberAt yX6_numberAt ∈ gw := gw_in 806 (by decide +kernel) (by decide +kernel)
theorem mC_X6_numberAt : Cond.code yX6_numberAt cX6_numberAt 2 (some .int) ∈ gw := gw_in 807 (by decide +kernel) (by decide +kernel)
theorem mL_L_149 : Cond.methodLink RL 149 yX8_read ∈ gw := gw_in 809 (by decide +kernel) (by decide +kernel)
theorem mI_X8_read : Cond.instanceMethod yX8_read ∈ gw := gw_in 810 (by decide +kernel) (by decide +kernel)
theorem mS_X8_read : Cond.selects RX8 yX8_read yX8_read ∈ gw := gw_in 811 (by decide +kernel) (by decide +kernel)
theorem mC_X8_read : Cond.code yX8_read cX8_read 6 (some .int) ∈ gw := gw_in 812 (by decide +kernel) (by decide +kernel)
theorem mL_X8_312 : Cond.methodLink RX8 312 yX6_lengthToZero ∈ gw := gw_in 813 (by decide +kernel) (by decide +kernel)
theorem mI_X6_lengthToZero : Cond.instanceMethod yX6_lengthToZero ∈ gw := gw_in 814 (by decide +kernel) (by decide +kernel)
theorem mS_X6_lengthToZero : Cond.selects RX6 yX6_lengthToZero yX6_lengthToZero ∈ gw := gw_in 815 (by decide +kernel) (by decide +kernel)
theorem mC_X6_lengthToZero : Cond.code yX6_lengthToZero cX6_lengthToZero 2 (some .int) ∈ gw := gw_in 816 (by decide +kernel) (by decide +kernel)
theorem mL_X8_315 : Cond.methodLink RX8 315 yX8_faultOfKeys ∈ gw := gw_in 817 (by decide +kernel) (by decide +kernel)
theorem mT_X8_faultOfKeys : Cond.static yX8_faultOfKeys ∈ gw := gw_in 818 (by decide +kernel) (by decide +kernel)
theorem mC_X8_faultOfKeys : Cond.code yX8_faultOfKeys cX8_faultOfKeys 4 (some .int) ∈ gw := gw_in 819 (by decide +kernel) (by decide +kernel)
theorem mL_X8_319 : Cond.methodLink RX8 319 yX6_numberAt ∈ gw := gw_in 820 (by decide +kernel) (by decide +kernel)
theorem mL_L_153 : Cond.methodLink RL 153 yX8_told ∈ gw := gw_in 821 (by decide +kernel) (by decide +kernel)
theorem mI_X8_told : Cond.instanceMethod yX8_told ∈ gw := gw_in 822 (by decide +kernel) (by decide +kernel)
theorem mS_X8_told : Cond.selects RX8 yX8_told yX8_told ∈ gw := gw_in 823 (by decide +kernel) (by decide +kernel)
theorem mC_X8_told : Cond.code yX8_told cX8_told 2 (some .int) ∈ gw := gw_in 824 (by decide +kernel) (by decide +kernel)
theorem mL_X8_322 : Cond.methodLink RX8 322 yX3_size ∈ gw := gw_in 825 (by decide +kernel) (by decide +kernel)
theorem mA_L_10 : Cond.classLink RL 10 RX9 ∈ gw := gw_in 826 (by decide +kernel) (by decide +kernel)
theorem mB_X9 : Cond.instantiable RX9 39 ∈ gw := gw_in 827 (by decide +kernel) (by decide +kernel)
theorem mL_L_12 : Cond.methodLink RL 12 yX9_init ∈ gw := gw_in 828 (by decide +kernel) (by decide +kernel)
theorem mI_X9_init : Cond.instanceMethod yX9_init ∈ gw := gw_in 829 (by decide +kernel) (by decide +kernel)
theorem mC_X9_init : Cond.code yX9_init cX9_init 1 none ∈ gw := gw_in 830 (by decide +kernel) (by decide +kernel)
theorem mL_X9_1 : Cond.methodLink RX9 1 objectInit ∈ gw := gw_in 831 (by decide +kernel) (by decide +kernel)
theorem mF_X9_102 : Cond.fieldLink RX9 102 "SpeakHallModel" "members" "I" ∈ gw := gw_in 832 (by decide +kernel) (by decide +kernel)
theorem mF_X9_7 : Cond.fieldLink RX9 7 "SpeakHallModel" "kind" "[I" ∈ gw := gw_in 833 (by decide +kernel) (by decide +kernel)
theorem mF_X9_13 : Cond.fieldLink RX9 13 "SpeakHallModel" "delegation" "[I" ∈ gw := gw_in 834 (by decide +kernel) (by decide +kernel)
theorem mF_X9_16 : Cond.fieldLink RX9 16 "SpeakHallModel" "isPresent" "[Z" ∈ gw := gw_in 835 (by decide +kernel) (by decide +kernel)
theorem mF_X9_20 : Cond.fieldLink RX9 20 "SpeakHallModel" "time" "[I" ∈ gw := gw_in 836 (by decide +kernel) (by decide +kernel)
theorem mF_X9_23 : Cond.fieldLink RX9 23 "SpeakHallModel" "speeches" "[I" ∈ gw := gw_in 837 (by decide +kernel) (by decide +kernel)
theorem mF_X9_126 : Cond.fieldLink RX9 126 "SpeakHallModel" "askings" "I" ∈ gw := gw_in 838 (by decide +kernel) (by decide +kernel)
theorem mF_X9_26 : Cond.fieldLink RX9 26 "SpeakHallModel" "asker" "[I" ∈ gw := gw_in 839 (by decide +kernel) (by decide +kernel)
theorem mF_X9_29 : Cond.fieldLink RX9 29 "SpeakHallModel" "sort" "[I" ∈ gw := gw_in 840 (by decide +kernel) (by decide +kernel)
theorem mF_X9_146 : Cond.fieldLink RX9 146 "SpeakHallModel" "keys" "I" ∈ gw := gw_in 841 (by decide +kernel) (by decide +kernel)
theorem mF_X9_32 : Cond.fieldLink RX9 32 "SpeakHallModel" "key" "[I" ∈ gw := gw_in 842 (by decide +kernel) (by decide +kernel)
theorem mF_X9_35 : Cond.fieldLink RX9 35 "SpeakHallModel" "latest" "I" ∈ gw := gw_in 843 (by decide +kernel) (by decide +kernel)
theorem mF_X9_172 : Cond.fieldLink RX9 172 "SpeakHallModel" "floors" "I" ∈ gw := gw_in 844 (by decide +kernel) (by decide +kernel)
theorem mF_X9_39 : Cond.fieldLink RX9 39 "SpeakHallModel" "speaker" "[I" ∈ gw := gw_in 845 (by decide +kernel) (by decide +kernel)
theorem mF_X9_42 : Cond.fieldLink RX9 42 "SpeakHallModel" "floorSort" "[I" ∈ gw := gw_in 846 (by decide +kernel) (by decide +kernel)
theorem mF_X9_45 : Cond.fieldLink RX9 45 "SpeakHallModel" "left" "[I" ∈ gw := gw_in 847 (by decide +kernel) (by decide +kernel)
theorem mF_X9_48 : Cond.fieldLink RX9 48 "SpeakHallModel" "had" "[I" ∈ gw := gw_in 848 (by decide +kernel) (by decide +kernel)
theorem mF_X9_51 : Cond.fieldLink RX9 51 "SpeakHallModel" "limit" "[I" ∈ gw := gw_in 849 (by decide +kernel) (by decide +kernel)
theorem mF_X9_188 : Cond.fieldLink RX9 188 "SpeakHallModel" "isOpen" "Z" ∈ gw := gw_in 850 (by decide +kernel) (by decide +kernel)
theorem mF_X9_54 : Cond.fieldLink RX9 54 "SpeakHallModel" "said" "[I" ∈ gw := gw_in 851 (by decide +kernel) (by decide +kernel)
theorem mF_X9_175 : Cond.fieldLink RX9 175 "SpeakHallModel" "rows" "I" ∈ gw := gw_in 852 (by decide +kernel) (by decide +kernel)
theorem mF_X9_178 : Cond.fieldLink RX9 178 "SpeakHallModel" "rowsGone" "I" ∈ gw := gw_in 853 (by decide +kernel) (by decide +kernel)
theorem mF_X9_57 : Cond.fieldLink RX9 57 "SpeakHallModel" "rowMember" "[I" ∈ gw := gw_in 854 (by decide +kernel) (by decide +kernel)
theorem mF_X9_60 : Cond.fieldLink RX9 60 "SpeakHallModel" "rowSort" "[I" ∈ gw := gw_in 855 (by decide +kernel) (by decide +kernel)
theorem mF_X9_63 : Cond.fieldLink RX9 63 "SpeakHallModel" "rowTicks" "[I" ∈ gw := gw_in 856 (by decide +kernel) (by decide +kernel)
theorem mF_X9_207 : Cond.fieldLink RX9 207 "SpeakHallModel" "rights" "I" ∈ gw := gw_in 857 (by decide +kernel) (by decide +kernel)
theorem mF_X9_66 : Cond.fieldLink RX9 66 "SpeakHallModel" "rightRow" "[I" ∈ gw := gw_in 858 (by decide +kernel) (by decide +kernel)
theorem mF_X9_69 : Cond.fieldLink RX9 69 "SpeakHallModel" "rightTicks" "[I" ∈ gw := gw_in 859 (by decide +kernel) (by decide +kernel)
theorem mF_X9_72 : Cond.fieldLink RX9 72 "SpeakHallModel" "sheetBits" "[I" ∈ gw := gw_in 860 (by decide +kernel) (by decide +kernel)
theorem mF_X9_75 : Cond.fieldLink RX9 75 "SpeakHallModel" "sheetSize" "[I" ∈ gw := gw_in 861 (by decide +kernel) (by decide +kernel)
theorem mF_X9_78 : Cond.fieldLink RX9 78 "SpeakHallModel" "sheet" "[I" ∈ gw := gw_in 862 (by decide +kernel) (by decide +kernel)
theorem mF_X9_99 : Cond.fieldLink RX9 99 "SpeakHallModel" "found" "I" ∈ gw := gw_in 863 (by decide +kernel) (by decide +kernel)
theorem mF_X9_81 : Cond.fieldLink RX9 81 "SpeakHallModel" "list" "[I" ∈ gw := gw_in 864 (by decide +kernel) (by decide +kernel)
theorem mF_X9_155 : Cond.fieldLink RX9 155 "SpeakHallModel" "listMany" "I" ∈ gw := gw_in 865 (by decide +kernel) (by decide +kernel)
theorem mF_X9_84 : Cond.fieldLink RX9 84 "SpeakHallModel" "keptAsker" "[I" ∈ gw := gw_in 866 (by decide +kernel) (by decide +kernel)
theorem mF_X9_87 : Cond.fieldLink RX9 87 "SpeakHallModel" "keptSort" "[I" ∈ gw := gw_in 867 (by decide +kernel) (by decide +kernel)
theorem mF_X9_90 : Cond.fieldLink RX9 90 "SpeakHallModel" "keptTime" "[I" ∈ gw := gw_in 868 (by decide +kernel) (by decide +kernel)
theorem mF_X9_93 : Cond.fieldLink RX9 93 "SpeakHallModel" "keptSpeeches" "[I" ∈ gw := gw_in 869 (by decide +kernel) (by decide +kernel)
theorem mF_X9_96 : Cond.fieldLink RX9 96 "SpeakHallModel" "carried" "[I" ∈ gw := gw_in 870 (by decide +kernel) (by decide +kernel)
theorem mL_L_17 : Cond.methodLink RL 17 yX9_member ∈ gw := gw_in 950 (by decide +kernel) (by decide +kernel)
theorem mI_X9_member : Cond.instanceMethod yX9_member ∈ gw := gw_in 951 (by decide +kernel) (by decide +kernel)
theorem mS_X9_member : Cond.selects RX9 yX9_member yX9_member ∈ gw := gw_in 952 (by decide +kernel) (by decide +kernel)
theorem mC_X9_member : Cond.code yX9_member cX9_member 3 (some .int) ∈ gw := gw_in 953 (by decide +kernel) (by decide +kernel)
theorem mL_X9_105 : Cond.methodLink RX9 105 yX9_isIn ∈ gw := gw_in 954 (by decide +kernel) (by decide +kernel)
theorem mT_X9_isIn : Cond.static yX9_isIn ∈ gw := gw_in 955 (by decide +kernel) (by decide +kernel)
theorem mC_X9_isIn : Cond.code yX9_isIn cX9_isIn 3 (some .boolean) ∈ gw := gw_in 956 (by decide +kernel) (by decide +kernel)
theorem mK_X9_109 : Cond.constant RX9 109 (-100001) ∈ gw := gw_in 957 (by decide +kernel) (by decide +kernel)
theorem mL_X9_110 : Cond.methodLink RX9 110 yX9_finding ∈ gw := gw_in 958 (by decide +kernel) (by decide +kernel)
theorem mI_X9_finding : Cond.instanceMethod yX9_finding ∈ gw := gw_in 960 (by decide +kernel) (by decide +kernel)
theorem mC_X9_finding : Cond.code yX9_finding cX9_finding 2 (some .int) ∈ gw := gw_in 961 (by decide +kernel) (by decide +kernel)
theorem mK_X9_114 : Cond.constant RX9 114 (-100005) ∈ gw := gw_in 962 (by decide +kernel) (by decide +kernel)
theorem mL_L_21 : Cond.methodLink RL 21 yX9_as ∈ gw := gw_in 963 (by decide +kernel) (by decide +kernel)
theorem mI_X9_as : Cond.instanceMethod yX9_as ∈ gw := gw_in 964 (by decide +kernel) (by decide +kernel)
theorem mS_X9_as : Cond.selects RX9 yX9_as yX9_as ∈ gw := gw_in 965 (by decide +kernel) (by decide +kernel)
theorem mC_X9_as : Cond.code yX9_as cX9_as 3 (some .int) ∈ gw := gw_in 966 (by decide +kernel) (by decide +kernel)
theorem mL_X9_115 : Cond.methodLink RX9 115 yX9_isMember ∈ gw := gw_in 967 (by decide +kernel) (by decide +kernel)
theorem mI_X9_isMember : Cond.instanceMethod yX9_isMember ∈ gw := gw_in 969 (by decide +kernel) (by decide +kernel)
theorem mC_X9_isMember : Cond.code yX9_isMember cX9_isMember 2 (some .boolean) ∈ gw := gw_in 970 (by decide +kernel) (by decide +kernel)
theorem mL_X9_119 : Cond.methodLink RX9 119 yX9_isGuest ∈ gw := gw_in 971 (by decide +kernel) (by decide +kernel)
theorem mI_X9_isGuest : Cond.instanceMethod yX9_isGuest ∈ gw := gw_in 973 (by decide +kernel) (by decide +kernel)
theorem mC_X9_isGuest : Cond.code yX9_isGuest cX9_isGuest 2 (some .boolean) ∈ gw := gw_in 974 (by decide +kernel) (by decide +kernel)
theorem mK_X9_122 : Cond.constant RX9 122 (-100004) ∈ gw := gw_in 975 (by decide +kernel) (by decide +kernel)
theorem mL_L_26 : Cond.methodLink RL 26 yX9_present ∈ gw := gw_in 976 (by decide +kernel) (by decide +kernel)
theorem mI_X9_present : Cond.instanceMethod yX9_present ∈ gw := gw_in 977 (by decide +kernel) (by decide +kernel)
theorem mS_X9_present : Cond.selects RX9 yX9_present yX9_present ∈ gw := gw_in 978 (by decide +kernel) (by decide +kernel)
theorem mC_X9_present : Cond.code yX9_present cX9_present 4 (some .int) ∈ gw := gw_in 979 (by decide +kernel) (by decide +kernel)
theorem mL_L_30 : Cond.methodLink RL 30 yX9_of ∈ gw := gw_in 980 (by decide +kernel) (by decide +kernel)
theorem mI_X9_of : Cond.instanceMethod yX9_of ∈ gw := gw_in 981 (by decide +kernel) (by decide +kernel)
theorem mS_X9_of : Cond.selects RX9 yX9_of yX9_of ∈ gw := gw_in 982 (by decide +kernel) (by decide +kernel)
theorem mC_X9_of : Cond.code yX9_of cX9_of 3 (some .int) ∈ gw := gw_in 983 (by decide +kernel) (by decide +kernel)
theorem mL_L_35 : Cond.methodLink RL 35 yX9_time ∈ gw := gw_in 984 (by decide +kernel) (by decide +kernel)
theorem mI_X9_time : Cond.instanceMethod yX9_time ∈ gw := gw_in 985 (by decide +kernel) (by decide +kernel)
theorem mS_X9_time : Cond.selects RX9 yX9_time yX9_time ∈ gw := gw_in 986 (by decide +kernel) (by decide +kernel)
theorem mC_X9_time : Cond.code yX9_time cX9_time 2 (some .int) ∈ gw := gw_in 987 (by decide +kernel) (by decide +kernel)
theorem mL_X9_123 : Cond.methodLink RX9 123 yX9_timeOf ∈ gw := gw_in 988 (by decide +kernel) (by decide +kernel)
theorem mI_X9_timeOf : Cond.instanceMethod yX9_timeOf ∈ gw := gw_in 990 (by decide +kernel) (by decide +kernel)
theorem mC_X9_timeOf : Cond.code yX9_timeOf cX9_timeOf 4 (some .int) ∈ gw := gw_in 991 (by decide +kernel) (by decide +kernel)
theorem mL_L_39 : Cond.methodLink RL 39 yX9_ask ∈ gw := gw_in 992 (by decide +kernel) (by decide +kernel)
theorem mI_X9_ask : Cond.instanceMethod yX9_ask ∈ gw := gw_in 993 (by decide +kernel) (by decide +kernel)
theorem mS_X9_ask : Cond.selects RX9 yX9_ask yX9_ask ∈ gw := gw_in 994 (by decide +kernel) (by decide +kernel)
theorem mC_X9_ask : Cond.code yX9_ask cX9_ask 3 (some .int) ∈ gw := gw_in 995 (by decide +kernel) (by decide +kernel)
theorem mL_X9_129 : Cond.methodLink RX9 129 yX9_isSort ∈ gw := gw_in 996 (by decide +kernel) (by decide +kernel)
theorem mT_X9_isSort : Cond.static yX9_isSort ∈ gw := gw_in 997 (by decide +kernel) (by decide +kernel)
theorem mC_X9_isSort : Cond.code yX9_isSort cX9_isSort 1 (some .boolean) ∈ gw := gw_in 998 (by decide +kernel) (by decide +kernel)
theorem mL_X9_132 : Cond.methodLink RX9 132 yX9_askingOf ∈ gw := gw_in 999 (by decide +kernel) (by decide +kernel)
theorem mI_X9_askingOf : Cond.instanceMethod yX9_askingOf ∈ gw := gw_in 1001 (by decide +kernel) (by decide +kernel)
theorem mC_X9_askingOf : Cond.code yX9_askingOf cX9_askingOf 5 (some .int) ∈ gw := gw_in 1002 (by decide +kernel) (by decide +kernel)
theorem mK_X9_136 : Cond.constant RX9 136 (-100003) ∈ gw := gw_in 1003 (by decide +kernel) (by decide +kernel)
theorem mL_X9_137 : Cond.methodLink RX9 137 yX9_comes ∈ gw := gw_in 1004 (by decide +kernel) (by decide +kernel)
theorem mI_X9_comes : Cond.instanceMethod yX9_comes ∈ gw := gw_in 1006 (by decide +kernel) (by decide +kernel)
theorem mC_X9_comes : Cond.code yX9_comes cX9_comes 3 none ∈ gw := gw_in 1007 (by decide +kernel) (by decide +kernel)
theorem mL_L_43 : Cond.methodLink RL 43 yX9_withdraw ∈ gw := gw_in 1008 (by decide +kernel) (by decide +kernel)
theorem mI_X9_withdraw : Cond.instanceMethod yX9_withdraw ∈ gw := gw_in 1009 (by decide +kernel) (by decide +kernel)
theorem mS_X9_withdraw : Cond.selects RX9 yX9_withdraw yX9_withdraw ∈ gw := gw_in 1010 (by decide +kernel) (by decide +kernel)
theorem mC_X9_withdraw : Cond.code yX9_withdraw cX9_withdraw 4 (some .int) ∈ gw := gw_in 1011 (by decide +kernel) (by decide +kernel)
theorem mK_X9_141 : Cond.constant RX9 141 (-100006) ∈ gw := gw_in 1012 (by decide +kernel) (by decide +kernel)
theorem mL_X9_142 : Cond.methodLink RX9 142 yX9_goes ∈ gw := gw_in 1013 (by decide +kernel) (by decide +kernel)
theorem mI_X9_goes : Cond.instanceMethod yX9_goes ∈ gw := gw_in 1015 (by decide +kernel) (by decide +kernel)
theorem mC_X9_goes : Cond.code yX9_goes cX9_goes 3 none ∈ gw := gw_in 1016 (by decide +kernel) (by decide +kernel)
theorem mL_L_47 : Cond.methodLink RL 47 yX9_key ∈ gw := gw_in 1017 (by decide +kernel) (by decide +kernel)
theorem mI_X9_key : Cond.instanceMethod yX9_key ∈ gw := gw_in 1018 (by decide +kernel) (by decide +kernel)
theorem mS_X9_key : Cond.selects RX9 yX9_key yX9_key ∈ gw := gw_in 1019 (by decide +kernel) (by decide +kernel)
theorem mC_X9_key : Cond.code yX9_key cX9_key 2 (some .int) ∈ gw := gw_in 1020 (by decide +kernel) (by decide +kernel)
theorem mL_X9_149 : Cond.methodLink RX9 149 yX9_hasKey ∈ gw := gw_in 1021 (by decide +kernel) (by decide +kernel)
theorem mI_X9_hasKey : Cond.instanceMethod yX9_hasKey ∈ gw := gw_in 1023 (by decide +kernel) (by decide +kernel)
theorem mC_X9_hasKey : Cond.code yX9_hasKey cX9_hasKey 4 (some .boolean) ∈ gw := gw_in 1024 (by decide +kernel) (by decide +kernel)
theorem mL_L_52 : Cond.methodLink RL 52 yX9_noKeys ∈ gw := gw_in 1025 (by decide +kernel) (by decide +kernel)
theorem mI_X9_noKeys : Cond.instanceMethod yX9_noKeys ∈ gw := gw_in 1026 (by decide +kernel) (by decide +kernel)
theorem mS_X9_noKeys : Cond.selects RX9 yX9_noKeys yX9_noKeys ∈ gw := gw_in 1027 (by decide +kernel) (by decide +kernel)
theorem mC_X9_noKeys : Cond.code yX9_noKeys cX9_noKeys 2 (some .int) ∈ gw := gw_in 1028 (by decide +kernel) (by decide +kernel)
theorem mL_L_56 : Cond.methodLink RL 56 yX9_listed ∈ gw := gw_in 1029 (by decide +kernel) (by decide +kernel)
theorem mI_X9_listed : Cond.instanceMethod yX9_listed ∈ gw := gw_in 1030 (by decide +kernel) (by decide +kernel)
theorem mS_X9_listed : Cond.selects RX9 yX9_listed yX9_listed ∈ gw := gw_in 1031 (by decide +kernel) (by decide +kernel)
theorem mC_X9_listed : Cond.code yX9_listed cX9_listed 3 (some .int) ∈ gw := gw_in 1032 (by decide +kernel) (by decide +kernel)
theorem mL_X9_162 : Cond.methodLink RX9 162 yX9_tellList ∈ gw := gw_in 1033 (by decide +kernel) (by decide +kernel)
theorem mI_X9_tellList : Cond.instanceMethod yX9_tellList ∈ gw := gw_in 1035 (by decide +kernel) (by decide +kernel)
theorem mC_X9_tellList : Cond.code yX9_tellList cX9_tellList 3 none ∈ gw := gw_in 1036 (by decide +kernel) (by decide +kernel)
theorem mL_X9_158 : Cond.methodLink RX9 158 yX9_isAhead ∈ gw := gw_in 1037 (by decide +kernel) (by decide +kernel)
theorem mI_X9_isAhead : Cond.instanceMethod yX9_isAhead ∈ gw := gw_in 1039 (by decide +kernel) (by decide +kernel)
theorem mC_X9_isAhead : Cond.code yX9_isAhead cX9_isAhead 6 (some .boolean) ∈ gw := gw_in 1040 (by decide +kernel) (by decide +kernel)
theorem mL_X9_152 : Cond.methodLink RX9 152 yX9_rank ∈ gw := gw_in 1041 (by decide +kernel) (by decide +kernel)
theorem mI_X9_rank : Cond.instanceMethod yX9_rank ∈ gw := gw_in 1043 (by decide +kernel) (by decide +kernel)
theorem mC_X9_rank : Cond.code yX9_rank cX9_rank 4 (some .int) ∈ gw := gw_in 1044 (by decide +kernel) (by decide +kernel)
theorem mL_L_60 : Cond.methodLink RL 60 yX9_place ∈ gw := gw_in 1045 (by decide +kernel) (by decide +kernel)
theorem mI_X9_place : Cond.instanceMethod yX9_place ∈ gw := gw_in 1046 (by decide +kernel) (by decide +kernel)
theorem mS_X9_place : Cond.selects RX9 yX9_place yX9_place ∈ gw := gw_in 1047 (by decide +kernel) (by decide +kernel)
theorem mC_X9_place : Cond.code yX9_place cX9_place 4 (some .int) ∈ gw := gw_in 1048 (by decide +kernel) (by decide +kernel)
theorem mL_L_64 : Cond.methodLink RL 64 yX9_wait ∈ gw := gw_in 1049 (by decide +kernel) (by decide +kernel)
theorem mI_X9_wait : Cond.instanceMethod yX9_wait ∈ gw := gw_in 1050 (by decide +kernel) (by decide +kernel)
theorem mS_X9_wait : Cond.selects RX9 yX9_wait yX9_wait ∈ gw := gw_in 1051 (by decide +kernel) (by decide +kernel)
theorem mC_X9_wait : Cond.code yX9_wait cX9_wait 7 (some .int) ∈ gw := gw_in 1052 (by decide +kernel) (by decide +kernel)
theorem mL_X9_165 : Cond.methodLink RX9 165 yX9_firstOf ∈ gw := gw_in 1053 (by decide +kernel) (by decide +kernel)
theorem mI_X9_firstOf : Cond.instanceMethod yX9_firstOf ∈ gw := gw_in 1055 (by decide +kernel) (by decide +kernel)
theorem mC_X9_firstOf : Cond.code yX9_firstOf cX9_firstOf 3 (some .int) ∈ gw := gw_in 1056 (by decide +kernel) (by decide +kernel)
theorem mL_X9_168 : Cond.methodLink RX9 168 yX9_limitOf ∈ gw := gw_in 1057 (by decide +kernel) (by decide +kernel)
theorem mI_X9_limitOf : Cond.instanceMethod yX9_limitOf ∈ gw := gw_in 1059 (by decide +kernel) (by decide +kernel)
theorem mC_X9_limitOf : Cond.code yX9_limitOf cX9_limitOf 3 (some .int) ∈ gw := gw_in 1060 (by decide +kernel) (by decide +kernel)
theorem mK_X9_171 : Cond.constant RX9 171 (-100008) ∈ gw := gw_in 1061 (by decide +kernel) (by decide +kernel)
theorem mL_L_68 : Cond.methodLink RL 68 yX9_fits ∈ gw := gw_in 1062 (by decide +kernel) (by decide +kernel)
theorem mI_X9_fits : Cond.instanceMethod yX9_fits ∈ gw := gw_in 1063 (by decide +kernel) (by decide +kernel)
theorem mS_X9_fits : Cond.selects RX9 yX9_fits yX9_fits ∈ gw := gw_in 1064 (by decide +kernel) (by decide +kernel)
theorem mC_X9_fits : Cond.code yX9_fits cX9_fits 7 (some .int) ∈ gw := gw_in 1065 (by decide +kernel) (by decide +kernel)
theorem mL_L_72 : Cond.methodLink RL 72 yX9_begin ∈ gw := gw_in 1066 (by decide +kernel) (by decide +kernel)
theorem mI_X9_begin : Cond.instanceMethod yX9_begin ∈ gw := gw_in 1067 (by decide +kernel) (by decide +kernel)
theorem mS_X9_begin : Cond.selects RX9 yX9_begin yX9_begin ∈ gw := gw_in 1068 (by decide +kernel) (by decide +kernel)
theorem mC_X9_begin : Cond.code yX9_begin cX9_begin 1 (some .int) ∈ gw := gw_in 1069 (by decide +kernel) (by decide +kernel)
theorem mK_X9_181 : Cond.constant RX9 181 (-100007) ∈ gw := gw_in 1070 (by decide +kernel) (by decide +kernel)
theorem mL_X9_182 : Cond.methodLink RX9 182 yX9_take ∈ gw := gw_in 1071 (by decide +kernel) (by decide +kernel)
theorem mI_X9_take : Cond.instanceMethod yX9_take ∈ gw := gw_in 1073 (by decide +kernel) (by decide +kernel)
theorem mC_X9_take : Cond.code yX9_take cX9_take 4 (some .int) ∈ gw := gw_in 1074 (by decide +kernel) (by decide +kernel)
theorem mL_L_76 : Cond.methodLink RL 76 yX9_cut ∈ gw := gw_in 1075 (by decide +kernel) (by decide +kernel)
theorem mI_X9_cut : Cond.instanceMethod yX9_cut ∈ gw := gw_in 1076 (by decide +kernel) (by decide +kernel)
theorem mS_X9_cut : Cond.selects RX9 yX9_cut yX9_cut ∈ gw := gw_in 1077 (by decide +kernel) (by decide +kernel)
theorem mC_X9_cut : Cond.code yX9_cut cX9_cut 2 (some .int) ∈ gw := gw_in 1078 (by decide +kernel) (by decide +kernel)
theorem mL_L_80 : Cond.methodLink RL 80 yX9_tick ∈ gw := gw_in 1079 (by decide +kernel) (by decide +kernel)
theorem mI_X9_tick : Cond.instanceMethod yX9_tick ∈ gw := gw_in 1080 (by decide +kernel) (by decide +kernel)
theorem mS_X9_tick : Cond.selects RX9 yX9_tick yX9_tick ∈ gw := gw_in 1081 (by decide +kernel) (by decide +kernel)
theorem mC_X9_tick : Cond.code yX9_tick cX9_tick 5 (some .int) ∈ gw := gw_in 1082 (by decide +kernel) (by decide +kernel)
theorem mL_X9_185 : Cond.methodLink RX9 185 yX9_end ∈ gw := gw_in 1083 (by decide +kernel) (by decide +kernel)
theorem mI_X9_end : Cond.instanceMethod yX9_end ∈ gw := gw_in 1085 (by decide +kernel) (by decide +kernel)
theorem mC_X9_end : Cond.code yX9_end cX9_end 2 none ∈ gw := gw_in 1086 (by decide +kernel) (by decide +kernel)
theorem mL_L_84 : Cond.methodLink RL 84 yX9_yield ∈ gw := gw_in 1087 (by decide +kernel) (by decide +kernel)
theorem mI_X9_yield : Cond.instanceMethod yX9_yield ∈ gw := gw_in 1088 (by decide +kernel) (by decide +kernel)
theorem mS_X9_yield : Cond.selects RX9 yX9_yield yX9_yield ∈ gw := gw_in 1089 (by decide +kernel) (by decide +kernel)
theorem mC_X9_yield : Cond.code yX9_yield cX9_yield 1 (some .int) ∈ gw := gw_in 1090 (by decide +kernel) (by decide +kernel)
theorem mL_L_88 : Cond.methodLink RL 88 yX9_floor ∈ gw := gw_in 1091 (by decide +kernel) (by decide +kernel)
theorem mI_X9_floor : Cond.instanceMethod yX9_floor ∈ gw := gw_in 1092 (by decide +kernel) (by decide +kernel)
theorem mS_X9_floor : Cond.selects RX9 yX9_floor yX9_floor ∈ gw := gw_in 1093 (by decide +kernel) (by decide +kernel)
theorem mC_X9_floor : Cond.code yX9_floor cX9_floor 2 (some .int) ∈ gw := gw_in 1094 (by decide +kernel) (by decide +kernel)
theorem mL_L_92 : Cond.methodLink RL 92 yX9_limit ∈ gw := gw_in 1095 (by decide +kernel) (by decide +kernel)
theorem mI_X9_limit : Cond.instanceMethod yX9_limit ∈ gw := gw_in 1096 (by decide +kernel) (by decide +kernel)
theorem mS_X9_limit : Cond.selects RX9 yX9_limit yX9_limit ∈ gw := gw_in 1097 (by decide +kernel) (by decide +kernel)
theorem mC_X9_limit : Cond.code yX9_limit cX9_limit 4 (some .int) ∈ gw := gw_in 1098 (by decide +kernel) (by decide +kernel)
theorem mL_L_96 : Cond.methodLink RL 96 yX9_vote ∈ gw := gw_in 1099 (by decide +kernel) (by decide +kernel)
theorem mI_X9_vote : Cond.instanceMethod yX9_vote ∈ gw := gw_in 1100 (by decide +kernel) (by decide +kernel)
theorem mS_X9_vote : Cond.selects RX9 yX9_vote yX9_vote ∈ gw := gw_in 1101 (by decide +kernel) (by decide +kernel)
theorem mC_X9_vote : Cond.code yX9_vote cX9_vote 2 (some .int) ∈ gw := gw_in 1102 (by decide +kernel) (by decide +kernel)
theorem mL_L_100 : Cond.methodLink RL 100 yX9_say ∈ gw := gw_in 1103 (by decide +kernel) (by decide +kernel)
theorem mI_X9_say : Cond.instanceMethod yX9_say ∈ gw := gw_in 1104 (by decide +kernel) (by decide +kernel)
theorem mS_X9_say : Cond.selects RX9 yX9_say yX9_say ∈ gw := gw_in 1105 (by decide +kernel) (by decide +kernel)
theorem mC_X9_say : Cond.code yX9_say cX9_say 4 (some .int) ∈ gw := gw_in 1106 (by decide +kernel) (by decide +kernel)
theorem mL_X9_192 : Cond.methodLink RX9 192 yX9_mayVote ∈ gw := gw_in 1107 (by decide +kernel) (by decide +kernel)
theorem mI_X9_mayVote : Cond.instanceMethod yX9_mayVote ∈ gw := gw_in 1109 (by decide +kernel) (by decide +kernel)
theorem mC_X9_mayVote : Cond.code yX9_mayVote cX9_mayVote 2 (some .boolean) ∈ gw := gw_in 1110 (by decide +kernel) (by decide +kernel)
theorem mL_L_104 : Cond.methodLink RL 104 yX9_votes ∈ gw := gw_in 1111 (by decide +kernel) (by decide +kernel)
theorem mI_X9_votes : Cond.instanceMethod yX9_votes ∈ gw := gw_in 1112 (by decide +kernel) (by decide +kernel)
theorem mS_X9_votes : Cond.selects RX9 yX9_votes yX9_votes ∈ gw := gw_in 1113 (by decide +kernel) (by decide +kernel)
theorem mC_X9_votes : Cond.code yX9_votes cX9_votes 2 (some .int) ∈ gw := gw_in 1114 (by decide +kernel) (by decide +kernel)
theorem mL_X9_195 : Cond.methodLink RX9 195 yX9_votesOf ∈ gw := gw_in 1115 (by decide +kernel) (by decide +kernel)
theorem mI_X9_votesOf : Cond.instanceMethod yX9_votesOf ∈ gw := gw_in 1117 (by decide +kernel) (by decide +kernel)
theorem mC_X9_votesOf : Cond.code yX9_votesOf cX9_votesOf 4 (some .int) ∈ gw := gw_in 1118 (by decide +kernel) (by decide +kernel)
theorem mL_L_108 : Cond.methodLink RL 108 yX9_close ∈ gw := gw_in 1119 (by decide +kernel) (by decide +kernel)
theorem mI_X9_close : Cond.instanceMethod yX9_close ∈ gw := gw_in 1120 (by decide +kernel) (by decide +kernel)
theorem mS_X9_close : Cond.selects RX9 yX9_close yX9_close ∈ gw := gw_in 1121 (by decide +kernel) (by decide +kernel)
theorem mC_X9_close : Cond.code yX9_close cX9_close 2 (some .int) ∈ gw := gw_in 1122 (by decide +kernel) (by decide +kernel)
theorem mL_X9_198 : Cond.methodLink RX9 198 yX9_passes ∈ gw := gw_in 1123 (by decide +kernel) (by decide +kernel)
theorem mT_X9_passes : Cond.static yX9_passes ∈ gw := gw_in 1124 (by decide +kernel) (by decide +kernel)
theorem mC_X9_passes : Cond.code yX9_passes cX9_passes 3 (some .boolean) ∈ gw := gw_in 1125 (by decide +kernel) (by decide +kernel)
theorem mL_L_113 : Cond.methodLink RL 113 yX9_hands ∈ gw := gw_in 1126 (by decide +kernel) (by decide +kernel)
theorem mI_X9_hands : Cond.instanceMethod yX9_hands ∈ gw := gw_in 1127 (by decide +kernel) (by decide +kernel)
theorem mS_X9_hands : Cond.selects RX9 yX9_hands yX9_hands ∈ gw := gw_in 1128 (by decide +kernel) (by decide +kernel)
theorem mC_X9_hands : Cond.code yX9_hands cX9_hands 10 (some .int) ∈ gw := gw_in 1129 (by decide +kernel) (by decide +kernel)
theorem mL_L_117 : Cond.methodLink RL 117 yX9_apart ∈ gw := gw_in 1130 (by decide +kernel) (by decide +kernel)
theorem mI_X9_apart : Cond.instanceMethod yX9_apart ∈ gw := gw_in 1131 (by decide +kernel) (by decide +kernel)
theorem mS_X9_apart : Cond.selects RX9 yX9_apart yX9_apart ∈ gw := gw_in 1132 (by decide +kernel) (by decide +kernel)
theorem mC_X9_apart : Cond.code yX9_apart cX9_apart 5 (some .int) ∈ gw := gw_in 1133 (by decide +kernel) (by decide +kernel)
theorem mL_X9_201 : Cond.methodLink RX9 201 yX9_hasMember ∈ gw := gw_in 1134 (by decide +kernel) (by decide +kernel)
theorem mI_X9_hasMember : Cond.instanceMethod yX9_hasMember ∈ gw := gw_in 1136 (by decide +kernel) (by decide +kernel)
theorem mC_X9_hasMember : Cond.code yX9_hasMember cX9_hasMember 4 (some .boolean) ∈ gw := gw_in 1137 (by decide +kernel) (by decide +kernel)
theorem mL_L_122 : Cond.methodLink RL 122 yX9_uneven ∈ gw := gw_in 1138 (by decide +kernel) (by decide +kernel)
theorem mI_X9_uneven : Cond.instanceMethod yX9_uneven ∈ gw := gw_in 1139 (by decide +kernel) (by decide +kernel)
theorem mS_X9_uneven : Cond.selects RX9 yX9_uneven yX9_uneven ∈ gw := gw_in 1140 (by decide +kernel) (by decide +kernel)
theorem mC_X9_uneven : Cond.code yX9_uneven cX9_uneven 8 (some .int) ∈ gw := gw_in 1141 (by decide +kernel) (by decide +kernel)
theorem mL_X9_204 : Cond.methodLink RX9 204 yX9_common ∈ gw := gw_in 1142 (by decide +kernel) (by decide +kernel)
theorem mT_X9_common : Cond.static yX9_common ∈ gw := gw_in 1143 (by decide +kernel) (by decide +kernel)
theorem mC_X9_common : Cond.code yX9_common cX9_common 5 (some .int) ∈ gw := gw_in 1144 (by decide +kernel) (by decide +kernel)
theorem mL_L_126 : Cond.methodLink RL 126 yX9_minutes ∈ gw := gw_in 1145 (by decide +kernel) (by decide +kernel)
theorem mI_X9_minutes : Cond.instanceMethod yX9_minutes ∈ gw := gw_in 1146 (by decide +kernel) (by decide +kernel)
theorem mS_X9_minutes : Cond.selects RX9 yX9_minutes yX9_minutes ∈ gw := gw_in 1147 (by decide +kernel) (by decide +kernel)
theorem mC_X9_minutes : Cond.code yX9_minutes cX9_minutes 3 (some .int) ∈ gw := gw_in 1148 (by decide +kernel) (by decide +kernel)
theorem mL_X9_210 : Cond.methodLink RX9 210 yX9_ticksOf ∈ gw := gw_in 1149 (by decide +kernel) (by decide +kernel)
theorem mI_X9_ticksOf : Cond.instanceMethod yX9_ticksOf ∈ gw := gw_in 1151 (by decide +kernel) (by decide +kernel)
theorem mC_X9_ticksOf : Cond.code yX9_ticksOf cX9_ticksOf 5 (some .int) ∈ gw := gw_in 1152 (by decide +kernel) (by decide +kernel)
theorem mL_L_130 : Cond.methodLink RL 130 yX9_right ∈ gw := gw_in 1153 (by decide +kernel) (by decide +kernel)
theorem mI_X9_right : Cond.instanceMethod yX9_right ∈ gw := gw_in 1154 (by decide +kernel) (by decide +kernel)
theorem mS_X9_right : Cond.selects RX9 yX9_right yX9_right ∈ gw := gw_in 1155 (by decide +kernel) (by decide +kernel)
theorem mC_X9_right : Cond.code yX9_right cX9_right 3 (some .int) ∈ gw := gw_in 1156 (by decide +kernel) (by decide +kernel)
theorem mL_L_134 : Cond.methodLink RL 134 yX9_sum ∈ gw := gw_in 1157 (by decide +kernel) (by decide +kernel)
theorem mI_X9_sum : Cond.instanceMethod yX9_sum ∈ gw := gw_in 1158 (by decide +kernel) (by decide +kernel)
theorem mS_X9_sum : Cond.selects RX9 yX9_sum yX9_sum ∈ gw := gw_in 1159 (by decide +kernel) (by decide +kernel)
theorem mC_X9_sum : Cond.code yX9_sum cX9_sum 5 (some .int) ∈ gw := gw_in 1160 (by decide +kernel) (by decide +kernel)
theorem mL_L_139 : Cond.methodLink RL 139 yX9_sheet ∈ gw := gw_in 1161 (by decide +kernel) (by decide +kernel)
theorem mI_X9_sheet : Cond.instanceMethod yX9_sheet ∈ gw := gw_in 1162 (by decide +kernel) (by decide +kernel)
theorem mS_X9_sheet : Cond.selects RX9 yX9_sheet yX9_sheet ∈ gw := gw_in 1163 (by decide +kernel) (by decide +kernel)
theorem mC_X9_sheet : Cond.code yX9_sheet cX9_sheet 5 (some .int) ∈ gw := gw_in 1164 (by decide +kernel) (by decide +kernel)
theorem mL_X9_213 : Cond.methodLink RX9 213 yX9_isSheet ∈ gw := gw_in 1165 (by decide +kernel) (by decide +kernel)
theorem mT_X9_isSheet : Cond.static yX9_isSheet ∈ gw := gw_in 1166 (by decide +kernel) (by decide +kernel)
theorem mC_X9_isSheet : Cond.code yX9_isSheet cX9_isSheet 1 (some .boolean) ∈ gw := gw_in 1167 (by decide +kernel) (by decide +kernel)
theorem mL_L_143 : Cond.methodLink RL 143 yX9_put ∈ gw := gw_in 1168 (by decide +kernel) (by decide +kernel)
theorem mI_X9_put : Cond.instanceMethod yX9_put ∈ gw := gw_in 1169 (by decide +kernel) (by decide +kernel)
theorem mS_X9_put : Cond.selects RX9 yX9_put yX9_put ∈ gw := gw_in 1170 (by decide +kernel) (by decide +kernel)
theorem mC_X9_put : Cond.code yX9_put cX9_put 4 (some .int) ∈ gw := gw_in 1171 (by decide +kernel) (by decide +kernel)
theorem mK_X9_216 : Cond.constant RX9 216 (-100002) ∈ gw := gw_in 1172 (by decide +kernel) (by decide +kernel)
theorem mL_L_148 : Cond.methodLink RL 148 yX9_copy ∈ gw := gw_in 1173 (by decide +kernel) (by decide +kernel)
theorem mI_X9_copy : Cond.instanceMethod yX9_copy ∈ gw := gw_in 1174 (by decide +kernel) (by decide +kernel)
theorem mS_X9_copy : Cond.selects RX9 yX9_copy yX9_copy ∈ gw := gw_in 1175 (by decide +kernel) (by decide +kernel)
theorem mC_X9_copy : Cond.code yX9_copy cX9_copy 7 (some .int) ∈ gw := gw_in 1176 (by decide +kernel) (by decide +kernel)
theorem mL_X9_217 : Cond.methodLink RX9 217 yX9_hasPart ∈ gw := gw_in 1177 (by decide +kernel) (by decide +kernel)
theorem mI_X9_hasPart : Cond.instanceMethod yX9_hasPart ∈ gw := gw_in 1179 (by decide +kernel) (by decide +kernel)
theorem mC_X9_hasPart : Cond.code yX9_hasPart cX9_hasPart 4 (some .boolean) ∈ gw := gw_in 1180 (by decide +kernel) (by decide +kernel)
theorem mL_L_152 : Cond.methodLink RL 152 yX9_read ∈ gw := gw_in 1181 (by decide +kernel) (by decide +kernel)
theorem mI_X9_read : Cond.instanceMethod yX9_read ∈ gw := gw_in 1182 (by decide +kernel) (by decide +kernel)
theorem mS_X9_read : Cond.selects RX9 yX9_read yX9_read ∈ gw := gw_in 1183 (by decide +kernel) (by decide +kernel)
theorem mC_X9_read : Cond.code yX9_read cX9_read 7 (some .int) ∈ gw := gw_in 1184 (by decide +kernel) (by decide +kernel)
theorem mL_L_156 : Cond.methodLink RL 156 yX9_told ∈ gw := gw_in 1185 (by decide +kernel) (by decide +kernel)
theorem mI_X9_told : Cond.instanceMethod yX9_told ∈ gw := gw_in 1186 (by decide +kernel) (by decide +kernel)
theorem mS_X9_told : Cond.selects RX9 yX9_told yX9_told ∈ gw := gw_in 1187 (by decide +kernel) (by decide +kernel)
theorem mC_X9_told : Cond.code yX9_told cX9_told 2 (some .int) ∈ gw := gw_in 1188 (by decide +kernel) (by decide +kernel)
def nw : List Cond := [Cond.methodLinkNest RX8 9 yX4_init "SpeakHall", Cond.methodLinkNest RX8 46 yX1_init "SpeakHall", Cond.methodLinkNest RX8 60 yX3_init "SpeakHall", Cond.methodLinkNest RX8 71 yX6_init "SpeakHall", Cond.methodLinkNest RX4 26 yX8_set "SpeakHall", Cond.methodLinkNest RX4 34 yX8_at "SpeakHall", Cond.methodLinkNest RX7 42 yX8_at "SpeakHall", Cond.methodLinkNest RX7 53 yX8_set "SpeakHall", Cond.methodLinkNest RX5 23 yX8_at "SpeakHall", Cond.methodLinkNest RX5 27 yX8_set "SpeakHall", Cond.methodLinkNest RX2 31 yX8_at "SpeakHall", Cond.methodLinkNest RX2 59 yX8_set "SpeakHall", Cond.methodLinkNest RX1 41 yX8_at "SpeakHall", Cond.methodLinkNest RX1 45 yX8_set "SpeakHall", Cond.methodLinkNest RX3 44 yX8_set "SpeakHall", Cond.methodLinkNest RX0 23 yX8_at "SpeakHall", Cond.methodLinkNest RX0 27 yX8_set "SpeakHall", Cond.methodLinkNest RX3 52 yX8_at "SpeakHall", Cond.methodLinkNest RX6 30 yX8_set "SpeakHall", Cond.methodLinkNest RX6 22 yX8_at "SpeakHall"]
theorem nN_X8_9 : Cond.methodLinkNest RX8 9 yX4_init "SpeakHall" ∈ nw := List.mem_of_getElem? (i := 0) rfl
theorem nN_X8_46 : Cond.methodLinkNest RX8 46 yX1_init "SpeakHall" ∈ nw := List.mem_of_getElem? (i := 1) rfl
theorem nN_X8_60 : Cond.methodLinkNest RX8 60 yX3_init "SpeakHall" ∈ nw := List.mem_of_getElem? (i := 2) rfl
theorem nN_X8_71 : Cond.methodLinkNest RX8 71 yX6_init "SpeakHall" ∈ nw := List.mem_of_getElem? (i := 3) rfl
theorem nN_X4_26 : Cond.methodLinkNest RX4 26 yX8_set "SpeakHall" ∈ nw := List.mem_of_getElem? (i := 4) rfl
theorem nN_X4_34 : Cond.methodLinkNest RX4 34 yX8_at "SpeakHall" ∈ nw := List.mem_of_getElem? (i := 5) rfl
theorem nN_X7_42 : Cond.methodLinkNest RX7 42 yX8_at "SpeakHall" ∈ nw := List.mem_of_getElem? (i := 6) rfl
theorem nN_X7_53 : Cond.methodLinkNest RX7 53 yX8_set "SpeakHall" ∈ nw := List.mem_of_getElem? (i := 7) rfl
theorem nN_X5_23 : Cond.methodLinkNest RX5 23 yX8_at "SpeakHall" ∈ nw := List.mem_of_getElem? (i := 8) rfl
theorem nN_X5_27 : Cond.methodLinkNest RX5 27 yX8_set "SpeakHall" ∈ nw := List.mem_of_getElem? (i := 9) rfl
theorem nN_X2_31 : Cond.methodLinkNest RX2 31 yX8_at "SpeakHall" ∈ nw := List.mem_of_getElem? (i := 10) rfl
theorem nN_X2_59 : Cond.methodLinkNest RX2 59 yX8_set "SpeakHall" ∈ nw := List.mem_of_getElem? (i := 11) rfl
theorem nN_X1_41 : Cond.methodLinkNest RX1 41 yX8_at "SpeakHall" ∈ nw := List.mem_of_getElem? (i := 12) rfl
theorem nN_X1_45 : Cond.methodLinkNest RX1 45 yX8_set "SpeakHall" ∈ nw := List.mem_of_getElem? (i := 13) rfl
theorem nN_X3_44 : Cond.methodLinkNest RX3 44 yX8_set "SpeakHall" ∈ nw := List.mem_of_getElem? (i := 14) rfl
theorem nN_X0_23 : Cond.methodLinkNest RX0 23 yX8_at "SpeakHall" ∈ nw := List.mem_of_getElem? (i := 15) rfl
theorem nN_X0_27 : Cond.methodLinkNest RX0 27 yX8_set "SpeakHall" ∈ nw := List.mem_of_getElem? (i := 16) rfl
theorem nN_X3_52 : Cond.methodLinkNest RX3 52 yX8_at "SpeakHall" ∈ nw := List.mem_of_getElem? (i := 17) rfl
theorem nN_X6_30 : Cond.methodLinkNest RX6 30 yX8_set "SpeakHall" ∈ nw := List.mem_of_getElem? (i := 18) rfl
theorem nN_X6_22 : Cond.methodLinkNest RX6 22 yX8_at "SpeakHall" ∈ nw := List.mem_of_getElem? (i := 19) rfl
theorem nw_tbl : ∀ w ∈ nw, w ∈ lw_tbl := by
  intro w h
  have hh : ∀ w ∈ nw, ∃ i : Nat, lw_tbl[i]? = some w := by
    unfold nw
    simp only [List.forall_mem_cons]
    exact ⟨⟨55, by decide +kernel⟩, ⟨145, by decide +kernel⟩, ⟨186, by decide +kernel⟩, ⟨215, by decide +kernel⟩, ⟨281, by decide +kernel⟩, ⟨300, by decide +kernel⟩, ⟨331, by decide +kernel⟩, ⟨373, by decide +kernel⟩, ⟨394, by decide +kernel⟩, ⟨403, by decide +kernel⟩, ⟨427, by decide +kernel⟩, ⟨447, by decide +kernel⟩, ⟨496, by decide +kernel⟩, ⟨525, by decide +kernel⟩, ⟨572, by decide +kernel⟩, ⟨619, by decide +kernel⟩, ⟨624, by decide +kernel⟩, ⟨714, by decide +kernel⟩, ⟨787, by decide +kernel⟩, ⟨808, by decide +kernel⟩, fun _ h => absurd h List.not_mem_nil⟩
  obtain ⟨i, hi⟩ := hh w h
  exact List.mem_of_getElem? hi
theorem iwX0 : ∀ w ∈ wsX00, w ∈ gw := by
  intro w h
  have hh : wsX00 = [177, 179, 181].filterMap (fun i => lw_tbl[i]?) := by decide +kernel
  rw [hh] at h
  obtain ⟨i, -, hi⟩ := List.mem_filterMap.mp h
  have hg : wsX00.all goodWord = true := by decide +kernel
  refine List.mem_filter.mpr ⟨List.mem_of_getElem? hi, List.all_eq_true.mp hg w ?_⟩
  rw [hh]; exact h
theorem iwX1 : ∀ w ∈ wsX10, w ∈ gw := by
  intro w h
  have hh : wsX10 = [155, 157, 159, 161, 163, 165].filterMap (fun i => lw_tbl[i]?) := by decide +kernel
  rw [hh] at h
  obtain ⟨i, -, hi⟩ := List.mem_filterMap.mp h
  have hg : wsX10.all goodWord = true := by decide +kernel
  refine List.mem_filter.mpr ⟨List.mem_of_getElem? hi, List.all_eq_true.mp hg w ?_⟩
  rw [hh]; exact h
theorem iwX2 : ∀ w ∈ wsX20, w ∈ gw := by
  intro w h
  have hh : wsX20 = [132, 134, 136, 138, 140].filterMap (fun i => lw_tbl[i]?) := by decide +kernel
  rw [hh] at h
  obtain ⟨i, -, hi⟩ := List.mem_filterMap.mp h
  have hg : wsX20.all goodWord = true := by decide +kernel
  refine List.mem_filter.mpr ⟨List.mem_of_getElem? hi, List.all_eq_true.mp hg w ?_⟩
  rw [hh]; exact h
theorem iwX3 : ∀ w ∈ wsX30, w ∈ gw := by
  intro w h
  have hh : wsX30 = [197, 199, 201, 203, 205, 207, 209].filterMap (fun i => lw_tbl[i]?) := by decide +kernel
  rw [hh] at h
  obtain ⟨i, -, hi⟩ := List.mem_filterMap.mp h
  have hg : wsX30.all goodWord = true := by decide +kernel
  refine List.mem_filter.mpr ⟨List.mem_of_getElem? hi, List.all_eq_true.mp hg w ?_⟩
  rw [hh]; exact h
theorem iwX4 : ∀ w ∈ wsX40, w ∈ gw := by
  intro w h
  have hh : wsX40 = [63, 65, 67, 69].filterMap (fun i => lw_tbl[i]?) := by decide +kernel
  rw [hh] at h
  obtain ⟨i, -, hi⟩ := List.mem_filterMap.mp h
  have hg : wsX40.all goodWord = true := by decide +kernel
  refine List.mem_filter.mpr ⟨List.mem_of_getElem? hi, List.all_eq_true.mp hg w ?_⟩
  rw [hh]; exact h
theorem iwX5 : ∀ w ∈ wsX50, w ∈ gw := by
  intro w h
  have hh : wsX50 = [114, 116, 118].filterMap (fun i => lw_tbl[i]?) := by decide +kernel
  rw [hh] at h
  obtain ⟨i, -, hi⟩ := List.mem_filterMap.mp h
  have hg : wsX50.all goodWord = true := by decide +kernel
  refine List.mem_filter.mpr ⟨List.mem_of_getElem? hi, List.all_eq_true.mp hg w ?_⟩
  rw [hh]; exact h
theorem iwX6 : ∀ w ∈ wsX60, w ∈ gw := by
  intro w h
  have hh : wsX60 = [222, 224, 226].filterMap (fun i => lw_tbl[i]?) := by decide +kernel
  rw [hh] at h
  obtain ⟨i, -, hi⟩ := List.mem_filterMap.mp h
  have hg : wsX60.all goodWord = true := by decide +kernel
  refine List.mem_filter.mpr ⟨List.mem_of_getElem? hi, List.all_eq_true.mp hg w ?_⟩
  rw [hh]; exact h
theorem iwX7 : ∀ w ∈ wsX70, w ∈ gw := by
  intro w h
  have hh : wsX70 = [88, 90, 92, 94, 96, 98, 100, 102].filterMap (fun i => lw_tbl[i]?) := by decide +kernel
  rw [hh] at h
  obtain ⟨i, -, hi⟩ := List.mem_filterMap.mp h
  have hg : wsX70.all goodWord = true := by decide +kernel
  refine List.mem_filter.mpr ⟨List.mem_of_getElem? hi, List.all_eq_true.mp hg w ?_⟩
  rw [hh]; exact h
theorem iwX8 : ∀ w ∈ wsX80, w ∈ gw := by
  intro w h
  have hh : wsX80 = [239, 241, 243, 245, 247, 249, 251, 253, 255, 257].filterMap (fun i => lw_tbl[i]?) := by decide +kernel
  rw [hh] at h
  obtain ⟨i, -, hi⟩ := List.mem_filterMap.mp h
  have hg : wsX80.all goodWord = true := by decide +kernel
  refine List.mem_filter.mpr ⟨List.mem_of_getElem? hi, List.all_eq_true.mp hg w ?_⟩
  rw [hh]; exact h
theorem iwX9 : ∀ w ∈ wsX90, w ∈ gw := by
  intro w h
  have hh : wsX90 = [871, 873, 875, 877, 879, 881, 883, 885, 887, 889, 891, 893, 895, 897, 899, 901, 903, 905, 907, 909, 911, 913, 915, 917, 919, 921, 923, 925, 927, 929, 931, 933, 935, 937, 939, 941, 943, 945, 947].filterMap (fun i => lw_tbl[i]?) := by decide +kernel
  rw [hh] at h
  obtain ⟨i, -, hi⟩ := List.mem_filterMap.mp h
  have hg : wsX90.all goodWord = true := by decide +kernel
  refine List.mem_filter.mpr ⟨List.mem_of_getElem? hi, List.all_eq_true.mp hg w ?_⟩
  rw [hh]; exact h
end
section
/-! worlds, contracts' forms, rows of calls -/
abbrev Mem : Type := Nat → Nat → Int32
def upc (mem : Mem) (k : Nat) (f : Nat → Int32) : Mem := fun a => if a = k then f else mem a
def up2 (mem : Mem) (k j : Nat) (v : Int32) : Mem := upc mem k (upd (mem k) j v)
def fu : Nat := 100000
abbrev isB (v : Int32) : Prop := v = 0 ∨ v = 1
def gI {α : Type} (i : Int32) (n : Nat) (t : Option α) : Option α := if i < 0 ∨ n ≤ i.toNatClampNeg then none else t
def gZ {α : Type} (d : Int32) (t : Option α) : Option α := if d = 0 then none else t
def gB {α : Type} (v : Int32) (t : Option α) : Option α := if v = 0 ∨ v = 1 then t else none
def oc {α : Type} (o : Option Nat) (a : Option α) (f : Nat → Option α) : Option α := match o with
  | none => a
  | some k => f k
theorem gI_some {α : Type} {i : Int32} {n : Nat} {t : Option α} {v : α} (h : gI i n t = some v) : vp_in i n ∧ t = some v := by
  unfold gI at h
  by_cases c : i < 0 ∨ n ≤ i.toNatClampNeg
  · rw [if_pos c] at h; cases h
  · rw [if_neg c] at h; exact ⟨c, h⟩
theorem gZ_some {α : Type} {d : Int32} {t : Option α} {v : α} (h : gZ d t = some v) : ¬ d = 0 ∧ t = some v := by
  unfold gZ at h
  by_cases c : d = 0
  · rw [if_pos c] at h; cases h
  · rw [if_neg c] at h; exact ⟨c, h⟩
theorem gB_some {α : Type} {d : Int32} {t : Option α} {v : α} (h : gB d t = some v) : isB d ∧ t = some v := by
  unfold gB at h
  by_cases c : d = 0 ∨ d = 1
  · rw [if_pos c] at h; exact ⟨c, h⟩
  · rw [if_neg c] at h; cases h
theorem ob_some {α β : Type} {o : Option α} {f : α → Option β} {v : β} (h : o.bind f = some v) : ∃ a, o = some a ∧ f a = some v := by
  cases o with
  | none => cases h
  | some a => exact ⟨a, rfl, h⟩
theorem isB_nar {v : Int32} (h : isB v) : narrow .boolean (.int v) = .int v := by
  rcases h with rfl | rfl <;> rfl
theorem isB_fit {v : Int32} (h : isB v) : fits .boolean (.int v) = true := by
  rcases h with rfl | rfl <;> rfl
theorem ne_toInt {x c : Int32} {k : Int} (h : ¬ x = c) (hc : c.toInt = k) : x.toInt ≠ k := fun q => h (Int32.toInt_inj.mp (q.trans hc.symm))
abbrev gG : Type := va_G × ClassId × ClassId × ClassId
abbrev tyG (g : gG) : List (ClassId × FieldType) := [(g.2.1, .int), (g.2.2.1, .boolean), (g.2.2.2, .object "SpeakHall$Sheet")]
def AW (n : Nat) (ad : Nat → Nat) : Nat → Prop := fun q => ∃ k : Nat, k < n ∧ q = ad k
def Apt (n : Nat) (ad : Nat → Nat) : Prop := ∀ i j : Nat, i < n → j < n → ad i = ad j → i = j
theorem wD_of {n : Nat} {ad : Nat → Nat} {w : va_W} (hw : w.map Prod.fst = (List.range n).map ad) (h : Apt n ad) : va_D (AW n ad) w := by
  have key : ∀ (i : Nat) (p : Nat × va_E), w[i]? = some p → i < n ∧ p.1 = ad i := by
    intro i p hp
    have h1 : (w.map Prod.fst)[i]? = some p.1 := by rw [List.getElem?_map, hp]; rfl
    rw [hw, List.getElem?_map] at h1
    by_cases hi : i < n
    · rw [List.getElem?_range hi] at h1
      exact ⟨hi, (Option.some.inj h1).symm⟩
    · rw [List.getElem?_eq_none (by simp; omega)] at h1
      cases h1
  refine ⟨fun i j p q hp hq he => ?_, fun k q hk => ?_⟩
  · obtain ⟨hi, e1⟩ := key i p hp
    obtain ⟨hj, e2⟩ := key j q hq
    exact h i j hi hj (by rw [← e1, ← e2, he])
  · obtain ⟨hi, e1⟩ := key k q hk
    exact ⟨k, hi, e1⟩

def wX (g : gG) (ad : Nat → Nat) (mem : Mem) : va_W := [(ad 0, .inr (8, [.ref (ad 1), .ref (ad 5), .ref (ad 11), .ref (ad 17), .ref (ad 19), .ref (ad 21), .ref (ad 27), .ref (ad 29), .ref (ad 35), .int (mem 0 9)])), (ad 1, .inr (4, [.ref (ad 2), .ref (ad 3), .ref (ad 4), .int (mem 1 3)])), (ad 2, .inl (g.2.1, 10, .inl (mem 2))), (ad 3, .inl (g.2.1, 10, .inl (mem 3))), (ad 4, .inl (g.2.2.1, 10, .inl (mem 4))), (ad 5, .inr (7, [.ref (ad 1), .ref (ad 6), .ref (ad 7), .ref (ad 8), .ref (ad 9), .ref (ad 10), .int (mem 5 6), .int (mem 5 7)])), (ad 6, .inl (g.2.1, 20, .inl (mem 6))), (ad 7, .inl (g.2.1, 20, .inl (mem 7))), (ad 8, .inl (g.2.1, 10, .inl (mem 8))), (ad 9, .inl (g.2.1, 10, .inl (mem 9))), (ad 10, .inl (g.2.1, 5, .inl (mem 10))), (ad 11, .inr (7, [.ref (ad 1), .ref (ad 12), .ref (ad 13), .ref (ad 14), .ref (ad 15), .ref (ad 16), .int (mem 11 6), .int (mem 11 7)])), (ad 12, .inl (g.2.1, 20, .inl (mem 12))), (ad 13, .inl (g.2.1, 20, .inl (mem 13))), (ad 14, .inl (g.2.1, 10, .inl (mem 14))), (ad 15, .inl (g.2.1, 10, .inl (mem 15))), (ad 16, .inl (g.2.1, 5, .inl (mem 16))), (ad 17, .inr (5, [.ref (ad 1), .ref (ad 18), .int (mem 17 2)])), (ad 18, .inl (g.2.1, 6, .inl (mem 18))), (ad 19, .inr (2, [.ref (ad 1), .ref (ad 17), .ref (ad 5), .ref (ad 20), .int (mem 19 4)])), (ad 20, .inl (g.2.1, 20, .inl (mem 20))), (ad 21, .inr (1, [.ref (ad 22), .ref (ad 23), .ref (ad 24), .ref (ad 25), .ref (ad 26), .int (mem 21 5)])), (ad 22, .inl (g.2.1, 5, .inl (mem 22))), (ad 23, .inl (g.2.1, 5, .inl (mem 23))), (ad 24, .inl (g.2.1, 5, .inl (mem 24))), (ad 25, .inl (g.2.1, 5, .inl (mem 25))), (ad 26, .inl (g.2.1, 3, .inl (mem 26))), (ad 27, .inr (0, [.ref (ad 1), .ref (ad 28), .int (mem 27 2)])), (ad 28, .inl (g.2.1, 10, .inl (mem 28))), (ad 29, .inr (3, [.ref (ad 30), .ref (ad 31), .ref (ad 32), .ref (ad 33), .ref (ad 34), .int (mem 29 5), .int (mem 29 6)])), (ad 30, .inl (g.2.1, 100, .inl (mem 30))), (ad 31, .inl (g.2.1, 100, .inl (mem 31))), (ad 32, .inl (g.2.1, 100, .inl (mem 32))), (ad 33, .inl (g.2.1, 40, .inl (mem 33))), (ad 34, .inl (g.2.1, 40, .inl (mem 34))), (ad 35, .inl (g.2.2.2, 4, .inr (.inr (.inr (.inr (fun j => some (ad (36 + 2 * j)))))))), (ad 36, .inr (6, [.ref (ad 37), .int (mem 36 1), .int (mem 36 2)])), (ad 37, .inl (g.2.1, 12, .inl (mem 37))), (ad 38, .inr (6, [.ref (ad 39), .int (mem 38 1), .int (mem 38 2)])), (ad 39, .inl (g.2.1, 12, .inl (mem 39))), (ad 40, .inr (6, [.ref (ad 41), .int (mem 40 1), .int (mem 40 2)])), (ad 41, .inl (g.2.1, 12, .inl (mem 41))), (ad 42, .inr (6, [.ref (ad 43), .int (mem 42 1), .int (mem 42 2)])), (ad 43, .inl (g.2.1, 12, .inl (mem 43)))]
theorem wX_0 {g : gG} {ad : Nat → Nat} {mem : Mem} : (wX g ad mem)[0]? = some (ad 0, .inr (8, [.ref (ad 1), .ref (ad 5), .ref (ad 11), .ref (ad 17), .ref (ad 19), .ref (ad 21), .ref (ad 27), .ref (ad 29), .ref (ad 35), .int (mem 0 9)])) := rfl
theorem wX_s0_9 {g : gG} {ad : Nat → Nat} {mem : Mem} {v : Int32} : (wX g ad mem).set 0 (ad 0, .inr (8, [.ref (ad 1), .ref (ad 5), .ref (ad 11), .ref (ad 17), .ref (ad 19), .ref (ad 21), .ref (ad 27), .ref (ad 29), .ref (ad 35), .int v])) = wX g ad (up2 mem 0 9 v) := rfl
theorem wX_1 {g : gG} {ad : Nat → Nat} {mem : Mem} : (wX g ad mem)[1]? = some (ad 1, .inr (4, [.ref (ad 2), .ref (ad 3), .ref (ad 4), .int (mem 1 3)])) := rfl
theorem wX_s1_3 {g : gG} {ad : Nat → Nat} {mem : Mem} {v : Int32} : (wX g ad mem).set 1 (ad 1, .inr (4, [.ref (ad 2), .ref (ad 3), .ref (ad 4), .int v])) = wX g ad (up2 mem 1 3 v) := rfl
theorem wX_2 {g : gG} {ad : Nat → Nat} {mem : Mem} : (wX g ad mem)[2]? = some (ad 2, .inl (g.2.1, 10, .inl (mem 2))) := rfl
theorem wX_s2 {g : gG} {ad : Nat → Nat} {mem : Mem} {f : Nat → Int32} : (wX g ad mem).set 2 (ad 2, .inl (g.2.1, 10, .inl f)) = wX g ad (upc mem 2 f) := rfl
theorem wX_3 {g : gG} {ad : Nat → Nat} {mem : Mem} : (wX g ad mem)[3]? = some (ad 3, .inl (g.2.1, 10, .inl (mem 3))) := rfl
theorem wX_s3 {g : gG} {ad : Nat → Nat} {mem : Mem} {f : Nat → Int32} : (wX g ad mem).set 3 (ad 3, .inl (g.2.1, 10, .inl f)) = wX g ad (upc mem 3 f) := rfl
theorem wX_4 {g : gG} {ad : Nat → Nat} {mem : Mem} : (wX g ad mem)[4]? = some (ad 4, .inl (g.2.2.1, 10, .inl (mem 4))) := rfl
theorem wX_s4 {g : gG} {ad : Nat → Nat} {mem : Mem} {f : Nat → Int32} : (wX g ad mem).set 4 (ad 4, .inl (g.2.2.1, 10, .inl f)) = wX g ad (upc mem 4 f) := rfl
theorem wX_5 {g : gG} {ad : Nat → Nat} {mem : Mem} : (wX g ad mem)[5]? = some (ad 5, .inr (7, [.ref (ad 1), .ref (ad 6), .ref (ad 7), .ref (ad 8), .ref (ad 9), .ref (ad 10), .int (mem 5 6), .int (mem 5 7)])) := rfl
theorem wX_s5_6 {g : gG} {ad : Nat → Nat} {mem : Mem} {v : Int32} : (wX g ad mem).set 5 (ad 5, .inr (7, [.ref (ad 1), .ref (ad 6), .ref (ad 7), .ref (ad 8), .ref (ad 9), .ref (ad 10), .int v, .int (mem 5 7)])) = wX g ad (up2 mem 5 6 v) := rfl
theorem wX_s5_7 {g : gG} {ad : Nat → Nat} {mem : Mem} {v : Int32} : (wX g ad mem).set 5 (ad 5, .inr (7, [.ref (ad 1), .ref (ad 6), .ref (ad 7), .ref (ad 8), .ref (ad 9), .ref (ad 10), .int (mem 5 6), .int v])) = wX g ad (up2 mem 5 7 v) := rfl
theorem wX_6 {g : gG} {ad : Nat → Nat} {mem : Mem} : (wX g ad mem)[6]? = some (ad 6, .inl (g.2.1, 20, .inl (mem 6))) := rfl
theorem wX_s6 {g : gG} {ad : Nat → Nat} {mem : Mem} {f : Nat → Int32} : (wX g ad mem).set 6 (ad 6, .inl (g.2.1, 20, .inl f)) = wX g ad (upc mem 6 f) := rfl
theorem wX_7 {g : gG} {ad : Nat → Nat} {mem : Mem} : (wX g ad mem)[7]? = some (ad 7, .inl (g.2.1, 20, .inl (mem 7))) := rfl
theorem wX_s7 {g : gG} {ad : Nat → Nat} {mem : Mem} {f : Nat → Int32} : (wX g ad mem).set 7 (ad 7, .inl (g.2.1, 20, .inl f)) = wX g ad (upc mem 7 f) := rfl
theorem wX_8 {g : gG} {ad : Nat → Nat} {mem : Mem} : (wX g ad mem)[8]? = some (ad 8, .inl (g.2.1, 10, .inl (mem 8))) := rfl
theorem wX_s8 {g : gG} {ad : Nat → Nat} {mem : Mem} {f : Nat → Int32} : (wX g ad mem).set 8 (ad 8, .inl (g.2.1, 10, .inl f)) = wX g ad (upc mem 8 f) := rfl
theorem wX_9 {g : gG} {ad : Nat → Nat} {mem : Mem} : (wX g ad mem)[9]? = some (ad 9, .inl (g.2.1, 10, .inl (mem 9))) := rfl
theorem wX_s9 {g : gG} {ad : Nat → Nat} {mem : Mem} {f : Nat → Int32} : (wX g ad mem).set 9 (ad 9, .inl (g.2.1, 10, .inl f)) = wX g ad (upc mem 9 f) := rfl
theorem wX_10 {g : gG} {ad : Nat → Nat} {mem : Mem} : (wX g ad mem)[10]? = some (ad 10, .inl (g.2.1, 5, .inl (mem 10))) := rfl
theorem wX_s10 {g : gG} {ad : Nat → Nat} {mem : Mem} {f : Nat → Int32} : (wX g ad mem).set 10 (ad 10, .inl (g.2.1, 5, .inl f)) = wX g ad (upc mem 10 f) := rfl
theorem wX_11 {g : gG} {ad : Nat → Nat} {mem : Mem} : (wX g ad mem)[11]? = some (ad 11, .inr (7, [.ref (ad 1), .ref (ad 12), .ref (ad 13), .ref (ad 14), .ref (ad 15), .ref (ad 16), .int (mem 11 6), .int (mem 11 7)])) := rfl
theorem wX_s11_6 {g : gG} {ad : Nat → Nat} {mem : Mem} {v : Int32} : (wX g ad mem).set 11 (ad 11, .inr (7, [.ref (ad 1), .ref (ad 12), .ref (ad 13), .ref (ad 14), .ref (ad 15), .ref (ad 16), .int v, .int (mem 11 7)])) = wX g ad (up2 mem 11 6 v) := rfl
theorem wX_s11_7 {g : gG} {ad : Nat → Nat} {mem : Mem} {v : Int32} : (wX g ad mem).set 11 (ad 11, .inr (7, [.ref (ad 1), .ref (ad 12), .ref (ad 13), .ref (ad 14), .ref (ad 15), .ref (ad 16), .int (mem 11 6), .int v])) = wX g ad (up2 mem 11 7 v) := rfl
theorem wX_12 {g : gG} {ad : Nat → Nat} {mem : Mem} : (wX g ad mem)[12]? = some (ad 12, .inl (g.2.1, 20, .inl (mem 12))) := rfl
theorem wX_s12 {g : gG} {ad : Nat → Nat} {mem : Mem} {f : Nat → Int32} : (wX g ad mem).set 12 (ad 12, .inl (g.2.1, 20, .inl f)) = wX g ad (upc mem 12 f) := rfl
theorem wX_13 {g : gG} {ad : Nat → Nat} {mem : Mem} : (wX g ad mem)[13]? = some (ad 13, .inl (g.2.1, 20, .inl (mem 13))) := rfl
theorem wX_s13 {g : gG} {ad : Nat → Nat} {mem : Mem} {f : Nat → Int32} : (wX g ad mem).set 13 (ad 13, .inl (g.2.1, 20, .inl f)) = wX g ad (upc mem 13 f) := rfl
theorem wX_14 {g : gG} {ad : Nat → Nat} {mem : Mem} : (wX g ad mem)[14]? = some (ad 14, .inl (g.2.1, 10, .inl (mem 14))) := rfl
theorem wX_s14 {g : gG} {ad : Nat → Nat} {mem : Mem} {f : Nat → Int32} : (wX g ad mem).set 14 (ad 14, .inl (g.2.1, 10, .inl f)) = wX g ad (upc mem 14 f) := rfl
theorem wX_15 {g : gG} {ad : Nat → Nat} {mem : Mem} : (wX g ad mem)[15]? = some (ad 15, .inl (g.2.1, 10, .inl (mem 15))) := rfl
theorem wX_s15 {g : gG} {ad : Nat → Nat} {mem : Mem} {f : Nat → Int32} : (wX g ad mem).set 15 (ad 15, .inl (g.2.1, 10, .inl f)) = wX g ad (upc mem 15 f) := rfl
theorem wX_16 {g : gG} {ad : Nat → Nat} {mem : Mem} : (wX g ad mem)[16]? = some (ad 16, .inl (g.2.1, 5, .inl (mem 16))) := rfl
theorem wX_s16 {g : gG} {ad : Nat → Nat} {mem : Mem} {f : Nat → Int32} : (wX g ad mem).set 16 (ad 16, .inl (g.2.1, 5, .inl f)) = wX g ad (upc mem 16 f) := rfl
theorem wX_17 {g : gG} {ad : Nat → Nat} {mem : Mem} : (wX g ad mem)[17]? = some (ad 17, .inr (5, [.ref (ad 1), .ref (ad 18), .int (mem 17 2)])) := rfl
theorem wX_s17_2 {g : gG} {ad : Nat → Nat} {mem : Mem} {v : Int32} : (wX g ad mem).set 17 (ad 17, .inr (5, [.ref (ad 1), .ref (ad 18), .int v])) = wX g ad (up2 mem 17 2 v) := rfl
theorem wX_18 {g : gG} {ad : Nat → Nat} {mem : Mem} : (wX g ad mem)[18]? = some (ad 18, .inl (g.2.1, 6, .inl (mem 18))) := rfl
theorem wX_s18 {g : gG} {ad : Nat → Nat} {mem : Mem} {f : Nat → Int32} : (wX g ad mem).set 18 (ad 18, .inl (g.2.1, 6, .inl f)) = wX g ad (upc mem 18 f) := rfl
theorem wX_19 {g : gG} {ad : Nat → Nat} {mem : Mem} : (wX g ad mem)[19]? = some (ad 19, .inr (2, [.ref (ad 1), .ref (ad 17), .ref (ad 5), .ref (ad 20), .int (mem 19 4)])) := rfl
theorem wX_s19_4 {g : gG} {ad : Nat → Nat} {mem : Mem} {v : Int32} : (wX g ad mem).set 19 (ad 19, .inr (2, [.ref (ad 1), .ref (ad 17), .ref (ad 5), .ref (ad 20), .int v])) = wX g ad (up2 mem 19 4 v) := rfl
theorem wX_20 {g : gG} {ad : Nat → Nat} {mem : Mem} : (wX g ad mem)[20]? = some (ad 20, .inl (g.2.1, 20, .inl (mem 20))) := rfl
theorem wX_s20 {g : gG} {ad : Nat → Nat} {mem : Mem} {f : Nat → Int32} : (wX g ad mem).set 20 (ad 20, .inl (g.2.1, 20, .inl f)) = wX g ad (upc mem 20 f) := rfl
theorem wX_21 {g : gG} {ad : Nat → Nat} {mem : Mem} : (wX g ad mem)[21]? = some (ad 21, .inr (1, [.ref (ad 22), .ref (ad 23), .ref (ad 24), .ref (ad 25), .ref (ad 26), .int (mem 21 5)])) := rfl
theorem wX_s21_5 {g : gG} {ad : Nat → Nat} {mem : Mem} {v : Int32} : (wX g ad mem).set 21 (ad 21, .inr (1, [.ref (ad 22), .ref (ad 23), .ref (ad 24), .ref (ad 25), .ref (ad 26), .int v])) = wX g ad (up2 mem 21 5 v) := rfl
theorem wX_22 {g : gG} {ad : Nat → Nat} {mem : Mem} : (wX g ad mem)[22]? = some (ad 22, .inl (g.2.1, 5, .inl (mem 22))) := rfl
theorem wX_s22 {g : gG} {ad : Nat → Nat} {mem : Mem} {f : Nat → Int32} : (wX g ad mem).set 22 (ad 22, .inl (g.2.1, 5, .inl f)) = wX g ad (upc mem 22 f) := rfl
theorem wX_23 {g : gG} {ad : Nat → Nat} {mem : Mem} : (wX g ad mem)[23]? = some (ad 23, .inl (g.2.1, 5, .inl (mem 23))) := rfl
theorem wX_s23 {g : gG} {ad : Nat → Nat} {mem : Mem} {f : Nat → Int32} : (wX g ad mem).set 23 (ad 23, .inl (g.2.1, 5, .inl f)) = wX g ad (upc mem 23 f) := rfl
theorem wX_24 {g : gG} {ad : Nat → Nat} {mem : Mem} : (wX g ad mem)[24]? = some (ad 24, .inl (g.2.1, 5, .inl (mem 24))) := rfl
theorem wX_s24 {g : gG} {ad : Nat → Nat} {mem : Mem} {f : Nat → Int32} : (wX g ad mem).set 24 (ad 24, .inl (g.2.1, 5, .inl f)) = wX g ad (upc mem 24 f) := rfl
theorem wX_25 {g : gG} {ad : Nat → Nat} {mem : Mem} : (wX g ad mem)[25]? = some (ad 25, .inl (g.2.1, 5, .inl (mem 25))) := rfl
theorem wX_s25 {g : gG} {ad : Nat → Nat} {mem : Mem} {f : Nat → Int32} : (wX g ad mem).set 25 (ad 25, .inl (g.2.1, 5, .inl f)) = wX g ad (upc mem 25 f) := rfl
theorem wX_26 {g : gG} {ad : Nat → Nat} {mem : Mem} : (wX g ad mem)[26]? = some (ad 26, .inl (g.2.1, 3, .inl (mem 26))) := rfl
theorem wX_s26 {g : gG} {ad : Nat → Nat} {mem : Mem} {f : Nat → Int32} : (wX g ad mem).set 26 (ad 26, .inl (g.2.1, 3, .inl f)) = wX g ad (upc mem 26 f) := rfl
theorem wX_27 {g : gG} {ad : Nat → Nat} {mem : Mem} : (wX g ad mem)[27]? = some (ad 27, .inr (0, [.ref (ad 1), .ref (ad 28), .int (mem 27 2)])) := rfl
theorem wX_s27_2 {g : gG} {ad : Nat → Nat} {mem : Mem} {v : Int32} : (wX g ad mem).set 27 (ad 27, .inr (0, [.ref (ad 1), .ref (ad 28), .int v])) = wX g ad (up2 mem 27 2 v) := rfl
theorem wX_28 {g : gG} {ad : Nat → Nat} {mem : Mem} : (wX g ad mem)[28]? = some (ad 28, .inl (g.2.1, 10, .inl (mem 28))) := rfl
theorem wX_s28 {g : gG} {ad : Nat → Nat} {mem : Mem} {f : Nat → Int32} : (wX g ad mem).set 28 (ad 28, .inl (g.2.1, 10, .inl f)) = wX g ad (upc mem 28 f) := rfl
theorem wX_29 {g : gG} {ad : Nat → Nat} {mem : Mem} : (wX g ad mem)[29]? = some (ad 29, .inr (3, [.ref (ad 30), .ref (ad 31), .ref (ad 32), .ref (ad 33), .ref (ad 34), .int (mem 29 5), .int (mem 29 6)])) := rfl
theorem wX_s29_5 {g : gG} {ad : Nat → Nat} {mem : Mem} {v : Int32} : (wX g ad mem).set 29 (ad 29, .inr (3, [.ref (ad 30), .ref (ad 31), .ref (ad 32), .ref (ad 33), .ref (ad 34), .int v, .int (mem 29 6)])) = wX g ad (up2 mem 29 5 v) := rfl
theorem wX_s29_6 {g : gG} {ad : Nat → Nat} {mem : Mem} {v : Int32} : (wX g ad mem).set 29 (ad 29, .inr (3, [.ref (ad 30), .ref (ad 31), .ref (ad 32), .ref (ad 33), .ref (ad 34), .int (mem 29 5), .int v])) = wX g ad (up2 mem 29 6 v) := rfl
theorem wX_30 {g : gG} {ad : Nat → Nat} {mem : Mem} : (wX g ad mem)[30]? = some (ad 30, .inl (g.2.1, 100, .inl (mem 30))) := rfl
theorem wX_s30 {g : gG} {ad : Nat → Nat} {mem : Mem} {f : Nat → Int32} : (wX g ad mem).set 30 (ad 30, .inl (g.2.1, 100, .inl f)) = wX g ad (upc mem 30 f) := rfl
theorem wX_31 {g : gG} {ad : Nat → Nat} {mem : Mem} : (wX g ad mem)[31]? = some (ad 31, .inl (g.2.1, 100, .inl (mem 31))) := rfl
theorem wX_s31 {g : gG} {ad : Nat → Nat} {mem : Mem} {f : Nat → Int32} : (wX g ad mem).set 31 (ad 31, .inl (g.2.1, 100, .inl f)) = wX g ad (upc mem 31 f) := rfl
theorem wX_32 {g : gG} {ad : Nat → Nat} {mem : Mem} : (wX g ad mem)[32]? = some (ad 32, .inl (g.2.1, 100, .inl (mem 32))) := rfl
theorem wX_s32 {g : gG} {ad : Nat → Nat} {mem : Mem} {f : Nat → Int32} : (wX g ad mem).set 32 (ad 32, .inl (g.2.1, 100, .inl f)) = wX g ad (upc mem 32 f) := rfl
theorem wX_33 {g : gG} {ad : Nat → Nat} {mem : Mem} : (wX g ad mem)[33]? = some (ad 33, .inl (g.2.1, 40, .inl (mem 33))) := rfl
theorem wX_s33 {g : gG} {ad : Nat → Nat} {mem : Mem} {f : Nat → Int32} : (wX g ad mem).set 33 (ad 33, .inl (g.2.1, 40, .inl f)) = wX g ad (upc mem 33 f) := rfl
theorem wX_34 {g : gG} {ad : Nat → Nat} {mem : Mem} : (wX g ad mem)[34]? = some (ad 34, .inl (g.2.1, 40, .inl (mem 34))) := rfl
theorem wX_s34 {g : gG} {ad : Nat → Nat} {mem : Mem} {f : Nat → Int32} : (wX g ad mem).set 34 (ad 34, .inl (g.2.1, 40, .inl f)) = wX g ad (upc mem 34 f) := rfl
theorem wX_35 {g : gG} {ad : Nat → Nat} {mem : Mem} : (wX g ad mem)[35]? = some (ad 35, .inl (g.2.2.2, 4, .inr (.inr (.inr (.inr (fun j => some (ad (36 + 2 * j)))))))) := rfl
theorem wX_36 {g : gG} {ad : Nat → Nat} {mem : Mem} : (wX g ad mem)[36]? = some (ad 36, .inr (6, [.ref (ad 37), .int (mem 36 1), .int (mem 36 2)])) := rfl
theorem wX_s36_1 {g : gG} {ad : Nat → Nat} {mem : Mem} {v : Int32} : (wX g ad mem).set 36 (ad 36, .inr (6, [.ref (ad 37), .int v, .int (mem 36 2)])) = wX g ad (up2 mem 36 1 v) := rfl
theorem wX_s36_2 {g : gG} {ad : Nat → Nat} {mem : Mem} {v : Int32} : (wX g ad mem).set 36 (ad 36, .inr (6, [.ref (ad 37), .int (mem 36 1), .int v])) = wX g ad (up2 mem 36 2 v) := rfl
theorem wX_37 {g : gG} {ad : Nat → Nat} {mem : Mem} : (wX g ad mem)[37]? = some (ad 37, .inl (g.2.1, 12, .inl (mem 37))) := rfl
theorem wX_s37 {g : gG} {ad : Nat → Nat} {mem : Mem} {f : Nat → Int32} : (wX g ad mem).set 37 (ad 37, .inl (g.2.1, 12, .inl f)) = wX g ad (upc mem 37 f) := rfl
theorem wX_38 {g : gG} {ad : Nat → Nat} {mem : Mem} : (wX g ad mem)[38]? = some (ad 38, .inr (6, [.ref (ad 39), .int (mem 38 1), .int (mem 38 2)])) := rfl
theorem wX_s38_1 {g : gG} {ad : Nat → Nat} {mem : Mem} {v : Int32} : (wX g ad mem).set 38 (ad 38, .inr (6, [.ref (ad 39), .int v, .int (mem 38 2)])) = wX g ad (up2 mem 38 1 v) := rfl
theorem wX_s38_2 {g : gG} {ad : Nat → Nat} {mem : Mem} {v : Int32} : (wX g ad mem).set 38 (ad 38, .inr (6, [.ref (ad 39), .int (mem 38 1), .int v])) = wX g ad (up2 mem 38 2 v) := rfl
theorem wX_39 {g : gG} {ad : Nat → Nat} {mem : Mem} : (wX g ad mem)[39]? = some (ad 39, .inl (g.2.1, 12, .inl (mem 39))) := rfl
theorem wX_s39 {g : gG} {ad : Nat → Nat} {mem : Mem} {f : Nat → Int32} : (wX g ad mem).set 39 (ad 39, .inl (g.2.1, 12, .inl f)) = wX g ad (upc mem 39 f) := rfl
theorem wX_40 {g : gG} {ad : Nat → Nat} {mem : Mem} : (wX g ad mem)[40]? = some (ad 40, .inr (6, [.ref (ad 41), .int (mem 40 1), .int (mem 40 2)])) := rfl
theorem wX_s40_1 {g : gG} {ad : Nat → Nat} {mem : Mem} {v : Int32} : (wX g ad mem).set 40 (ad 40, .inr (6, [.ref (ad 41), .int v, .int (mem 40 2)])) = wX g ad (up2 mem 40 1 v) := rfl
theorem wX_s40_2 {g : gG} {ad : Nat → Nat} {mem : Mem} {v : Int32} : (wX g ad mem).set 40 (ad 40, .inr (6, [.ref (ad 41), .int (mem 40 1), .int v])) = wX g ad (up2 mem 40 2 v) := rfl
theorem wX_41 {g : gG} {ad : Nat → Nat} {mem : Mem} : (wX g ad mem)[41]? = some (ad 41, .inl (g.2.1, 12, .inl (mem 41))) := rfl
theorem wX_s41 {g : gG} {ad : Nat → Nat} {mem : Mem} {f : Nat → Int32} : (wX g ad mem).set 41 (ad 41, .inl (g.2.1, 12, .inl f)) = wX g ad (upc mem 41 f) := rfl
theorem wX_42 {g : gG} {ad : Nat → Nat} {mem : Mem} : (wX g ad mem)[42]? = some (ad 42, .inr (6, [.ref (ad 43), .int (mem 42 1), .int (mem 42 2)])) := rfl
theorem wX_s42_1 {g : gG} {ad : Nat → Nat} {mem : Mem} {v : Int32} : (wX g ad mem).set 42 (ad 42, .inr (6, [.ref (ad 43), .int v, .int (mem 42 2)])) = wX g ad (up2 mem 42 1 v) := rfl
theorem wX_s42_2 {g : gG} {ad : Nat → Nat} {mem : Mem} {v : Int32} : (wX g ad mem).set 42 (ad 42, .inr (6, [.ref (ad 43), .int (mem 42 1), .int v])) = wX g ad (up2 mem 42 2 v) := rfl
theorem wX_43 {g : gG} {ad : Nat → Nat} {mem : Mem} : (wX g ad mem)[43]? = some (ad 43, .inl (g.2.1, 12, .inl (mem 43))) := rfl
theorem wX_s43 {g : gG} {ad : Nat → Nat} {mem : Mem} {f : Nat → Int32} : (wX g ad mem).set 43 (ad 43, .inl (g.2.1, 12, .inl f)) = wX g ad (upc mem 43 f) := rfl
theorem wX_fst {g : gG} {ad : Nat → Nat} {mem : Mem} : (wX g ad mem).map Prod.fst = (List.range 44).map ad := rfl
theorem wX_D {g : gG} {ad : Nat → Nat} {mem : Mem} (h : Apt 44 ad) : va_D (AW 44 ad) (wX g ad mem) := wD_of wX_fst h
def wM (g : gG) (ad : Nat → Nat) (mem : Mem) : va_W := [(ad 0, .inr (9, [.int (mem 0 0), .ref (ad 1), .ref (ad 2), .ref (ad 3), .ref (ad 4), .ref (ad 5), .int (mem 0 6), .ref (ad 6), .ref (ad 7), .int (mem 0 9), .ref (ad 8), .int (mem 0 11), .int (mem 0 12), .ref (ad 9), .ref (ad 10), .ref (ad 11), .ref (ad 12), .ref (ad 13), .int (mem 0 18), .ref (ad 14), .int (mem 0 20), .int (mem 0 21), .ref (ad 15), .ref (ad 16), .ref (ad 17), .int (mem 0 25), .ref (ad 18), .ref (ad 19), .ref (ad 20), .ref (ad 21), .ref (ad 22), .int (mem 0 31), .ref (ad 23), .int (mem 0 33), .ref (ad 24), .ref (ad 25), .ref (ad 26), .ref (ad 27), .ref (ad 28)])), (ad 1, .inl (g.2.1, 10, .inl (mem 1))), (ad 2, .inl (g.2.1, 10, .inl (mem 2))), (ad 3, .inl (g.2.2.1, 10, .inl (mem 3))), (ad 4, .inl (g.2.1, 10, .inl (mem 4))), (ad 5, .inl (g.2.1, 10, .inl (mem 5))), (ad 6, .inl (g.2.1, 20, .inl (mem 6))), (ad 7, .inl (g.2.1, 20, .inl (mem 7))), (ad 8, .inl (g.2.1, 6, .inl (mem 8))), (ad 9, .inl (g.2.1, 5, .inl (mem 9))), (ad 10, .inl (g.2.1, 5, .inl (mem 10))), (ad 11, .inl (g.2.1, 5, .inl (mem 11))), (ad 12, .inl (g.2.1, 5, .inl (mem 12))), (ad 13, .inl (g.2.1, 3, .inl (mem 13))), (ad 14, .inl (g.2.1, 10, .inl (mem 14))), (ad 15, .inl (g.2.1, 100, .inl (mem 15))), (ad 16, .inl (g.2.1, 100, .inl (mem 16))), (ad 17, .inl (g.2.1, 100, .inl (mem 17))), (ad 18, .inl (g.2.1, 41, .inl (mem 18))), (ad 19, .inl (g.2.1, 41, .inl (mem 19))), (ad 20, .inl (g.2.1, 4, .inl (mem 20))), (ad 21, .inl (g.2.1, 4, .inl (mem 21))), (ad 22, .inl (g.2.1, 48, .inl (mem 22))), (ad 23, .inl (g.2.1, 20, .inl (mem 23))), (ad 24, .inl (g.2.1, 20, .inl (mem 24))), (ad 25, .inl (g.2.1, 20, .inl (mem 25))), (ad 26, .inl (g.2.1, 10, .inl (mem 26))), (ad 27, .inl (g.2.1, 10, .inl (mem 27))), (ad 28, .inl (g.2.1, 12, .inl (mem 28)))]
theorem wM_0 {g : gG} {ad : Nat → Nat} {mem : Mem} : (wM g ad mem)[0]? = some (ad 0, .inr (9, [.int (mem 0 0), .ref (ad 1), .ref (ad 2), .ref (ad 3), .ref (ad 4), .ref (ad 5), .int (mem 0 6), .ref (ad 6), .ref (ad 7), .int (mem 0 9), .ref (ad 8), .int (mem 0 11), .int (mem 0 12), .ref (ad 9), .ref (ad 10), .ref (ad 11), .ref (ad 12), .ref (ad 13), .int (mem 0 18), .ref (ad 14), .int (mem 0 20), .int (mem 0 21), .ref (ad 15), .ref (ad 16), .ref (ad 17), .int (mem 0 25), .ref (ad 18), .ref (ad 19), .ref (ad 20), .ref (ad 21), .ref (ad 22), .int (mem 0 31), .ref (ad 23), .int (mem 0 33), .ref (ad 24), .ref (ad 25), .ref (ad 26), .ref (ad 27), .ref (ad 28)])) := rfl
theorem wM_s0_0 {g : gG} {ad : Nat → Nat} {mem : Mem} {v : Int32} : (wM g ad mem).set 0 (ad 0, .inr (9, [.int v, .ref (ad 1), .ref (ad 2), .ref (ad 3), .ref (ad 4), .ref (ad 5), .int (mem 0 6), .ref (ad 6), .ref (ad 7), .int (mem 0 9), .ref (ad 8), .int (mem 0 11), .int (mem 0 12), .ref (ad 9), .ref (ad 10), .ref (ad 11), .ref (ad 12), .ref (ad 13), .int (mem 0 18), .ref (ad 14), .int (mem 0 20), .int (mem 0 21), .ref (ad 15), .ref (ad 16), .ref (ad 17), .int (mem 0 25), .ref (ad 18), .ref (ad 19), .ref (ad 20), .ref (ad 21), .ref (ad 22), .int (mem 0 31), .ref (ad 23), .int (mem 0 33), .ref (ad 24), .ref (ad 25), .ref (ad 26), .ref (ad 27), .ref (ad 28)])) = wM g ad (up2 mem 0 0 v) := rfl
theorem wM_s0_6 {g : gG} {ad : Nat → Nat} {mem : Mem} {v : Int32} : (wM g ad mem).set 0 (ad 0, .inr (9, [.int (mem 0 0), .ref (ad 1), .ref (ad 2), .ref (ad 3), .ref (ad 4), .ref (ad 5), .int v, .ref (ad 6), .ref (ad 7), .int (mem 0 9), .ref (ad 8), .int (mem 0 11), .int (mem 0 12), .ref (ad 9), .ref (ad 10), .ref (ad 11), .ref (ad 12), .ref (ad 13), .int (mem 0 18), .ref (ad 14), .int (mem 0 20), .int (mem 0 21), .ref (ad 15), .ref (ad 16), .ref (ad 17), .int (mem 0 25), .ref (ad 18), .ref (ad 19), .ref (ad 20), .ref (ad 21), .ref (ad 22), .int (mem 0 31), .ref (ad 23), .int (mem 0 33), .ref (ad 24), .ref (ad 25), .ref (ad 26), .ref (ad 27), .ref (ad 28)])) = wM g ad (up2 mem 0 6 v) := rfl
theorem wM_s0_9 {g : gG} {ad : Nat → Nat} {mem : Mem} {v : Int32} : (wM g ad mem).set 0 (ad 0, .inr (9, [.int (mem 0 0), .ref (ad 1), .ref (ad 2), .ref (ad 3), .ref (ad 4), .ref (ad 5), .int (mem 0 6), .ref (ad 6), .ref (ad 7), .int v, .ref (ad 8), .int (mem 0 11), .int (mem 0 12), .ref (ad 9), .ref (ad 10), .ref (ad 11), .ref (ad 12), .ref (ad 13), .int (mem 0 18), .ref (ad 14), .int (mem 0 20), .int (mem 0 21), .ref (ad 15), .ref (ad 16), .ref (ad 17), .int (mem 0 25), .ref (ad 18), .ref (ad 19), .ref (ad 20), .ref (ad 21), .ref (ad 22), .int (mem 0 31), .ref (ad 23), .int (mem 0 33), .ref (ad 24), .ref (ad 25), .ref (ad 26), .ref (ad 27), .ref (ad 28)])) = wM g ad (up2 mem 0 9 v) := rfl
theorem wM_s0_11 {g : gG} {ad : Nat → Nat} {mem : Mem} {v : Int32} : (wM g ad mem).set 0 (ad 0, .inr (9, [.int (mem 0 0), .ref (ad 1), .ref (ad 2), .ref (ad 3), .ref (ad 4), .ref (ad 5), .int (mem 0 6), .ref (ad 6), .ref (ad 7), .int (mem 0 9), .ref (ad 8), .int v, .int (mem 0 12), .ref (ad 9), .ref (ad 10), .ref (ad 11), .ref (ad 12), .ref (ad 13), .int (mem 0 18), .ref (ad 14), .int (mem 0 20), .int (mem 0 21), .ref (ad 15), .ref (ad 16), .ref (ad 17), .int (mem 0 25), .ref (ad 18), .ref (ad 19), .ref (ad 20), .ref (ad 21), .ref (ad 22), .int (mem 0 31), .ref (ad 23), .int (mem 0 33), .ref (ad 24), .ref (ad 25), .ref (ad 26), .ref (ad 27), .ref (ad 28)])) = wM g ad (up2 mem 0 11 v) := rfl
theorem wM_s0_12 {g : gG} {ad : Nat → Nat} {mem : Mem} {v : Int32} : (wM g ad mem).set 0 (ad 0, .inr (9, [.int (mem 0 0), .ref (ad 1), .ref (ad 2), .ref (ad 3), .ref (ad 4), .ref (ad 5), .int (mem 0 6), .ref (ad 6), .ref (ad 7), .int (mem 0 9), .ref (ad 8), .int (mem 0 11), .int v, .ref (ad 9), .ref (ad 10), .ref (ad 11), .ref (ad 12), .ref (ad 13), .int (mem 0 18), .ref (ad 14), .int (mem 0 20), .int (mem 0 21), .ref (ad 15), .ref (ad 16), .ref (ad 17), .int (mem 0 25), .ref (ad 18), .ref (ad 19), .ref (ad 20), .ref (ad 21), .ref (ad 22), .int (mem 0 31), .ref (ad 23), .int (mem 0 33), .ref (ad 24), .ref (ad 25), .ref (ad 26), .ref (ad 27), .ref (ad 28)])) = wM g ad (up2 mem 0 12 v) := rfl
theorem wM_s0_18 {g : gG} {ad : Nat → Nat} {mem : Mem} {v : Int32} : (wM g ad mem).set 0 (ad 0, .inr (9, [.int (mem 0 0), .ref (ad 1), .ref (ad 2), .ref (ad 3), .ref (ad 4), .ref (ad 5), .int (mem 0 6), .ref (ad 6), .ref (ad 7), .int (mem 0 9), .ref (ad 8), .int (mem 0 11), .int (mem 0 12), .ref (ad 9), .ref (ad 10), .ref (ad 11), .ref (ad 12), .ref (ad 13), .int v, .ref (ad 14), .int (mem 0 20), .int (mem 0 21), .ref (ad 15), .ref (ad 16), .ref (ad 17), .int (mem 0 25), .ref (ad 18), .ref (ad 19), .ref (ad 20), .ref (ad 21), .ref (ad 22), .int (mem 0 31), .ref (ad 23), .int (mem 0 33), .ref (ad 24), .ref (ad 25), .ref (ad 26), .ref (ad 27), .ref (ad 28)])) = wM g ad (up2 mem 0 18 v) := rfl
theorem wM_s0_20 {g : gG} {ad : Nat → Nat} {mem : Mem} {v : Int32} : (wM g ad mem).set 0 (ad 0, .inr (9, [.int (mem 0 0), .ref (ad 1), .ref (ad 2), .ref (ad 3), .ref (ad 4), .ref (ad 5), .int (mem 0 6), .ref (ad 6), .ref (ad 7), .int (mem 0 9), .ref (ad 8), .int (mem 0 11), .int (mem 0 12), .ref (ad 9), .ref (ad 10), .ref (ad 11), .ref (ad 12), .ref (ad 13), .int (mem 0 18), .ref (ad 14), .int v, .int (mem 0 21), .ref (ad 15), .ref (ad 16), .ref (ad 17), .int (mem 0 25), .ref (ad 18), .ref (ad 19), .ref (ad 20), .ref (ad 21), .ref (ad 22), .int (mem 0 31), .ref (ad 23), .int (mem 0 33), .ref (ad 24), .ref (ad 25), .ref (ad 26), .ref (ad 27), .ref (ad 28)])) = wM g ad (up2 mem 0 20 v) := rfl
theorem wM_s0_21 {g : gG} {ad : Nat → Nat} {mem : Mem} {v : Int32} : (wM g ad mem).set 0 (ad 0, .inr (9, [.int (mem 0 0), .ref (ad 1), .ref (ad 2), .ref (ad 3), .ref (ad 4), .ref (ad 5), .int (mem 0 6), .ref (ad 6), .ref (ad 7), .int (mem 0 9), .ref (ad 8), .int (mem 0 11), .int (mem 0 12), .ref (ad 9), .ref (ad 10), .ref (ad 11), .ref (ad 12), .ref (ad 13), .int (mem 0 18), .ref (ad 14), .int (mem 0 20), .int v, .ref (ad 15), .ref (ad 16), .ref (ad 17), .int (mem 0 25), .ref (ad 18), .ref (ad 19), .ref (ad 20), .ref (ad 21), .ref (ad 22), .int (mem 0 31), .ref (ad 23), .int (mem 0 33), .ref (ad 24), .ref (ad 25), .ref (ad 26), .ref (ad 27), .ref (ad 28)])) = wM g ad (up2 mem 0 21 v) := rfl
theorem wM_s0_25 {g : gG} {ad : Nat → Nat} {mem : Mem} {v : Int32} : (wM g ad mem).set 0 (ad 0, .inr (9, [.int (mem 0 0), .ref (ad 1), .ref (ad 2), .ref (ad 3), .ref (ad 4), .ref (ad 5), .int (mem 0 6), .ref (ad 6), .ref (ad 7), .int (mem 0 9), .ref (ad 8), .int (mem 0 11), .int (mem 0 12), .ref (ad 9), .ref (ad 10), .ref (ad 11), .ref (ad 12), .ref (ad 13), .int (mem 0 18), .ref (ad 14), .int (mem 0 20), .int (mem 0 21), .ref (ad 15), .ref (ad 16), .ref (ad 17), .int v, .ref (ad 18), .ref (ad 19), .ref (ad 20), .ref (ad 21), .ref (ad 22), .int (mem 0 31), .ref (ad 23), .int (mem 0 33), .ref (ad 24), .ref (ad 25), .ref (ad 26), .ref (ad 27), .ref (ad 28)])) = wM g ad (up2 mem 0 25 v) := rfl
theorem wM_s0_31 {g : gG} {ad : Nat → Nat} {mem : Mem} {v : Int32} : (wM g ad mem).set 0 (ad 0, .inr (9, [.int (mem 0 0), .ref (ad 1), .ref (ad 2), .ref (ad 3), .ref (ad 4), .ref (ad 5), .int (mem 0 6), .ref (ad 6), .ref (ad 7), .int (mem 0 9), .ref (ad 8), .int (mem 0 11), .int (mem 0 12), .ref (ad 9), .ref (ad 10), .ref (ad 11), .ref (ad 12), .ref (ad 13), .int (mem 0 18), .ref (ad 14), .int (mem 0 20), .int (mem 0 21), .ref (ad 15), .ref (ad 16), .ref (ad 17), .int (mem 0 25), .ref (ad 18), .ref (ad 19), .ref (ad 20), .ref (ad 21), .ref (ad 22), .int v, .ref (ad 23), .int (mem 0 33), .ref (ad 24), .ref (ad 25), .ref (ad 26), .ref (ad 27), .ref (ad 28)])) = wM g ad (up2 mem 0 31 v) := rfl
theorem wM_s0_33 {g : gG} {ad : Nat → Nat} {mem : Mem} {v : Int32} : (wM g ad mem).set 0 (ad 0, .inr (9, [.int (mem 0 0), .ref (ad 1), .ref (ad 2), .ref (ad 3), .ref (ad 4), .ref (ad 5), .int (mem 0 6), .ref (ad 6), .ref (ad 7), .int (mem 0 9), .ref (ad 8), .int (mem 0 11), .int (mem 0 12), .ref (ad 9), .ref (ad 10), .ref (ad 11), .ref (ad 12), .ref (ad 13), .int (mem 0 18), .ref (ad 14), .int (mem 0 20), .int (mem 0 21), .ref (ad 15), .ref (ad 16), .ref (ad 17), .int (mem 0 25), .ref (ad 18), .ref (ad 19), .ref (ad 20), .ref (ad 21), .ref (ad 22), .int (mem 0 31), .ref (ad 23), .int v, .ref (ad 24), .ref (ad 25), .ref (ad 26), .ref (ad 27), .ref (ad 28)])) = wM g ad (up2 mem 0 33 v) := rfl
theorem wM_1 {g : gG} {ad : Nat → Nat} {mem : Mem} : (wM g ad mem)[1]? = some (ad 1, .inl (g.2.1, 10, .inl (mem 1))) := rfl
theorem wM_s1 {g : gG} {ad : Nat → Nat} {mem : Mem} {f : Nat → Int32} : (wM g ad mem).set 1 (ad 1, .inl (g.2.1, 10, .inl f)) = wM g ad (upc mem 1 f) := rfl
theorem wM_2 {g : gG} {ad : Nat → Nat} {mem : Mem} : (wM g ad mem)[2]? = some (ad 2, .inl (g.2.1, 10, .inl (mem 2))) := rfl
theorem wM_s2 {g : gG} {ad : Nat → Nat} {mem : Mem} {f : Nat → Int32} : (wM g ad mem).set 2 (ad 2, .inl (g.2.1, 10, .inl f)) = wM g ad (upc mem 2 f) := rfl
theorem wM_3 {g : gG} {ad : Nat → Nat} {mem : Mem} : (wM g ad mem)[3]? = some (ad 3, .inl (g.2.2.1, 10, .inl (mem 3))) := rfl
theorem wM_s3 {g : gG} {ad : Nat → Nat} {mem : Mem} {f : Nat → Int32} : (wM g ad mem).set 3 (ad 3, .inl (g.2.2.1, 10, .inl f)) = wM g ad (upc mem 3 f) := rfl
theorem wM_4 {g : gG} {ad : Nat → Nat} {mem : Mem} : (wM g ad mem)[4]? = some (ad 4, .inl (g.2.1, 10, .inl (mem 4))) := rfl
theorem wM_s4 {g : gG} {ad : Nat → Nat} {mem : Mem} {f : Nat → Int32} : (wM g ad mem).set 4 (ad 4, .inl (g.2.1, 10, .inl f)) = wM g ad (upc mem 4 f) := rfl
theorem wM_5 {g : gG} {ad : Nat → Nat} {mem : Mem} : (wM g ad mem)[5]? = some (ad 5, .inl (g.2.1, 10, .inl (mem 5))) := rfl
theorem wM_s5 {g : gG} {ad : Nat → Nat} {mem : Mem} {f : Nat → Int32} : (wM g ad mem).set 5 (ad 5, .inl (g.2.1, 10, .inl f)) = wM g ad (upc mem 5 f) := rfl
theorem wM_6 {g : gG} {ad : Nat → Nat} {mem : Mem} : (wM g ad mem)[6]? = some (ad 6, .inl (g.2.1, 20, .inl (mem 6))) := rfl
theorem wM_s6 {g : gG} {ad : Nat → Nat} {mem : Mem} {f : Nat → Int32} : (wM g ad mem).set 6 (ad 6, .inl (g.2.1, 20, .inl f)) = wM g ad (upc mem 6 f) := rfl
theorem wM_7 {g : gG} {ad : Nat → Nat} {mem : Mem} : (wM g ad mem)[7]? = some (ad 7, .inl (g.2.1, 20, .inl (mem 7))) := rfl
theorem wM_s7 {g : gG} {ad : Nat → Nat} {mem : Mem} {f : Nat → Int32} : (wM g ad mem).set 7 (ad 7, .inl (g.2.1, 20, .inl f)) = wM g ad (upc mem 7 f) := rfl
theorem wM_8 {g : gG} {ad : Nat → Nat} {mem : Mem} : (wM g ad mem)[8]? = some (ad 8, .inl (g.2.1, 6, .inl (mem 8))) := rfl
theorem wM_s8 {g : gG} {ad : Nat → Nat} {mem : Mem} {f : Nat → Int32} : (wM g ad mem).set 8 (ad 8, .inl (g.2.1, 6, .inl f)) = wM g ad (upc mem 8 f) := rfl
theorem wM_9 {g : gG} {ad : Nat → Nat} {mem : Mem} : (wM g ad mem)[9]? = some (ad 9, .inl (g.2.1, 5, .inl (mem 9))) := rfl
theorem wM_s9 {g : gG} {ad : Nat → Nat} {mem : Mem} {f : Nat → Int32} : (wM g ad mem).set 9 (ad 9, .inl (g.2.1, 5, .inl f)) = wM g ad (upc mem 9 f) := rfl
theorem wM_10 {g : gG} {ad : Nat → Nat} {mem : Mem} : (wM g ad mem)[10]? = some (ad 10, .inl (g.2.1, 5, .inl (mem 10))) := rfl
theorem wM_s10 {g : gG} {ad : Nat → Nat} {mem : Mem} {f : Nat → Int32} : (wM g ad mem).set 10 (ad 10, .inl (g.2.1, 5, .inl f)) = wM g ad (upc mem 10 f) := rfl
theorem wM_11 {g : gG} {ad : Nat → Nat} {mem : Mem} : (wM g ad mem)[11]? = some (ad 11, .inl (g.2.1, 5, .inl (mem 11))) := rfl
theorem wM_s11 {g : gG} {ad : Nat → Nat} {mem : Mem} {f : Nat → Int32} : (wM g ad mem).set 11 (ad 11, .inl (g.2.1, 5, .inl f)) = wM g ad (upc mem 11 f) := rfl
theorem wM_12 {g : gG} {ad : Nat → Nat} {mem : Mem} : (wM g ad mem)[12]? = some (ad 12, .inl (g.2.1, 5, .inl (mem 12))) := rfl
theorem wM_s12 {g : gG} {ad : Nat → Nat} {mem : Mem} {f : Nat → Int32} : (wM g ad mem).set 12 (ad 12, .inl (g.2.1, 5, .inl f)) = wM g ad (upc mem 12 f) := rfl
theorem wM_13 {g : gG} {ad : Nat → Nat} {mem : Mem} : (wM g ad mem)[13]? = some (ad 13, .inl (g.2.1, 3, .inl (mem 13))) := rfl
theorem wM_s13 {g : gG} {ad : Nat → Nat} {mem : Mem} {f : Nat → Int32} : (wM g ad mem).set 13 (ad 13, .inl (g.2.1, 3, .inl f)) = wM g ad (upc mem 13 f) := rfl
theorem wM_14 {g : gG} {ad : Nat → Nat} {mem : Mem} : (wM g ad mem)[14]? = some (ad 14, .inl (g.2.1, 10, .inl (mem 14))) := rfl
theorem wM_s14 {g : gG} {ad : Nat → Nat} {mem : Mem} {f : Nat → Int32} : (wM g ad mem).set 14 (ad 14, .inl (g.2.1, 10, .inl f)) = wM g ad (upc mem 14 f) := rfl
theorem wM_15 {g : gG} {ad : Nat → Nat} {mem : Mem} : (wM g ad mem)[15]? = some (ad 15, .inl (g.2.1, 100, .inl (mem 15))) := rfl
theorem wM_s15 {g : gG} {ad : Nat → Nat} {mem : Mem} {f : Nat → Int32} : (wM g ad mem).set 15 (ad 15, .inl (g.2.1, 100, .inl f)) = wM g ad (upc mem 15 f) := rfl
theorem wM_16 {g : gG} {ad : Nat → Nat} {mem : Mem} : (wM g ad mem)[16]? = some (ad 16, .inl (g.2.1, 100, .inl (mem 16))) := rfl
theorem wM_s16 {g : gG} {ad : Nat → Nat} {mem : Mem} {f : Nat → Int32} : (wM g ad mem).set 16 (ad 16, .inl (g.2.1, 100, .inl f)) = wM g ad (upc mem 16 f) := rfl
theorem wM_17 {g : gG} {ad : Nat → Nat} {mem : Mem} : (wM g ad mem)[17]? = some (ad 17, .inl (g.2.1, 100, .inl (mem 17))) := rfl
theorem wM_s17 {g : gG} {ad : Nat → Nat} {mem : Mem} {f : Nat → Int32} : (wM g ad mem).set 17 (ad 17, .inl (g.2.1, 100, .inl f)) = wM g ad (upc mem 17 f) := rfl
theorem wM_18 {g : gG} {ad : Nat → Nat} {mem : Mem} : (wM g ad mem)[18]? = some (ad 18, .inl (g.2.1, 41, .inl (mem 18))) := rfl
theorem wM_s18 {g : gG} {ad : Nat → Nat} {mem : Mem} {f : Nat → Int32} : (wM g ad mem).set 18 (ad 18, .inl (g.2.1, 41, .inl f)) = wM g ad (upc mem 18 f) := rfl
theorem wM_19 {g : gG} {ad : Nat → Nat} {mem : Mem} : (wM g ad mem)[19]? = some (ad 19, .inl (g.2.1, 41, .inl (mem 19))) := rfl
theorem wM_s19 {g : gG} {ad : Nat → Nat} {mem : Mem} {f : Nat → Int32} : (wM g ad mem).set 19 (ad 19, .inl (g.2.1, 41, .inl f)) = wM g ad (upc mem 19 f) := rfl
theorem wM_20 {g : gG} {ad : Nat → Nat} {mem : Mem} : (wM g ad mem)[20]? = some (ad 20, .inl (g.2.1, 4, .inl (mem 20))) := rfl
theorem wM_s20 {g : gG} {ad : Nat → Nat} {mem : Mem} {f : Nat → Int32} : (wM g ad mem).set 20 (ad 20, .inl (g.2.1, 4, .inl f)) = wM g ad (upc mem 20 f) := rfl
theorem wM_21 {g : gG} {ad : Nat → Nat} {mem : Mem} : (wM g ad mem)[21]? = some (ad 21, .inl (g.2.1, 4, .inl (mem 21))) := rfl
theorem wM_s21 {g : gG} {ad : Nat → Nat} {mem : Mem} {f : Nat → Int32} : (wM g ad mem).set 21 (ad 21, .inl (g.2.1, 4, .inl f)) = wM g ad (upc mem 21 f) := rfl
theorem wM_22 {g : gG} {ad : Nat → Nat} {mem : Mem} : (wM g ad mem)[22]? = some (ad 22, .inl (g.2.1, 48, .inl (mem 22))) := rfl
theorem wM_s22 {g : gG} {ad : Nat → Nat} {mem : Mem} {f : Nat → Int32} : (wM g ad mem).set 22 (ad 22, .inl (g.2.1, 48, .inl f)) = wM g ad (upc mem 22 f) := rfl
theorem wM_23 {g : gG} {ad : Nat → Nat} {mem : Mem} : (wM g ad mem)[23]? = some (ad 23, .inl (g.2.1, 20, .inl (mem 23))) := rfl
theorem wM_s23 {g : gG} {ad : Nat → Nat} {mem : Mem} {f : Nat → Int32} : (wM g ad mem).set 23 (ad 23, .inl (g.2.1, 20, .inl f)) = wM g ad (upc mem 23 f) := rfl
theorem wM_24 {g : gG} {ad : Nat → Nat} {mem : Mem} : (wM g ad mem)[24]? = some (ad 24, .inl (g.2.1, 20, .inl (mem 24))) := rfl
theorem wM_s24 {g : gG} {ad : Nat → Nat} {mem : Mem} {f : Nat → Int32} : (wM g ad mem).set 24 (ad 24, .inl (g.2.1, 20, .inl f)) = wM g ad (upc mem 24 f) := rfl
theorem wM_25 {g : gG} {ad : Nat → Nat} {mem : Mem} : (wM g ad mem)[25]? = some (ad 25, .inl (g.2.1, 20, .inl (mem 25))) := rfl
theorem wM_s25 {g : gG} {ad : Nat → Nat} {mem : Mem} {f : Nat → Int32} : (wM g ad mem).set 25 (ad 25, .inl (g.2.1, 20, .inl f)) = wM g ad (upc mem 25 f) := rfl
theorem wM_26 {g : gG} {ad : Nat → Nat} {mem : Mem} : (wM g ad mem)[26]? = some (ad 26, .inl (g.2.1, 10, .inl (mem 26))) := rfl
theorem wM_s26 {g : gG} {ad : Nat → Nat} {mem : Mem} {f : Nat → Int32} : (wM g ad mem).set 26 (ad 26, .inl (g.2.1, 10, .inl f)) = wM g ad (upc mem 26 f) := rfl
theorem wM_27 {g : gG} {ad : Nat → Nat} {mem : Mem} : (wM g ad mem)[27]? = some (ad 27, .inl (g.2.1, 10, .inl (mem 27))) := rfl
theorem wM_s27 {g : gG} {ad : Nat → Nat} {mem : Mem} {f : Nat → Int32} : (wM g ad mem).set 27 (ad 27, .inl (g.2.1, 10, .inl f)) = wM g ad (upc mem 27 f) := rfl
theorem wM_28 {g : gG} {ad : Nat → Nat} {mem : Mem} : (wM g ad mem)[28]? = some (ad 28, .inl (g.2.1, 12, .inl (mem 28))) := rfl
theorem wM_s28 {g : gG} {ad : Nat → Nat} {mem : Mem} {f : Nat → Int32} : (wM g ad mem).set 28 (ad 28, .inl (g.2.1, 12, .inl f)) = wM g ad (upc mem 28 f) := rfl
theorem wM_fst {g : gG} {ad : Nat → Nat} {mem : Mem} : (wM g ad mem).map Prod.fst = (List.range 29).map ad := rfl
theorem wM_D {g : gG} {ad : Nat → Nat} {mem : Mem} (h : Apt 29 ad) : va_D (AW 29 ad) (wM g ad mem) := wD_of wM_fst h
abbrev isSt (k : Nat) : Prop := k = 5 ∨ k = 11
theorem wX_St {g : gG} {ad : Nat → Nat} {mem : Mem} {k : Nat} (hk : isSt k) : (wX g ad mem)[k]? = some (ad k, .inr (7, [.ref (ad 1), .ref (ad (k + 1)), .ref (ad (k + 2)), .ref (ad (k + 3)), .ref (ad (k + 4)), .ref (ad (k + 5)), .int (mem k 6), .int (mem k 7)])) := by
  rcases hk with rfl | rfl <;> rfl
theorem wX_St_1 {g : gG} {ad : Nat → Nat} {mem : Mem} {k : Nat} (hk : isSt k) : (wX g ad mem)[k + 1]? = some (ad (k + 1), .inl (g.2.1, 20, .inl (mem (k + 1)))) := by
  rcases hk with rfl | rfl <;> rfl
theorem wX_St_s1 {g : gG} {ad : Nat → Nat} {mem : Mem} {k : Nat} {f : Nat → Int32} (hk : isSt k) : (wX g ad mem).set (k + 1) (ad (k + 1), .inl (g.2.1, 20, .inl f)) = wX g ad (upc mem (k + 1) f) := by
  rcases hk with rfl | rfl <;> rfl
theorem wX_St_2 {g : gG} {ad : Nat → Nat} {mem : Mem} {k : Nat} (hk : isSt k) : (wX g ad mem)[k + 2]? = some (ad (k + 2), .inl (g.2.1, 20, .inl (mem (k + 2)))) := by
  rcases hk with rfl | rfl <;> rfl
theorem wX_St_s2 {g : gG} {ad : Nat → Nat} {mem : Mem} {k : Nat} {f : Nat → Int32} (hk : isSt k) : (wX g ad mem).set (k + 2) (ad (k + 2), .inl (g.2.1, 20, .inl f)) = wX g ad (upc mem (k + 2) f) := by
  rcases hk with rfl | rfl <;> rfl
theorem wX_St_3 {g : gG} {ad : Nat → Nat} {mem : Mem} {k : Nat} (hk : isSt k) : (wX g ad mem)[k + 3]? = some (ad (k + 3), .inl (g.2.1, 10, .inl (mem (k + 3)))) := by
  rcases hk with rfl | rfl <;> rfl
theorem wX_St_s3 {g : gG} {ad : Nat → Nat} {mem : Mem} {k : Nat} {f : Nat → Int32} (hk : isSt k) : (wX g ad mem).set (k + 3) (ad (k + 3), .inl (g.2.1, 10, .inl f)) = wX g ad (upc mem (k + 3) f) := by
  rcases hk with rfl | rfl <;> rfl
theorem wX_St_4 {g : gG} {ad : Nat → Nat} {mem : Mem} {k : Nat} (hk : isSt k) : (wX g ad mem)[k + 4]? = some (ad (k + 4), .inl (g.2.1, 10, .inl (mem (k + 4)))) := by
  rcases hk with rfl | rfl <;> rfl
theorem wX_St_s4 {g : gG} {ad : Nat → Nat} {mem : Mem} {k : Nat} {f : Nat → Int32} (hk : isSt k) : (wX g ad mem).set (k + 4) (ad (k + 4), .inl (g.2.1, 10, .inl f)) = wX g ad (upc mem (k + 4) f) := by
  rcases hk with rfl | rfl <;> rfl
theorem wX_St_5 {g : gG} {ad : Nat → Nat} {mem : Mem} {k : Nat} (hk : isSt k) : (wX g ad mem)[k + 5]? = some (ad (k + 5), .inl (g.2.1, 5, .inl (mem (k + 5)))) := by
  rcases hk with rfl | rfl <;> rfl
theorem wX_St_s5 {g : gG} {ad : Nat → Nat} {mem : Mem} {k : Nat} {f : Nat → Int32} (hk : isSt k) : (wX g ad mem).set (k + 5) (ad (k + 5), .inl (g.2.1, 5, .inl f)) = wX g ad (upc mem (k + 5) f) := by
  rcases hk with rfl | rfl <;> rfl
theorem wX_St_s_6 {g : gG} {ad : Nat → Nat} {mem : Mem} {k : Nat} {v : Int32} (hk : isSt k) : (wX g ad mem).set k (ad k, .inr (7, [.ref (ad 1), .ref (ad (k + 1)), .ref (ad (k + 2)), .ref (ad (k + 3)), .ref (ad (k + 4)), .ref (ad (k + 5)), .int v, .int (mem k 7)])) = wX g ad (up2 mem k 6 v) := by
  rcases hk with rfl | rfl <;> rfl
theorem wX_St_s_7 {g : gG} {ad : Nat → Nat} {mem : Mem} {k : Nat} {v : Int32} (hk : isSt k) : (wX g ad mem).set k (ad k, .inr (7, [.ref (ad 1), .ref (ad (k + 1)), .ref (ad (k + 2)), .ref (ad (k + 3)), .ref (ad (k + 4)), .ref (ad (k + 5)), .int (mem k 6), .int v])) = wX g ad (up2 mem k 7 v) := by
  rcases hk with rfl | rfl <;> rfl
abbrev isSh (k : Nat) : Prop := k = 36 ∨ k = 38 ∨ k = 40 ∨ k = 42
theorem wX_Sh {g : gG} {ad : Nat → Nat} {mem : Mem} {k : Nat} (hk : isSh k) : (wX g ad mem)[k]? = some (ad k, .inr (6, [.ref (ad (k + 1)), .int (mem k 1), .int (mem k 2)])) := by
  rcases hk with rfl | rfl | rfl | rfl <;> rfl
theorem wX_Sh_1 {g : gG} {ad : Nat → Nat} {mem : Mem} {k : Nat} (hk : isSh k) : (wX g ad mem)[k + 1]? = some (ad (k + 1), .inl (g.2.1, 12, .inl (mem (k + 1)))) := by
  rcases hk with rfl | rfl | rfl | rfl <;> rfl
theorem wX_Sh_s1 {g : gG} {ad : Nat → Nat} {mem : Mem} {k : Nat} {f : Nat → Int32} (hk : isSh k) : (wX g ad mem).set (k + 1) (ad (k + 1), .inl (g.2.1, 12, .inl f)) = wX g ad (upc mem (k + 1) f) := by
  rcases hk with rfl | rfl | rfl | rfl <;> rfl
theorem wX_Sh_s_1 {g : gG} {ad : Nat → Nat} {mem : Mem} {k : Nat} {v : Int32} (hk : isSh k) : (wX g ad mem).set k (ad k, .inr (6, [.ref (ad (k + 1)), .int v, .int (mem k 2)])) = wX g ad (up2 mem k 1 v) := by
  rcases hk with rfl | rfl | rfl | rfl <;> rfl
theorem wX_Sh_s_2 {g : gG} {ad : Nat → Nat} {mem : Mem} {k : Nat} {v : Int32} (hk : isSh k) : (wX g ad mem).set k (ad k, .inr (6, [.ref (ad (k + 1)), .int (mem k 1), .int v])) = wX g ad (up2 mem k 2 v) := by
  rcases hk with rfl | rfl | rfl | rfl <;> rfl

/-- KIND_ABOVE -/
def kab : Nat → Int32 := fun j => if j = 3 then 1 else 0
def eX (g : gG) (ad : Nat → Nat) (tk : Nat) (U : State) : Prop :=
  va_K g.1 vwCl (tyG g) U ∧ (∀ w ∈ nw, va_Nw w U) ∧ Apt 44 ad ∧ va_Z "SpeakHall$Roster" "KIND_ABOVE" "[I" (.ref tk) (AW 44 ad) U U.heap ∧ va_X tk 4 kab U U.heap ∧ ¬ AW 44 ad tk
def eM (g : gG) (ad : Nat → Nat) (U : State) : Prop := va_K g.1 vwCl (tyG g) U ∧ Apt 29 ad
/-- what of a state stays good when the machine goes on, and the heap changes in A alone -/
def Est (A : Nat → Prop) (E : State → Prop) : Prop := ∀ u U : State, u.WarmedH U.vm → u.heap.size ≤ U.heap.size → (∀ q : Nat, q < u.heap.size → ¬ A q → U.heap[q]? = u.heap[q]?) → E u → E U
theorem nw_meth : ∀ w ∈ nw, ∃ a i x h, w = Cond.methodLinkNest a i x h := by
  unfold nw
  simp only [List.forall_mem_cons]
  repeat' first | exact fun _ h => absurd h List.not_mem_nil | refine ⟨⟨_, _, _, _, rfl⟩, ?_⟩
theorem va_X_lt {b L : Nat} {xs : Nat → Int32} {U : State} {H : Heap} (h : va_X b L xs U H) : b < H.size := by
  obtain ⟨scr, h1, -⟩ := h
  exact (Array.getElem?_eq_some_iff.mp h1).1
theorem eX_st {g : gG} {ad : Nat → Nat} {tk : Nat} : Est (AW 44 ad) (eX g ad tk) := by
  intro u U hW hz hq h
  obtain ⟨hK, hN, hA, hZ, hX, ht⟩ := h
  refine ⟨va_K.moved hW.alike hK, fun w hw => ?_, hA, va_Z.moved hW.alike (hZ.kept (fun a h1 h2 => hq a h1 h2)), va_X.moved hW.alike (hX.kept (hq tk (va_X_lt hX) ht)), ht⟩
  obtain ⟨a, i, x, h, rfl⟩ := nw_meth w hw
  exact va_Nw.warmM hW (hN _ hw)
theorem eM_st {g : gG} {ad : Nat → Nat} : Est (AW 29 ad) (eM g ad) := by
  intro u U hW hz hq h
  exact ⟨va_K.moved hW.alike h.1, h.2⟩
/-- contracts: a start over a world, an end that leaves the heap, an end with a new world -/
def pG (w : va_W) (E : State → Prop) (g : gG) (av : List Value) : Array Value → State → Prop := fun v U => v = av.toArray ∧ va_P g.1 vwCl w U.heap ∧ E U
def qR (rv : Option Value) (ok : Prop) : Array Value → State → Outcome → State → Prop := fun _ st oc t => oc = .returned rv ∧ ok ∧ t.heap = st.heap
def qW (w : va_W) (g : gG) (A : Nat → Prop) (rv : Option Value) (ok : Prop) : Array Value → State → Outcome → State → Prop := fun _ st oc t => oc = .returned rv ∧ ok ∧ va_P g.1 vwCl w t.heap ∧ va_F A st t
def noA : Addr → Prop := fun _ => False
def cxt (E : State → Prop) (cc : ByteArray) (nL : Nat) (own : String) (ret : Option FieldType) (p : Program) (s : State) (m : MethodId) (args : Array Value) (meth : Method) (c : Code) : Prop :=
  p.tables.exec = Jvm.exec ∧ c.code = cc ∧ c.maxLocals = nL ∧ s.vm.findClass own = some m.cls ∧ (∀ w ∈ gw, w.before args s = true) ∧ meth.sig.returnType = ret ∧ meth.locks = false ∧ E s
theorem met_of {l : Launch} {w : va_W} {E : State → Prop} {g : gG} {av : List Value} {y : MethodName} {cc : ByteArray} {nL : Nat} {ret : Option FieldType} {rm : Room} {Qc : Array Value → State → Outcome → State → Prop} {free : Addr → Prop} (hy : plainName y.cls = true) (hav : (lg_sl av).length ≤ nL)
    (body : ∀ (p : Program) (e : Env) (s : State) (m : MethodId) (args : Array Value) (below : List Frame) (meth : Method) (c : Code) (ls : Array Slot), cxt E cc nL y.cls ret p s m args meth c → va_P g.1 vwCl w s.heap → lv_has ls nL (lv_args 0 av) → W p l e rm s m args below meth c s.heap [] 0 0 (MQ below Qc args s 0 0 free) (F0 m 0 ls [])) :
    Met l y (Cond.code y cc nL ret :: gw) rm (pG w E g av) Qc 0 0 free := by
  refine Met.ofW (cc := cc) (maxL := nL) (ret := ret) hy rfl ?_
  intro p e s m args below meth c s₁ B hml hv
  obtain ⟨rfl, hP, hE⟩ := hv
  have hts := atoms_spec (ws := Cond.code y cc nL ret :: gw) B.pre
  rw [lg_entry_eq]
  exact body p e s m _ below meth c _ ⟨B.exec, B.bytes, hml, findClass_of_methodNamed B.named, fun w h => hts w (List.mem_cons_of_mem _ h), B.returns, B.notSynchronized, hE⟩ hP (lv_entry av hav)
def pkV (y : MethodName) (bytes : ByteArray) (maxL : Nat) (ret : Option FieldType) (C : String) (n : Nat) : Prop :=
  Cond.instanceMethod y ∈ gw ∧ Cond.selects C y y ∈ gw ∧ Cond.initialized y.cls ∈ gw ∧ Cond.code y bytes maxL ret ∈ gw ∧ (y.cls ≠ "java/lang/invoke/MethodHandle" ∧ y.cls ≠ "java/lang/invoke/VarHandle" ∧ (parseMethodDescriptor y.desc).map (fun d => d.parameters.length) = some n)
def pkS (y : MethodName) (bytes : ByteArray) (maxL : Nat) (ret : Option FieldType) (n : Nat) : Prop :=
  Cond.static y ∈ gw ∧ Cond.initialized y.cls ∈ gw ∧ Cond.code y bytes maxL ret ∈ gw ∧ (y.cls ≠ "java/lang/invoke/MethodHandle" ∧ y.cls ≠ "java/lang/invoke/VarHandle" ∧ (parseMethodDescriptor y.desc).map (fun d => d.parameters.length) = some n)
theorem gw_goodIn {w : Cond} (h : w ∈ gw) : GoodIn gw (w :: gw) := by
  intro x hx
  have hm : x ∈ gw := (List.mem_cons.mp hx).elim (fun e => e ▸ h) id
  exact ⟨hm, good_of_word (gw_good hm)⟩
theorem pG_blind {A : Nat → Prop} {w : va_W} {E : State → Prop} {g : gG} {av : List Value} (hE : Est A E) : FrameBlind (pG w E g av) := by
  intro a U f mk h
  exact ⟨h.1, h.2.1, hE U (U.calling f mk a) (State.WarmedH.refl U) (Nat.le_refl _) (fun _ _ _ => rfl) h.2.2⟩
section CALLS
variable {p : Program} {l : Launch} {e : Env} {R : Room} {s : State} {m : MethodId} {args : Array Value} {below : List Frame} {meth : Method} {c : Code} {H : Heap} {locs : List Loc} {cells slots : Nat} {Q : State → Prop}
variable {E E' : State → Prop} {A : Nat → Prop} {cc bytes : ByteArray} {nL maxL n index pc : Nat} {own C host : String} {ret ret' : Option FieldType} {g : gG} {w w' : va_W} {y : MethodName} {rm : Room} {As rest st0 : List Value} {b : Nat} {rv : Option Value} {ok : Prop} {ls : Array Slot}
theorem e_at (C0 : cxt E cc nL own ret p s m args meth c) (hE : Est A E) (hS : va_S A s.heap H locs) {U : State} (hU : U.heap = H) (hW : s.WarmedH U.vm) : E U :=
  hE s U hW (by rw [hU]; exact hS.1) (fun q h1 h2 => by rw [hU]; exact hS.2.1 q h1 h2) C0.2.2.2.2.2.2.2
/-- behind a call that leaves the heap -/
theorem go_R {st0 : List Value} (hr : va_Run p l e R s m args below meth c H locs cells slots 0 0 (F0 m pc ls st0) rest (qR rv ok #[]) noA)
    (kk : ok → W p l e R s m args below meth c H locs cells slots Q (F0 m (pc + 3) ls (rv.toList ++ rest))) : W p l e R s m args below meth c H locs cells slots Q (F0 m pc ls st0) := by
  intro T hT X
  obtain ⟨v, st₀, t, T', L, h0, X', hL, e1, e2, ⟨hv, hp, hh⟩, st⟩ := hr T hT X
  cases hv
  obtain ⟨t2, a1, b1⟩ := kk hp T' (by rw [e1, hh, h0]) (Stand.forget X' (fun q h => (hL q h).elim))
  exact ⟨t2, st t2 a1, b1⟩
/-- behind a call with a new world -/
theorem go_W {A1 : Nat → Prop} {st0 : List Value} (hr : va_Run p l e R s m args below meth c H locs cells slots 0 0 (F0 m pc ls st0) rest (qW w' g A1 rv ok #[]) A1) (hS : va_S A s.heap H locs) (hA : ∀ q, A1 q → A q)
    (kk : ∀ (H1 : Heap) (locs1 : List Loc), ok → va_P g.1 vwCl w' H1 → va_S A s.heap H1 locs1 → H.size ≤ H1.size → (∀ q : Nat, q < H.size → ¬ A1 q → H1[q]? = H[q]?) → W p l e R s m args below meth c H1 locs1 cells slots Q (F0 m (pc + 3) ls (rv.toList ++ rest))) : W p l e R s m args below meth c H locs cells slots Q (F0 m pc ls st0) := by
  intro T hT X
  obtain ⟨v, st₀, t, T', L, h0, X', hL, e1, e2, ⟨hv, hp, hPw, hz, hk⟩, st⟩ := hr T hT X
  cases hv
  rw [h0] at hz hk
  rw [← e1] at hz hk hPw
  obtain ⟨t2, a1, b1⟩ := kk T'.heap (locs ++ L) hp hPw ⟨Nat.le_trans hS.1 hz, fun q h1 h2 => by
      rw [hk q (Nat.lt_of_lt_of_le h1 hS.1) (fun z => h2 (hA q z))]; exact hS.2.1 q h1 h2, fun q hq => by
      rcases List.mem_append.mp hq with h | h
      · exact hS.2.2 q h
      · exact hA _ (hL q h)⟩ hz hk T' rfl X'
  exact ⟨t2, st t2 a1, b1⟩
theorem run_V {Qc : State → Outcome → State → Prop} {free : Addr → Prop} (C0 : cxt E cc nL own ret p s m args meth c) (hE' : FrameBlind (pG w E' g (.ref b :: As))) (hP : va_P g.1 vwCl w H) (hU : ∀ U : State, U.heap = H → s.WarmedH U.vm → E' U) (hK : va_K g.1 vwCl (tyG g) s)
    (pk : pkV y bytes maxL ret' C n) (hM : Met l y (Cond.code y bytes maxL ret' :: gw) rm (pG w E' g (.ref b :: As)) (fun _ => Qc) 0 0 free) (hL : Cond.methodLink own index y ∈ gw)
    (hR : rm.cells = 0 ∧ rm.slots = 0 ∧ rm.frames + 1 ≤ R.frames ∧ 8 + (maxL + 11) + rm.locals ≤ R.locals ∧ cells ≤ R.cells ∧ slots ≤ R.slots)
    (q0 : Nat) {ci : Nat} {fs : List Value} {q : vw_C} (he : w[q0]? = some (b, .inr (ci, fs))) (hc : vwCl[ci]? = some q) (hq : q.1 = C) (hn : As.length = n) (hsz : ls.size = nL) (hst : st0 = As.reverse ++ .ref b :: rest) (hcat : (rest.map fun v => v.category).sum ≤ 8)
    (hdg : decode cc pc = .ok (.invokevirtual index, 3)) : va_Run p l e R s m args below meth c H locs cells slots 0 0 (F0 m pc ls st0) rest Qc free := by
  obtain ⟨hx, hb, hml, hown, hts, -⟩ := C0
  obtain ⟨p1, p2, p3, p4, p5⟩ := pk
  obtain ⟨r1, r2, r3, r4, r5, r6⟩ := hR
  subst hq
  exact va_runV (Ts := gw) (As := As) (rest := rest) ⟨hx, hb, hml, hown, hts⟩ hM ⟨callB_of n hts (gw_goodIn p4) rfl r1 r2 (hts _ p3) (hts _ hL) p5 ⟨r3, r4⟩, hts _ p1, hts _ p2⟩
    ⟨hE', va_recv hK hP hc he, fun U hU1 hW => ⟨rfl, by rw [hU1]; exact hP, hU U hU1 hW⟩⟩ rfl hn hsz hst (by show 2 * 0 + _ ≤ 8; omega) hdg ⟨by omega, by omega⟩
theorem run_S {Qc : State → Outcome → State → Prop} {free : Addr → Prop} (C0 : cxt E cc nL own ret p s m args meth c) (hE' : FrameBlind (pG w E' g As)) (hP : va_P g.1 vwCl w H) (hU : ∀ U : State, U.heap = H → s.WarmedH U.vm → E' U)
    (pk : pkS y bytes maxL ret' n) (hM : Met l y (Cond.code y bytes maxL ret' :: gw) rm (pG w E' g As) (fun _ => Qc) 0 0 free) (hL : Cond.methodLink own index y ∈ gw)
    (hR : rm.cells = 0 ∧ rm.slots = 0 ∧ rm.frames + 1 ≤ R.frames ∧ 8 + (maxL + 11) + rm.locals ≤ R.locals ∧ cells ≤ R.cells ∧ slots ≤ R.slots)
    (hn : As.length = n) (hsz : ls.size = nL) (hst : st0 = As.reverse ++ rest) (hcat : (rest.map fun v => v.category).sum ≤ 8)
    (hdg : decode cc pc = .ok (.invokestatic index, 3)) : va_Run p l e R s m args below meth c H locs cells slots 0 0 (F0 m pc ls st0) rest Qc free := by
  obtain ⟨hx, hb, hml, hown, hts, -⟩ := C0
  obtain ⟨p1, p3, p4, p5⟩ := pk
  obtain ⟨r1, r2, r3, r4, r5, r6⟩ := hR
  exact va_runS (Ts := gw) (As := As) (rest := rest) ⟨hx, hb, hml, hown, hts⟩ hM ⟨callB_of n hts (gw_goodIn p4) rfl r1 r2 (hts _ p3) (hts _ hL) p5 ⟨r3, r4⟩, hts _ p1⟩
    ⟨hE', fun U hU1 hW => ⟨rfl, by rw [hU1]; exact hP, hU U hU1 hW⟩⟩ rfl hn hsz hst (by show 2 * 0 + _ ≤ 8; omega) hdg ⟨by omega, by omega⟩
theorem run_N {Qc : State → Outcome → State → Prop} {free : Addr → Prop} (C0 : cxt E cc nL own ret p s m args meth c) (hE' : FrameBlind (pG w E' g As)) (hP : va_P g.1 vwCl w H) (hU : ∀ U : State, U.heap = H → s.WarmedH U.vm → E' U) (hN : ∀ w ∈ nw, va_Nw w s)
    (pk : pkS y bytes maxL ret' n) (hM : Met l y (Cond.code y bytes maxL ret' :: gw) rm (pG w E' g As) (fun _ => Qc) 0 0 free) (hL : Cond.methodLinkNest own index y host ∈ nw)
    (hR : rm.cells = 0 ∧ rm.slots = 0 ∧ rm.frames + 1 ≤ R.frames ∧ 8 + (maxL + 11) + rm.locals ≤ R.locals ∧ cells ≤ R.cells ∧ slots ≤ R.slots)
    (hn : As.length = n) (hsz : ls.size = nL) (hst : st0 = As.reverse ++ rest) (hcat : (rest.map fun v => v.category).sum ≤ 8)
    (hdg : decode cc pc = .ok (.invokestatic index, 3)) : va_Run p l e R s m args below meth c H locs cells slots 0 0 (F0 m pc ls st0) rest Qc free := by
  obtain ⟨hx, hb, hml, hown, hts, -⟩ := C0
  obtain ⟨p1, p3, p4, p5⟩ := pk
  obtain ⟨r1, r2, r3, r4, r5, r6⟩ := hR
  exact va_runSN (Ts := gw) (As := As) (rest := rest) ⟨hx, hb, hml, hown, hts⟩ hM ⟨va_cnB n hts (gw_goodIn p4) rfl r1 r2 (hN _ hL) (hts _ p3) p5 ⟨r3, r4⟩, hts _ p1, trivial⟩
    ⟨hE', fun U hU1 hW => ⟨rfl, by rw [hU1]; exact hP, hU U hU1 hW⟩⟩ rfl hn hsz hst (by show 2 * 0 + _ ≤ 8; omega) hdg ⟨by omega, by omega⟩
/-- invokevirtual of a method over the same world: it leaves the heap -/
theorem cV_R (C0 : cxt E cc nL own ret p s m args meth c) (hE : Est A E) (hP : va_P g.1 vwCl w H) (hS : va_S A s.heap H locs) (hK : va_K g.1 vwCl (tyG g) s)
    (pk : pkV y bytes maxL ret' C n) (hM : Met l y (Cond.code y bytes maxL ret' :: gw) rm (pG w E g (.ref b :: As)) (qR rv ok) 0 0 noA) (hL : Cond.methodLink own index y ∈ gw)
    (hR : rm.cells = 0 ∧ rm.slots = 0 ∧ rm.frames + 1 ≤ R.frames ∧ 8 + (maxL + 11) + rm.locals ≤ R.locals ∧ cells ≤ R.cells ∧ slots ≤ R.slots)
    (q0 : Nat) {ci : Nat} {fs : List Value} {q : vw_C} (he : w[q0]? = some (b, .inr (ci, fs))) (hc : vwCl[ci]? = some q) (hq : q.1 = C) (hn : As.length = n) (hsz : ls.size = nL) (hst : st0 = As.reverse ++ .ref b :: rest) (hcat : (rest.map fun v => v.category).sum ≤ 8)
    (hdg : decode cc pc = .ok (.invokevirtual index, 3)) (kk : ok → W p l e R s m args below meth c H locs cells slots Q (F0 m (pc + 3) ls (rv.toList ++ rest))) : W p l e R s m args below meth c H locs cells slots Q (F0 m pc ls st0) :=
  go_R (run_V (Qc := qR rv ok #[]) C0 (pG_blind hE) hP (fun U h1 h2 => e_at C0 hE hS h1 h2) hK pk hM hL hR q0 he hc hq hn hsz hst hcat hdg) kk
theorem cV_W (C0 : cxt E cc nL own ret p s m args meth c) (hE : Est A E) (hP : va_P g.1 vwCl w H) (hS : va_S A s.heap H locs) (hK : va_K g.1 vwCl (tyG g) s)
    (pk : pkV y bytes maxL ret' C n) (hM : Met l y (Cond.code y bytes maxL ret' :: gw) rm (pG w E g (.ref b :: As)) (qW w' g A rv ok) 0 0 A) (hL : Cond.methodLink own index y ∈ gw)
    (hR : rm.cells = 0 ∧ rm.slots = 0 ∧ rm.frames + 1 ≤ R.frames ∧ 8 + (maxL + 11) + rm.locals ≤ R.locals ∧ cells ≤ R.cells ∧ slots ≤ R.slots)
    (q0 : Nat) {ci : Nat} {fs : List Value} {q : vw_C} (he : w[q0]? = some (b, .inr (ci, fs))) (hc : vwCl[ci]? = some q) (hq : q.1 = C) (hn : As.length = n) (hsz : ls.size = nL) (hst : st0 = As.reverse ++ .ref b :: rest) (hcat : (rest.map fun v => v.category).sum ≤ 8)
    (hdg : decode cc pc = .ok (.invokevirtual index, 3)) (kk : ∀ (H1 : Heap) (locs1 : List Loc), ok → va_P g.1 vwCl w' H1 → va_S A s.heap H1 locs1 → W p l e R s m args below meth c H1 locs1 cells slots Q (F0 m (pc + 3) ls (rv.toList ++ rest))) : W p l e R s m args below meth c H locs cells slots Q (F0 m pc ls st0) :=
  go_W (run_V (Qc := qW w' g A rv ok #[]) C0 (pG_blind hE) hP (fun U h1 h2 => e_at C0 hE hS h1 h2) hK pk hM hL hR q0 he hc hq hn hsz hst hcat hdg) hS (fun _ h => h) (fun H1 locs1 h1 h2 h3 _ _ => kk H1 locs1 h1 h2 h3)
/-- invokestatic of a method of the same class over no world -/
theorem cS_R (C0 : cxt E cc nL own ret p s m args meth c)
    (pk : pkS y bytes maxL ret' n) (hM : Met l y (Cond.code y bytes maxL ret' :: gw) rm (pG [] (fun _ => True) g As) (qR rv ok) 0 0 noA) (hL : Cond.methodLink own index y ∈ gw)
    (hR : rm.cells = 0 ∧ rm.slots = 0 ∧ rm.frames + 1 ≤ R.frames ∧ 8 + (maxL + 11) + rm.locals ≤ R.locals ∧ cells ≤ R.cells ∧ slots ≤ R.slots)
    (hn : As.length = n) (hsz : ls.size = nL) (hst : st0 = As.reverse ++ rest) (hcat : (rest.map fun v => v.category).sum ≤ 8)
    (hdg : decode cc pc = .ok (.invokestatic index, 3)) (kk : ok → W p l e R s m args below meth c H locs cells slots Q (F0 m (pc + 3) ls (rv.toList ++ rest))) : W p l e R s m args below meth c H locs cells slots Q (F0 m pc ls st0) :=
  go_R (run_S (g := g) (Qc := qR rv ok #[]) C0 (pG_blind (A := fun _ => False) (fun _ _ _ _ _ _ => trivial)) (fun k q h => by simp at h) (fun _ _ _ => trivial) pk hM hL hR hn hsz hst hcat hdg) kk
/-- invokestatic over the same world -/
theorem cS_RW (C0 : cxt E cc nL own ret p s m args meth c) (hE : Est A E) (hP : va_P g.1 vwCl w H) (hS : va_S A s.heap H locs)
    (pk : pkS y bytes maxL ret' n) (hM : Met l y (Cond.code y bytes maxL ret' :: gw) rm (pG w E g As) (qR rv ok) 0 0 noA) (hL : Cond.methodLink own index y ∈ gw)
    (hR : rm.cells = 0 ∧ rm.slots = 0 ∧ rm.frames + 1 ≤ R.frames ∧ 8 + (maxL + 11) + rm.locals ≤ R.locals ∧ cells ≤ R.cells ∧ slots ≤ R.slots)
    (hn : As.length = n) (hsz : ls.size = nL) (hst : st0 = As.reverse ++ rest) (hcat : (rest.map fun v => v.category).sum ≤ 8)
    (hdg : decode cc pc = .ok (.invokestatic index, 3)) (kk : ok → W p l e R s m args below meth c H locs cells slots Q (F0 m (pc + 3) ls (rv.toList ++ rest))) : W p l e R s m args below meth c H locs cells slots Q (F0 m pc ls st0) :=
  go_R (run_S (Qc := qR rv ok #[]) C0 (pG_blind hE) hP (fun U h1 h2 => e_at C0 hE hS h1 h2) pk hM hL hR hn hsz hst hcat hdg) kk
/-- a field of a world's object becomes v -/
theorem put_W {ws ws' : va_W} {T : u_T} {N ci k a : Nat} {fs : List Value} {ref : String} {v : Value} {ty : FieldType} {ty0 : Nat → FieldType} (C0 : cxt E cc nL own ret p s m args meth c) (hK : va_K g.1 vwCl (tyG g) s) (hP : va_P g.1 vwCl ws H) (hD : va_D A ws) (hS : va_S A s.heap H locs)
    (hin : ∀ w ∈ u_ws C T N, w ∈ gw) (hty : ∀ k, k < N → parseFieldDescriptor (T k).2.2.1 = some (ty0 k)) (hnm : ∀ a, a < N → ∀ b, b < N → a ≠ b → (T a).2.1 ≠ (T b).2.1) (q0 : Nat) (he : ws[q0]? = some (a, .inr (ci, fs))) (hc : vwCl[ci]? = some (C, T, N)) (hk : k < N) (hlink : Cond.fieldLink own index ref (T k).2.1 (T k).2.2.1 ∈ gw) (href : (T k).1 = ref) (hfin : (T k).2.2.2 = false)
    (hd : parseFieldDescriptor (T k).2.2.1 = some ty) (hn : narrow ty v = v) (hfit : fits ty v = true) (hl : k < fs.length) (hset : ws.set q0 (a, .inr (ci, fs.set k v)) = ws')
    (hdg : decode cc pc = .ok (.putfield index, 3)) (kk : ∀ (H1 : Heap) (locs1 : List Loc), va_P g.1 vwCl ws' H1 → va_S A s.heap H1 locs1 → W p l e R s m args below meth c H1 locs1 cells slots Q (F0 m (pc + 3) ls rest)) : W p l e R s m args below meth c H locs cells slots Q (F0 m pc ls (v :: .ref a :: rest)) := by
  obtain ⟨hx, hb, hml, hown, hts, -⟩ := C0
  subst href
  exact va_put hx hb hts hin ty0 hty hnm hown hK hP hD hS q0 he hc k hk (hts _ hlink) (fun _ h => h) hfin hd hn hfit hl hdg (fun H1 locs1 h1 _ h3 => kk H1 locs1 (by rw [← hset]; exact h1) h3)
theorem get_W {ws : va_W} {T : u_T} {N ci a : Nat} {fs : List Value} {ref : String} {v : Value} (C0 : cxt E cc nL own ret p s m args meth c) (hK : va_K g.1 vwCl (tyG g) s) (hP : va_P g.1 vwCl ws H)
    (hin : ∀ w ∈ u_ws C T N, w ∈ gw) (q0 : Nat) (he : ws[q0]? = some (a, .inr (ci, fs))) (hc : vwCl[ci]? = some (C, T, N)) (k : Nat) (hk : k < N) (hlink : Cond.fieldLink own index ref (T k).2.1 (T k).2.2.1 ∈ gw) (href : (T k).1 = ref) (hv : fs[k]? = some v)
    (hdg : decode cc pc = .ok (.getfield index, 3)) (kk : W p l e R s m args below meth c H locs cells slots Q (F0 m (pc + 3) ls (v :: rest))) : W p l e R s m args below meth c H locs cells slots Q (F0 m pc ls (.ref a :: rest)) := by
  obtain ⟨hx, hb, hml, hown, hts, -⟩ := C0
  subst href
  exact va_get hx hb hts hin hown hK hP q0 he hc k hk (hts _ hlink) (fun _ h => h) hv hdg kk
theorem iast_W {ws ws' : va_W} {a n : Nat} {f : Nat → Int32} {i x : Int32} (C0 : cxt E cc nL own ret p s m args meth c) (hK : va_K g.1 vwCl (tyG g) s) (hP : va_P g.1 vwCl ws H) (hD : va_D A ws) (hS : va_S A s.heap H locs)
    (q0 : Nat) (ha : ws[q0]? = some (a, .inl (g.2.1, n, .inl f))) (hin : vp_in i n) (hset : ws.set q0 (a, .inl (g.2.1, n, .inl (upd f i.toNatClampNeg x))) = ws') (hdg : decode cc pc = .ok (.iastore, 1))
    (kk : ∀ (H1 : Heap) (locs1 : List Loc), va_P g.1 vwCl ws' H1 → va_S A s.heap H1 locs1 → W p l e R s m args below meth c H1 locs1 cells slots Q (F0 m (pc + 1) ls rest)) : W p l e R s m args below meth c H locs cells slots Q (F0 m pc ls (.int x :: .int i :: .ref a :: rest)) := by
  obtain ⟨hx, hb, hml, hown, hts, -⟩ := C0
  exact va_iast hx hb hK hP hD hS q0 0 ha rfl hin hdg (fun H1 locs1 h1 _ h3 => kk H1 locs1 (by rw [← hset]; exact h1) h3)
theorem zast_W {ws ws' : va_W} {a n : Nat} {f : Nat → Int32} {i x : Int32} (C0 : cxt E cc nL own ret p s m args meth c) (hK : va_K g.1 vwCl (tyG g) s) (hP : va_P g.1 vwCl ws H) (hD : va_D A ws) (hS : va_S A s.heap H locs)
    (q0 : Nat) (ha : ws[q0]? = some (a, .inl (g.2.2.1, n, .inl f))) (hin : vp_in i n) (hset : ws.set q0 (a, .inl (g.2.2.1, n, .inl (upd f i.toNatClampNeg (vp_nar .boolean x)))) = ws') (hdg : decode cc pc = .ok (.bastore, 1))
    (kk : ∀ (H1 : Heap) (locs1 : List Loc), va_P g.1 vwCl ws' H1 → va_S A s.heap H1 locs1 → W p l e R s m args below meth c H1 locs1 cells slots Q (F0 m (pc + 1) ls rest)) : W p l e R s m args below meth c H locs cells slots Q (F0 m pc ls (.int x :: .int i :: .ref a :: rest)) := by
  obtain ⟨hx, hb, hml, hown, hts, -⟩ := C0
  exact va_zast hx hb hK hP hD hS q0 1 ha rfl hin hdg (fun H1 locs1 h1 _ h3 => kk H1 locs1 (by rw [← hset]; exact h1) h3)
/-- returns -/
theorem ret_Ri {v : Int32} {ok : Prop} (C0 : cxt E cc nL own (some .int) p s m args meth c) (hok : ok) (hdg : decode cc pc = .ok (.ireturn, 1)) : W p l e R s m args below meth c s.heap [] cells slots (MQ below (qR (some (.int v)) ok) args s cells slots noA) (F0 m pc ls [.int v]) := by
  obtain ⟨hx, hb, hml, hown, hts, hr, hlk, -⟩ := C0
  exact W.iret hx hb hr (fun t ht _ => ⟨rfl, hok, ht⟩) (fun q h => by cases h) hdg hlk
theorem ret_Rz {v : Int32} {ok : Prop} (C0 : cxt E cc nL own (some .boolean) p s m args meth c) (hv : isB v) (hok : ok) (hdg : decode cc pc = .ok (.ireturn, 1)) : W p l e R s m args below meth c s.heap [] cells slots (MQ below (qR (some (.int v)) ok) args s cells slots noA) (F0 m pc ls [.int v]) := by
  obtain ⟨hx, hb, hml, hown, hts, hr, hlk, -⟩ := C0
  exact W.zret hx hb hr (isB_nar hv) (fun t ht _ => ⟨rfl, hok, ht⟩) (fun q h => by cases h) hdg hlk
theorem ret_Wi {v : Int32} {ok : Prop} (C0 : cxt E cc nL own (some .int) p s m args meth c) (hP : va_P g.1 vwCl w H) (hS : va_S A s.heap H locs) (hok : ok) (hdg : decode cc pc = .ok (.ireturn, 1)) : W p l e R s m args below meth c H locs cells slots (MQ below (qW w g A (some (.int v)) ok) args s cells slots A) (F0 m pc ls [.int v]) := by
  obtain ⟨hx, hb, hml, hown, hts, hr, hlk, -⟩ := C0
  exact W.iret hx hb hr (fun t ht _ => ⟨rfl, hok, by rw [ht]; exact hP, hS.F ht⟩) hS.2.2 hdg hlk
theorem ret_Wv {ok : Prop} (C0 : cxt E cc nL own none p s m args meth c) (hP : va_P g.1 vwCl w H) (hS : va_S A s.heap H locs) (hok : ok) (hdg : decode cc pc = .ok (.return_, 1)) : W p l e R s m args below meth c H locs cells slots (MQ below (qW w g A none ok) args s cells slots A) (F0 m pc ls []) := by
  obtain ⟨hx, hb, hml, hown, hts, hr, hlk, -⟩ := C0
  exact W.vret hx hb hr (fun t ht _ => ⟨rfl, hok, by rw [ht]; exact hP, hS.F ht⟩) hS.2.2 hdg hlk
end CALLS
end
